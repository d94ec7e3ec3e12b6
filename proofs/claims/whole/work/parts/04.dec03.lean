theorem dX5_contradicts_10 : decode cX5_contradicts 10 = .ok (.invokevirtual 74, 3) := by decide +kernel
theorem dX5_contradicts_13 : decode cX5_contradicts 13 = .ok (.ifCond .eq 8, 3) := by decide +kernel
theorem dX5_contradicts_16 : decode cX5_contradicts 16 = .ok (.iload_n 1, 1) := by decide +kernel
theorem dX5_contradicts_17 : decode cX5_contradicts 17 = .ok (.iload_n 2, 1) := by decide +kernel
theorem dX5_contradicts_18 : decode cX5_contradicts 18 = .ok (.if_icmp .ne 10, 3) := by decide +kernel
theorem dX5_contradicts_21 : decode cX5_contradicts 21 = .ok (.aload_n 0, 1) := by decide +kernel
theorem dX5_contradicts_22 : decode cX5_contradicts 22 = .ok (.bipush (-2), 2) := by decide +kernel
theorem dX5_contradicts_24 : decode cX5_contradicts 24 = .ok (.invokevirtual 44, 3) := by decide +kernel
theorem dX5_contradicts_27 : decode cX5_contradicts 27 = .ok (.ireturn, 1) := by decide +kernel
theorem dX5_contradicts_28 : decode cX5_contradicts 28 = .ok (.aload_n 0, 1) := by decide +kernel
theorem dX5_contradicts_29 : decode cX5_contradicts 29 = .ok (.getfield 12, 3) := by decide +kernel
theorem dX5_contradicts_32 : decode cX5_contradicts 32 = .ok (.getfield 56, 3) := by decide +kernel
theorem dX5_contradicts_35 : decode cX5_contradicts 35 = .ok (.iload_n 1, 1) := by decide +kernel
theorem dX5_contradicts_36 : decode cX5_contradicts 36 = .ok (.bipush 9, 2) := by decide +kernel
theorem dX5_contradicts_38 : decode cX5_contradicts 38 = .ok (.invokevirtual 81, 3) := by decide +kernel
theorem dX5_contradicts_41 : decode cX5_contradicts 41 = .ok (.aload_n 0, 1) := by decide +kernel
theorem dX5_contradicts_42 : decode cX5_contradicts 42 = .ok (.getfield 12, 3) := by decide +kernel
theorem dX5_contradicts_45 : decode cX5_contradicts 45 = .ok (.getfield 56, 3) := by decide +kernel
theorem dX5_contradicts_48 : decode cX5_contradicts 48 = .ok (.iload_n 2, 1) := by decide +kernel
theorem dX5_contradicts_49 : decode cX5_contradicts 49 = .ok (.bipush 9, 2) := by decide +kernel
theorem dX5_contradicts_51 : decode cX5_contradicts 51 = .ok (.invokevirtual 81, 3) := by decide +kernel
theorem dX5_contradicts_54 : decode cX5_contradicts 54 = .ok (.if_icmp .ne 5, 3) := by decide +kernel
theorem dX5_contradicts_57 : decode cX5_contradicts 57 = .ok (.iconst 0, 1) := by decide +kernel
theorem dX5_contradicts_58 : decode cX5_contradicts 58 = .ok (.ireturn, 1) := by decide +kernel
theorem dX5_contradicts_59 : decode cX5_contradicts 59 = .ok (.aload_n 0, 1) := by decide +kernel
theorem dX5_contradicts_60 : decode cX5_contradicts 60 = .ok (.getfield 33, 3) := by decide +kernel
theorem dX5_contradicts_63 : decode cX5_contradicts 63 = .ok (.aload_n 0, 1) := by decide +kernel
theorem dX5_contradicts_64 : decode cX5_contradicts 64 = .ok (.getfield 12, 3) := by decide +kernel
theorem dX5_contradicts_67 : decode cX5_contradicts 67 = .ok (.getfield 56, 3) := by decide +kernel
theorem dX5_contradicts_70 : decode cX5_contradicts 70 = .ok (.aload_n 0, 1) := by decide +kernel
theorem dX5_contradicts_71 : decode cX5_contradicts 71 = .ok (.getfield 12, 3) := by decide +kernel
theorem dX5_contradicts_74 : decode cX5_contradicts 74 = .ok (.getfield 52, 3) := by decide +kernel
theorem dX5_contradicts_77 : decode cX5_contradicts 77 = .ok (.invokevirtual 112, 3) := by decide +kernel
theorem dX5_contradicts_80 : decode cX5_contradicts 80 = .ok (.aload_n 0, 1) := by decide +kernel
theorem dX5_contradicts_81 : decode cX5_contradicts 81 = .ok (.getfield 33, 3) := by decide +kernel
theorem dX5_contradicts_84 : decode cX5_contradicts 84 = .ok (.iload_n 1, 1) := by decide +kernel
theorem dX5_contradicts_85 : decode cX5_contradicts 85 = .ok (.iload_n 2, 1) := by decide +kernel
theorem dX5_contradicts_86 : decode cX5_contradicts 86 = .ok (.invokevirtual 119, 3) := by decide +kernel
theorem dX5_contradicts_89 : decode cX5_contradicts 89 = .ok (.ireturn, 1) := by decide +kernel
theorem dX5_change_0 : decode cX5_change 0 = .ok (.iload_n 1, 1) := by decide +kernel
theorem dX5_change_1 : decode cX5_change 1 = .ok (.iconst 0, 1) := by decide +kernel
theorem dX5_change_2 : decode cX5_change 2 = .ok (.bipush 6, 2) := by decide +kernel
theorem dX5_change_4 : decode cX5_change 4 = .ok (.invokestatic 40, 3) := by decide +kernel
theorem dX5_change_7 : decode cX5_change 7 = .ok (.ifCond .ne 10, 3) := by decide +kernel
theorem dX5_change_10 : decode cX5_change 10 = .ok (.aload_n 0, 1) := by decide +kernel
theorem dX5_change_11 : decode cX5_change 11 = .ok (.bipush (-2), 2) := by decide +kernel
theorem dX5_change_13 : decode cX5_change 13 = .ok (.invokevirtual 44, 3) := by decide +kernel
theorem dX5_change_16 : decode cX5_change 16 = .ok (.ireturn, 1) := by decide +kernel
theorem dX5_change_17 : decode cX5_change 17 = .ok (.aload_n 0, 1) := by decide +kernel
theorem dX5_change_18 : decode cX5_change 18 = .ok (.getfield 33, 3) := by decide +kernel
theorem dX5_change_21 : decode cX5_change 21 = .ok (.aload_n 0, 1) := by decide +kernel
theorem dX5_change_22 : decode cX5_change 22 = .ok (.getfield 12, 3) := by decide +kernel
theorem dX5_change_25 : decode cX5_change 25 = .ok (.getfield 56, 3) := by decide +kernel
theorem dX5_change_28 : decode cX5_change 28 = .ok (.aload_n 0, 1) := by decide +kernel
theorem dX5_change_29 : decode cX5_change 29 = .ok (.getfield 12, 3) := by decide +kernel
theorem dX5_change_32 : decode cX5_change 32 = .ok (.getfield 52, 3) := by decide +kernel
theorem dX5_change_35 : decode cX5_change 35 = .ok (.invokevirtual 112, 3) := by decide +kernel
theorem dX5_change_38 : decode cX5_change 38 = .ok (.aload_n 0, 1) := by decide +kernel
theorem dX5_change_39 : decode cX5_change 39 = .ok (.getfield 37, 3) := by decide +kernel
theorem dX5_change_42 : decode cX5_change 42 = .ok (.aload_n 0, 1) := by decide +kernel
theorem dX5_change_43 : decode cX5_change 43 = .ok (.getfield 12, 3) := by decide +kernel
theorem dX5_change_46 : decode cX5_change 46 = .ok (.getfield 97, 3) := by decide +kernel
theorem dX5_change_49 : decode cX5_change 49 = .ok (.aload_n 0, 1) := by decide +kernel
theorem dX5_change_50 : decode cX5_change 50 = .ok (.getfield 12, 3) := by decide +kernel
theorem dX5_change_53 : decode cX5_change 53 = .ok (.getfield 52, 3) := by decide +kernel
theorem dX5_change_56 : decode cX5_change 56 = .ok (.invokevirtual 112, 3) := by decide +kernel
theorem dX5_change_59 : decode cX5_change 59 = .ok (.iload_n 1, 1) := by decide +kernel
theorem dX5_change_60 : decode cX5_change 60 = .ok (.ifCond .ne 15, 3) := by decide +kernel
theorem dX5_change_63 : decode cX5_change 63 = .ok (.aload_n 0, 1) := by decide +kernel
theorem dX5_change_64 : decode cX5_change 64 = .ok (.getfield 33, 3) := by decide +kernel
theorem dX5_change_67 : decode cX5_change 67 = .ok (.aload_n 0, 1) := by decide +kernel
theorem dX5_change_68 : decode cX5_change 68 = .ok (.getfield 37, 3) := by decide +kernel
theorem dX5_change_71 : decode cX5_change 71 = .ok (.invokevirtual 129, 3) := by decide +kernel
theorem dX5_change_74 : decode cX5_change 74 = .ok (.ireturn, 1) := by decide +kernel
theorem dX5_change_75 : decode cX5_change 75 = .ok (.aload_n 0, 1) := by decide +kernel
theorem dX5_change_76 : decode cX5_change 76 = .ok (.getfield 33, 3) := by decide +kernel
theorem dX5_change_79 : decode cX5_change 79 = .ok (.aload_n 0, 1) := by decide +kernel
theorem dX5_change_80 : decode cX5_change 80 = .ok (.getfield 37, 3) := by decide +kernel
theorem dX5_change_83 : decode cX5_change 83 = .ok (.invokevirtual 125, 3) := by decide +kernel
theorem dX5_change_86 : decode cX5_change 86 = .ok (.istore_n 2, 1) := by decide +kernel
theorem dX5_change_87 : decode cX5_change 87 = .ok (.iload_n 2, 1) := by decide +kernel
theorem dX5_change_88 : decode cX5_change 88 = .ok (.iconst (-1), 1) := by decide +kernel
theorem dX5_change_89 : decode cX5_change 89 = .ok (.if_icmp .ne 7, 3) := by decide +kernel
theorem dX5_change_92 : decode cX5_change 92 = .ok (.iconst (-1), 1) := by decide +kernel
theorem dX5_change_93 : decode cX5_change 93 = .ok (.goto 9, 3) := by decide +kernel
theorem dX5_change_96 : decode cX5_change 96 = .ok (.aload_n 0, 1) := by decide +kernel
theorem dX5_change_97 : decode cX5_change 97 = .ok (.iload_n 2, 1) := by decide +kernel
theorem dX5_change_98 : decode cX5_change 98 = .ok (.iload_n 1, 1) := by decide +kernel
theorem dX5_change_99 : decode cX5_change 99 = .ok (.invokevirtual 132, 3) := by decide +kernel
theorem dX5_change_102 : decode cX5_change 102 = .ok (.ireturn, 1) := by decide +kernel
theorem dX5_all_0 : decode cX5_all 0 = .ok (.iload_n 1, 1) := by decide +kernel
theorem dX5_all_1 : decode cX5_all 1 = .ok (.iconst 0, 1) := by decide +kernel
theorem dX5_all_2 : decode cX5_all 2 = .ok (.iconst 2, 1) := by decide +kernel
theorem dX5_all_3 : decode cX5_all 3 = .ok (.invokestatic 40, 3) := by decide +kernel
theorem dX5_all_6 : decode cX5_all 6 = .ok (.ifCond .ne 10, 3) := by decide +kernel
theorem dX5_all_9 : decode cX5_all 9 = .ok (.aload_n 0, 1) := by decide +kernel
theorem dX5_all_10 : decode cX5_all 10 = .ok (.bipush (-2), 2) := by decide +kernel
theorem dX5_all_12 : decode cX5_all 12 = .ok (.invokevirtual 44, 3) := by decide +kernel
theorem dX5_all_15 : decode cX5_all 15 = .ok (.ireturn, 1) := by decide +kernel
theorem dX5_all_16 : decode cX5_all 16 = .ok (.aload_n 0, 1) := by decide +kernel
theorem dX5_all_17 : decode cX5_all 17 = .ok (.getfield 33, 3) := by decide +kernel
theorem dX5_all_20 : decode cX5_all 20 = .ok (.aload_n 0, 1) := by decide +kernel
theorem dX5_all_21 : decode cX5_all 21 = .ok (.getfield 12, 3) := by decide +kernel
theorem dX5_all_24 : decode cX5_all 24 = .ok (.getfield 56, 3) := by decide +kernel
theorem dX5_all_27 : decode cX5_all 27 = .ok (.aload_n 0, 1) := by decide +kernel
theorem dX5_all_28 : decode cX5_all 28 = .ok (.getfield 12, 3) := by decide +kernel
theorem dX5_all_31 : decode cX5_all 31 = .ok (.getfield 52, 3) := by decide +kernel
theorem dX5_all_34 : decode cX5_all 34 = .ok (.invokevirtual 112, 3) := by decide +kernel
theorem dX5_all_37 : decode cX5_all 37 = .ok (.aload_n 0, 1) := by decide +kernel
theorem dX5_all_38 : decode cX5_all 38 = .ok (.getfield 33, 3) := by decide +kernel
theorem dX5_all_41 : decode cX5_all 41 = .ok (.iload_n 1, 1) := by decide +kernel
theorem dX5_all_42 : decode cX5_all 42 = .ok (.invokevirtual 135, 3) := by decide +kernel
theorem dX5_all_45 : decode cX5_all 45 = .ok (.ireturn, 1) := by decide +kernel
theorem dX5_letter_0 : decode cX5_letter 0 = .ok (.iload_n 1, 1) := by decide +kernel
theorem dX5_letter_1 : decode cX5_letter 1 = .ok (.iload_n 2, 1) := by decide +kernel
theorem dX5_letter_2 : decode cX5_letter 2 = .ok (.iload_n 3, 1) := by decide +kernel
theorem dX5_letter_3 : decode cX5_letter 3 = .ok (.iload 4, 2) := by decide +kernel
theorem dX5_letter_5 : decode cX5_letter 5 = .ok (.invokestatic 104, 3) := by decide +kernel
theorem dX5_letter_8 : decode cX5_letter 8 = .ok (.ifCond .eq 13, 3) := by decide +kernel
theorem dX5_letter_11 : decode cX5_letter 11 = .ok (.iload 5, 2) := by decide +kernel
theorem dX5_letter_13 : decode cX5_letter 13 = .ok (.iconst 0, 1) := by decide +kernel
theorem dX5_letter_14 : decode cX5_letter 14 = .ok (.iconst 4, 1) := by decide +kernel
theorem dX5_letter_15 : decode cX5_letter 15 = .ok (.invokestatic 40, 3) := by decide +kernel
theorem dX5_letter_18 : decode cX5_letter 18 = .ok (.ifCond .ne 10, 3) := by decide +kernel
theorem dX5_letter_21 : decode cX5_letter 21 = .ok (.aload_n 0, 1) := by decide +kernel
theorem dX5_letter_22 : decode cX5_letter 22 = .ok (.bipush (-2), 2) := by decide +kernel
theorem dX5_letter_24 : decode cX5_letter 24 = .ok (.invokevirtual 44, 3) := by decide +kernel
theorem dX5_letter_27 : decode cX5_letter 27 = .ok (.ireturn, 1) := by decide +kernel
theorem dX5_letter_28 : decode cX5_letter 28 = .ok (.aload_n 0, 1) := by decide +kernel
theorem dX5_letter_29 : decode cX5_letter 29 = .ok (.getfield 19, 3) := by decide +kernel
theorem dX5_letter_32 : decode cX5_letter 32 = .ok (.aload_n 0, 1) := by decide +kernel
theorem dX5_letter_33 : decode cX5_letter 33 = .ok (.getfield 12, 3) := by decide +kernel
theorem dX5_letter_36 : decode cX5_letter 36 = .ok (.invokevirtual 48, 3) := by decide +kernel
theorem dX5_letter_39 : decode cX5_letter 39 = .ok (.aload_n 0, 1) := by decide +kernel
theorem dX5_letter_40 : decode cX5_letter 40 = .ok (.iload_n 1, 1) := by decide +kernel
theorem dX5_letter_41 : decode cX5_letter 41 = .ok (.iload_n 2, 1) := by decide +kernel
theorem dX5_letter_42 : decode cX5_letter 42 = .ok (.iload_n 3, 1) := by decide +kernel
theorem dX5_letter_43 : decode cX5_letter 43 = .ok (.iload 4, 2) := by decide +kernel
theorem dX5_letter_45 : decode cX5_letter 45 = .ok (.iload 5, 2) := by decide +kernel
theorem dX5_letter_47 : decode cX5_letter 47 = .ok (.invokevirtual 138, 3) := by decide +kernel
theorem dX5_letter_50 : decode cX5_letter 50 = .ok (.istore 6, 2) := by decide +kernel
theorem dX5_letter_52 : decode cX5_letter 52 = .ok (.aload_n 0, 1) := by decide +kernel
theorem dX5_letter_53 : decode cX5_letter 53 = .ok (.getfield 12, 3) := by decide +kernel
theorem dX5_letter_56 : decode cX5_letter 56 = .ok (.iload 6, 2) := by decide +kernel
theorem dX5_letter_58 : decode cX5_letter 58 = .ok (.invokestatic 142, 3) := by decide +kernel
theorem dX5_letter_61 : decode cX5_letter 61 = .ok (.iconst 1, 1) := by decide +kernel
theorem dX5_letter_62 : decode cX5_letter 62 = .ok (.invokevirtual 145, 3) := by decide +kernel
theorem dX5_letter_65 : decode cX5_letter 65 = .ok (.iload 6, 2) := by decide +kernel
theorem dX5_letter_67 : decode cX5_letter 67 = .ok (.ireturn, 1) := by decide +kernel
theorem dX5_announces_0 : decode cX5_announces 0 = .ok (.aload_n 0, 1) := by decide +kernel
theorem dX5_announces_1 : decode cX5_announces 1 = .ok (.iload_n 1, 1) := by decide +kernel
theorem dX5_announces_2 : decode cX5_announces 2 = .ok (.invokevirtual 148, 3) := by decide +kernel
theorem dX5_announces_5 : decode cX5_announces 5 = .ok (.ifCond .eq 22, 3) := by decide +kernel
theorem dX5_announces_8 : decode cX5_announces 8 = .ok (.iload_n 2, 1) := by decide +kernel
theorem dX5_announces_9 : decode cX5_announces 9 = .ok (.iconst 0, 1) := by decide +kernel
theorem dX5_announces_10 : decode cX5_announces 10 = .ok (.iconst 1, 1) := by decide +kernel
theorem dX5_announces_11 : decode cX5_announces 11 = .ok (.invokestatic 40, 3) := by decide +kernel
theorem dX5_announces_14 : decode cX5_announces 14 = .ok (.ifCond .eq 13, 3) := by decide +kernel
theorem dX5_announces_17 : decode cX5_announces 17 = .ok (.iload_n 3, 1) := by decide +kernel
theorem dX5_announces_18 : decode cX5_announces 18 = .ok (.iconst 0, 1) := by decide +kernel
theorem dX5_announces_19 : decode cX5_announces 19 = .ok (.bipush 15, 2) := by decide +kernel
theorem dX5_announces_21 : decode cX5_announces 21 = .ok (.invokestatic 40, 3) := by decide +kernel
theorem dX5_announces_24 : decode cX5_announces 24 = .ok (.ifCond .ne 10, 3) := by decide +kernel
theorem dX5_announces_27 : decode cX5_announces 27 = .ok (.aload_n 0, 1) := by decide +kernel
theorem dX5_announces_28 : decode cX5_announces 28 = .ok (.bipush (-2), 2) := by decide +kernel
theorem dX5_announces_30 : decode cX5_announces 30 = .ok (.invokevirtual 44, 3) := by decide +kernel
theorem dX5_announces_33 : decode cX5_announces 33 = .ok (.ireturn, 1) := by decide +kernel
theorem dX5_announces_34 : decode cX5_announces 34 = .ok (.aload_n 0, 1) := by decide +kernel
theorem dX5_announces_35 : decode cX5_announces 35 = .ok (.getfield 12, 3) := by decide +kernel
theorem dX5_announces_38 : decode cX5_announces 38 = .ok (.getfield 151, 3) := by decide +kernel
theorem dX5_announces_41 : decode cX5_announces 41 = .ok (.iload_n 1, 1) := by decide +kernel
theorem dX5_announces_42 : decode cX5_announces 42 = .ok (.iconst 4, 1) := by decide +kernel
theorem dX5_announces_43 : decode cX5_announces 43 = .ok (.invokevirtual 81, 3) := by decide +kernel
theorem dX5_announces_46 : decode cX5_announces 46 = .ok (.istore 4, 2) := by decide +kernel
theorem dX5_announces_48 : decode cX5_announces 48 = .ok (.iload 4, 2) := by decide +kernel
theorem dX5_announces_50 : decode cX5_announces 50 = .ok (.iconst 3, 1) := by decide +kernel
theorem dX5_announces_51 : decode cX5_announces 51 = .ok (.if_icmp .eq 17, 3) := by decide +kernel
theorem dX5_announces_54 : decode cX5_announces 54 = .ok (.iload 4, 2) := by decide +kernel
theorem dX5_announces_56 : decode cX5_announces 56 = .ok (.bipush 7, 2) := by decide +kernel
theorem dX5_announces_58 : decode cX5_announces 58 = .ok (.if_icmp .eq 10, 3) := by decide +kernel
theorem dX5_announces_61 : decode cX5_announces 61 = .ok (.aload_n 0, 1) := by decide +kernel
theorem dX5_announces_62 : decode cX5_announces 62 = .ok (.bipush (-3), 2) := by decide +kernel
theorem dX5_announces_64 : decode cX5_announces 64 = .ok (.invokevirtual 44, 3) := by decide +kernel
theorem dX5_announces_67 : decode cX5_announces 67 = .ok (.ireturn, 1) := by decide +kernel
theorem dX5_announces_68 : decode cX5_announces 68 = .ok (.aload_n 0, 1) := by decide +kernel
theorem dX5_announces_69 : decode cX5_announces 69 = .ok (.getfield 12, 3) := by decide +kernel
theorem dX5_announces_72 : decode cX5_announces 72 = .ok (.getfield 154, 3) := by decide +kernel
theorem dX5_announces_75 : decode cX5_announces 75 = .ok (.invokevirtual 66, 3) := by decide +kernel
theorem dX5_announces_78 : decode cX5_announces 78 = .ok (.ifCond .eq 10, 3) := by decide +kernel
theorem dX5_announces_81 : decode cX5_announces 81 = .ok (.aload_n 0, 1) := by decide +kernel
theorem dX5_announces_82 : decode cX5_announces 82 = .ok (.bipush (-4), 2) := by decide +kernel
theorem dX5_announces_84 : decode cX5_announces 84 = .ok (.invokevirtual 44, 3) := by decide +kernel
theorem dX5_announces_87 : decode cX5_announces 87 = .ok (.ireturn, 1) := by decide +kernel
theorem dX5_announces_88 : decode cX5_announces 88 = .ok (.aload_n 0, 1) := by decide +kernel
theorem dX5_announces_89 : decode cX5_announces 89 = .ok (.getfield 19, 3) := by decide +kernel
theorem dX5_announces_92 : decode cX5_announces 92 = .ok (.aload_n 0, 1) := by decide +kernel
theorem dX5_announces_93 : decode cX5_announces 93 = .ok (.getfield 12, 3) := by decide +kernel
theorem dX5_announces_96 : decode cX5_announces 96 = .ok (.invokevirtual 48, 3) := by decide +kernel
theorem dX5_announces_99 : decode cX5_announces 99 = .ok (.aload_n 0, 1) := by decide +kernel
theorem dX5_announces_100 : decode cX5_announces 100 = .ok (.getfield 12, 3) := by decide +kernel
theorem dX5_announces_103 : decode cX5_announces 103 = .ok (.getfield 151, 3) := by decide +kernel
theorem dX5_announces_106 : decode cX5_announces 106 = .ok (.iload_n 1, 1) := by decide +kernel
theorem dX5_announces_107 : decode cX5_announces 107 = .ok (.iconst 0, 1) := by decide +kernel
theorem dX5_announces_108 : decode cX5_announces 108 = .ok (.invokevirtual 81, 3) := by decide +kernel
theorem dX5_announces_111 : decode cX5_announces 111 = .ok (.istore 5, 2) := by decide +kernel
theorem dX5_announces_113 : decode cX5_announces 113 = .ok (.aload_n 0, 1) := by decide +kernel
theorem dX5_announces_114 : decode cX5_announces 114 = .ok (.getfield 12, 3) := by decide +kernel
theorem dX5_announces_117 : decode cX5_announces 117 = .ok (.getfield 151, 3) := by decide +kernel
theorem dX5_announces_120 : decode cX5_announces 120 = .ok (.iload_n 1, 1) := by decide +kernel
theorem dX5_announces_121 : decode cX5_announces 121 = .ok (.iconst 1, 1) := by decide +kernel
theorem dX5_announces_122 : decode cX5_announces 122 = .ok (.invokevirtual 81, 3) := by decide +kernel
theorem dX5_announces_125 : decode cX5_announces 125 = .ok (.istore 6, 2) := by decide +kernel
theorem dX5_announces_127 : decode cX5_announces 127 = .ok (.aload_n 0, 1) := by decide +kernel
theorem dX5_announces_128 : decode cX5_announces 128 = .ok (.getfield 12, 3) := by decide +kernel
theorem dX5_announces_131 : decode cX5_announces 131 = .ok (.getfield 151, 3) := by decide +kernel
theorem dX5_announces_134 : decode cX5_announces 134 = .ok (.iload_n 1, 1) := by decide +kernel
theorem dX5_announces_135 : decode cX5_announces 135 = .ok (.iconst 3, 1) := by decide +kernel
theorem dX5_announces_136 : decode cX5_announces 136 = .ok (.invokevirtual 81, 3) := by decide +kernel
theorem dX5_announces_139 : decode cX5_announces 139 = .ok (.istore 7, 2) := by decide +kernel
theorem dX5_announces_141 : decode cX5_announces 141 = .ok (.iload_n 2, 1) := by decide +kernel
theorem dX5_announces_142 : decode cX5_announces 142 = .ok (.ifCond .ne 23, 3) := by decide +kernel
theorem dX5_announces_145 : decode cX5_announces 145 = .ok (.aload_n 0, 1) := by decide +kernel
theorem dX5_announces_146 : decode cX5_announces 146 = .ok (.getfield 12, 3) := by decide +kernel
theorem dX5_announces_149 : decode cX5_announces 149 = .ok (.getfield 154, 3) := by decide +kernel
theorem dX5_announces_152 : decode cX5_announces 152 = .ok (.iload 6, 2) := by decide +kernel
theorem dX5_announces_154 : decode cX5_announces 154 = .ok (.iload 5, 2) := by decide +kernel
theorem dX5_announces_156 : decode cX5_announces 156 = .ok (.iload_n 3, 1) := by decide +kernel
theorem dX5_announces_157 : decode cX5_announces 157 = .ok (.iload 7, 2) := by decide +kernel
theorem dX5_announces_159 : decode cX5_announces 159 = .ok (.invokestatic 157, 3) := by decide +kernel
theorem dX5_announces_162 : decode cX5_announces 162 = .ok (.goto 20, 3) := by decide +kernel
theorem dX5_announces_165 : decode cX5_announces 165 = .ok (.aload_n 0, 1) := by decide +kernel
theorem dX5_announces_166 : decode cX5_announces 166 = .ok (.getfield 12, 3) := by decide +kernel
theorem dX5_announces_169 : decode cX5_announces 169 = .ok (.getfield 154, 3) := by decide +kernel
theorem dX5_announces_172 : decode cX5_announces 172 = .ok (.iload 5, 2) := by decide +kernel
theorem dX5_announces_174 : decode cX5_announces 174 = .ok (.iload 6, 2) := by decide +kernel
theorem dX5_announces_176 : decode cX5_announces 176 = .ok (.iload_n 3, 1) := by decide +kernel
theorem dX5_announces_177 : decode cX5_announces 177 = .ok (.iload 7, 2) := by decide +kernel
theorem dX5_announces_179 : decode cX5_announces 179 = .ok (.invokestatic 157, 3) := by decide +kernel
theorem dX5_announces_182 : decode cX5_announces 182 = .ok (.aload_n 0, 1) := by decide +kernel
theorem dX5_announces_183 : decode cX5_announces 183 = .ok (.getfield 12, 3) := by decide +kernel
theorem dX5_announces_186 : decode cX5_announces 186 = .ok (.getfield 154, 3) := by decide +kernel
theorem dX5_announces_189 : decode cX5_announces 189 = .ok (.aload_n 0, 1) := by decide +kernel
theorem dX5_announces_190 : decode cX5_announces 190 = .ok (.getfield 12, 3) := by decide +kernel
theorem dX5_announces_193 : decode cX5_announces 193 = .ok (.getfield 154, 3) := by decide +kernel
theorem dX5_announces_196 : decode cX5_announces 196 = .ok (.invokevirtual 60, 3) := by decide +kernel
theorem dX5_announces_199 : decode cX5_announces 199 = .ok (.iconst 1, 1) := by decide +kernel
theorem dX5_announces_200 : decode cX5_announces 200 = .ok (.isub, 1) := by decide +kernel
theorem dX5_announces_201 : decode cX5_announces 201 = .ok (.iconst 4, 1) := by decide +kernel
theorem dX5_announces_202 : decode cX5_announces 202 = .ok (.aload_n 0, 1) := by decide +kernel
theorem dX5_announces_203 : decode cX5_announces 203 = .ok (.getfield 12, 3) := by decide +kernel
theorem dX5_announces_206 : decode cX5_announces 206 = .ok (.getfield 161, 3) := by decide +kernel
theorem dX5_announces_209 : decode cX5_announces 209 = .ok (.bipush 10, 2) := by decide +kernel
theorem dX5_announces_211 : decode cX5_announces 211 = .ok (.iadd, 1) := by decide +kernel
theorem dX5_announces_212 : decode cX5_announces 212 = .ok (.invokevirtual 85, 3) := by decide +kernel
theorem dX5_announces_215 : decode cX5_announces 215 = .ok (.aload_n 0, 1) := by decide +kernel
theorem dX5_announces_216 : decode cX5_announces 216 = .ok (.getfield 12, 3) := by decide +kernel
theorem dX5_announces_219 : decode cX5_announces 219 = .ok (.getfield 154, 3) := by decide +kernel
theorem dX5_announces_222 : decode cX5_announces 222 = .ok (.invokevirtual 60, 3) := by decide +kernel
theorem dX5_announces_225 : decode cX5_announces 225 = .ok (.ireturn, 1) := by decide +kernel
theorem dX5_ticks_0 : decode cX5_ticks 0 = .ok (.iload_n 1, 1) := by decide +kernel
theorem dX5_ticks_1 : decode cX5_ticks 1 = .ok (.iconst 1, 1) := by decide +kernel
theorem dX5_ticks_2 : decode cX5_ticks 2 = .ok (.bipush 100, 2) := by decide +kernel
theorem dX5_ticks_4 : decode cX5_ticks 4 = .ok (.invokestatic 40, 3) := by decide +kernel
theorem dX5_ticks_7 : decode cX5_ticks 7 = .ok (.ifCond .ne 10, 3) := by decide +kernel
theorem dX5_ticks_10 : decode cX5_ticks 10 = .ok (.aload_n 0, 1) := by decide +kernel
theorem dX5_ticks_11 : decode cX5_ticks 11 = .ok (.bipush (-2), 2) := by decide +kernel
theorem dX5_ticks_13 : decode cX5_ticks 13 = .ok (.invokevirtual 44, 3) := by decide +kernel
theorem dX5_ticks_16 : decode cX5_ticks 16 = .ok (.ireturn, 1) := by decide +kernel
theorem dX5_ticks_17 : decode cX5_ticks 17 = .ok (.aload_n 0, 1) := by decide +kernel
theorem dX5_ticks_18 : decode cX5_ticks 18 = .ok (.getfield 19, 3) := by decide +kernel
theorem dX5_ticks_21 : decode cX5_ticks 21 = .ok (.aload_n 0, 1) := by decide +kernel
theorem dX5_ticks_22 : decode cX5_ticks 22 = .ok (.getfield 12, 3) := by decide +kernel
theorem dX5_ticks_25 : decode cX5_ticks 25 = .ok (.invokevirtual 48, 3) := by decide +kernel
theorem dX5_ticks_28 : decode cX5_ticks 28 = .ok (.aload_n 0, 1) := by decide +kernel
theorem dX5_ticks_29 : decode cX5_ticks 29 = .ok (.getfield 12, 3) := by decide +kernel
theorem dX5_ticks_32 : decode cX5_ticks 32 = .ok (.dup, 1) := by decide +kernel
theorem dX5_ticks_33 : decode cX5_ticks 33 = .ok (.getfield 161, 3) := by decide +kernel
theorem dX5_ticks_36 : decode cX5_ticks 36 = .ok (.iload_n 1, 1) := by decide +kernel
theorem dX5_ticks_37 : decode cX5_ticks 37 = .ok (.iadd, 1) := by decide +kernel
theorem dX5_ticks_38 : decode cX5_ticks 38 = .ok (.putfield 161, 3) := by decide +kernel
theorem dX5_ticks_41 : decode cX5_ticks 41 = .ok (.aload_n 0, 1) := by decide +kernel
theorem dX5_ticks_42 : decode cX5_ticks 42 = .ok (.getfield 12, 3) := by decide +kernel
theorem dX5_ticks_45 : decode cX5_ticks 45 = .ok (.iconst 5, 1) := by decide +kernel
theorem dX5_ticks_46 : decode cX5_ticks 46 = .ok (.aload_n 0, 1) := by decide +kernel
theorem dX5_ticks_47 : decode cX5_ticks 47 = .ok (.aload_n 0, 1) := by decide +kernel
theorem dX5_ticks_48 : decode cX5_ticks 48 = .ok (.getfield 12, 3) := by decide +kernel
theorem dX5_ticks_51 : decode cX5_ticks 51 = .ok (.getfield 151, 3) := by decide +kernel
theorem dX5_ticks_54 : decode cX5_ticks 54 = .ok (.iconst 5, 1) := by decide +kernel
theorem dX5_ticks_55 : decode cX5_ticks 55 = .ok (.invokevirtual 165, 3) := by decide +kernel
theorem dX5_ticks_58 : decode cX5_ticks 58 = .ok (.invokevirtual 145, 3) := by decide +kernel
theorem dX5_ticks_61 : decode cX5_ticks 61 = .ok (.aload_n 0, 1) := by decide +kernel
theorem dX5_ticks_62 : decode cX5_ticks 62 = .ok (.aload_n 0, 1) := by decide +kernel
theorem dX5_ticks_63 : decode cX5_ticks 63 = .ok (.getfield 12, 3) := by decide +kernel
theorem dX5_ticks_66 : decode cX5_ticks 66 = .ok (.getfield 154, 3) := by decide +kernel
theorem dX5_ticks_69 : decode cX5_ticks 69 = .ok (.iconst 4, 1) := by decide +kernel
theorem dX5_ticks_70 : decode cX5_ticks 70 = .ok (.invokevirtual 165, 3) := by decide +kernel
theorem dX5_ticks_73 : decode cX5_ticks 73 = .ok (.pop, 1) := by decide +kernel
theorem dX5_ticks_74 : decode cX5_ticks 74 = .ok (.aload_n 0, 1) := by decide +kernel
theorem dX5_ticks_75 : decode cX5_ticks 75 = .ok (.getfield 12, 3) := by decide +kernel
theorem dX5_ticks_78 : decode cX5_ticks 78 = .ok (.getfield 151, 3) := by decide +kernel
theorem dX5_ticks_81 : decode cX5_ticks 81 = .ok (.invokevirtual 60, 3) := by decide +kernel
theorem dX5_ticks_84 : decode cX5_ticks 84 = .ok (.ireturn, 1) := by decide +kernel
theorem dX5_span_0 : decode cX5_span 0 = .ok (.iload_n 1, 1) := by decide +kernel
theorem dX5_span_1 : decode cX5_span 1 = .ok (.iconst 1, 1) := by decide +kernel
theorem dX5_span_2 : decode cX5_span 2 = .ok (.bipush 7, 2) := by decide +kernel
theorem dX5_span_4 : decode cX5_span 4 = .ok (.invokestatic 40, 3) := by decide +kernel
theorem dX5_span_7 : decode cX5_span 7 = .ok (.ifCond .eq 13, 3) := by decide +kernel
theorem dX5_span_10 : decode cX5_span 10 = .ok (.iload_n 2, 1) := by decide +kernel
theorem dX5_span_11 : decode cX5_span 11 = .ok (.iconst 1, 1) := by decide +kernel
theorem dX5_span_12 : decode cX5_span 12 = .ok (.bipush 100, 2) := by decide +kernel
theorem dX5_span_14 : decode cX5_span 14 = .ok (.invokestatic 40, 3) := by decide +kernel
theorem dX5_span_17 : decode cX5_span 17 = .ok (.ifCond .ne 10, 3) := by decide +kernel
theorem dX5_span_20 : decode cX5_span 20 = .ok (.aload_n 0, 1) := by decide +kernel
theorem dX5_span_21 : decode cX5_span 21 = .ok (.bipush (-2), 2) := by decide +kernel
theorem dX5_span_23 : decode cX5_span 23 = .ok (.invokevirtual 44, 3) := by decide +kernel
theorem dX5_span_26 : decode cX5_span 26 = .ok (.ireturn, 1) := by decide +kernel
theorem dX5_span_27 : decode cX5_span 27 = .ok (.aload_n 0, 1) := by decide +kernel
theorem dX5_span_28 : decode cX5_span 28 = .ok (.getfield 19, 3) := by decide +kernel
theorem dX5_span_31 : decode cX5_span 31 = .ok (.aload_n 0, 1) := by decide +kernel
theorem dX5_span_32 : decode cX5_span 32 = .ok (.getfield 12, 3) := by decide +kernel
theorem dX5_span_35 : decode cX5_span 35 = .ok (.invokevirtual 48, 3) := by decide +kernel
theorem dX5_span_38 : decode cX5_span 38 = .ok (.aload_n 0, 1) := by decide +kernel
theorem dX5_span_39 : decode cX5_span 39 = .ok (.getfield 12, 3) := by decide +kernel
theorem dX5_span_42 : decode cX5_span 42 = .ok (.getfield 169, 3) := by decide +kernel
theorem dX5_span_45 : decode cX5_span 45 = .ok (.iload_n 1, 1) := by decide +kernel
theorem dX5_span_46 : decode cX5_span 46 = .ok (.iconst 1, 1) := by decide +kernel
theorem dX5_span_47 : decode cX5_span 47 = .ok (.isub, 1) := by decide +kernel
theorem dX5_span_48 : decode cX5_span 48 = .ok (.iaload, 1) := by decide +kernel
theorem dX5_span_49 : decode cX5_span 49 = .ok (.istore_n 3, 1) := by decide +kernel
theorem dX5_span_50 : decode cX5_span 50 = .ok (.aload_n 0, 1) := by decide +kernel
theorem dX5_span_51 : decode cX5_span 51 = .ok (.getfield 12, 3) := by decide +kernel
theorem dX5_span_54 : decode cX5_span 54 = .ok (.getfield 169, 3) := by decide +kernel
theorem dX5_span_57 : decode cX5_span 57 = .ok (.iload_n 1, 1) := by decide +kernel
theorem dX5_span_58 : decode cX5_span 58 = .ok (.iconst 1, 1) := by decide +kernel
theorem dX5_span_59 : decode cX5_span 59 = .ok (.isub, 1) := by decide +kernel
theorem dX5_span_60 : decode cX5_span 60 = .ok (.iload_n 2, 1) := by decide +kernel
theorem dX5_span_61 : decode cX5_span 61 = .ok (.iastore, 1) := by decide +kernel
theorem dX5_span_62 : decode cX5_span 62 = .ok (.iload_n 3, 1) := by decide +kernel
theorem dX5_span_63 : decode cX5_span 63 = .ok (.ireturn, 1) := by decide +kernel
theorem dX5_cuts_0 : decode cX5_cuts 0 = .ok (.aload_n 0, 1) := by decide +kernel
theorem dX5_cuts_1 : decode cX5_cuts 1 = .ok (.getfield 19, 3) := by decide +kernel
theorem dX5_cuts_4 : decode cX5_cuts 4 = .ok (.aload_n 0, 1) := by decide +kernel
theorem dX5_cuts_5 : decode cX5_cuts 5 = .ok (.getfield 12, 3) := by decide +kernel
theorem dX5_cuts_8 : decode cX5_cuts 8 = .ok (.invokevirtual 48, 3) := by decide +kernel
theorem dX5_cuts_11 : decode cX5_cuts 11 = .ok (.aload_n 0, 1) := by decide +kernel
theorem dX5_cuts_12 : decode cX5_cuts 12 = .ok (.getfield 12, 3) := by decide +kernel
theorem dX5_cuts_15 : decode cX5_cuts 15 = .ok (.getfield 151, 3) := by decide +kernel
theorem dX5_cuts_18 : decode cX5_cuts 18 = .ok (.invokevirtual 60, 3) := by decide +kernel
theorem dX5_cuts_21 : decode cX5_cuts 21 = .ok (.istore_n 1, 1) := by decide +kernel
theorem dX5_cuts_22 : decode cX5_cuts 22 = .ok (.iload_n 1, 1) := by decide +kernel
theorem dX5_cuts_23 : decode cX5_cuts 23 = .ok (.iconst 1, 1) := by decide +kernel
theorem dX5_cuts_24 : decode cX5_cuts 24 = .ok (.isub, 1) := by decide +kernel
theorem dX5_cuts_25 : decode cX5_cuts 25 = .ok (.istore_n 2, 1) := by decide +kernel
theorem dX5_cuts_26 : decode cX5_cuts 26 = .ok (.iload_n 2, 1) := by decide +kernel
theorem dX5_cuts_27 : decode cX5_cuts 27 = .ok (.ifCond .lt 29, 3) := by decide +kernel
theorem dX5_cuts_30 : decode cX5_cuts 30 = .ok (.aload_n 0, 1) := by decide +kernel
theorem dX5_cuts_31 : decode cX5_cuts 31 = .ok (.iload_n 2, 1) := by decide +kernel
theorem dX5_cuts_32 : decode cX5_cuts 32 = .ok (.invokevirtual 172, 3) := by decide +kernel
theorem dX5_cuts_35 : decode cX5_cuts 35 = .ok (.iconst 1, 1) := by decide +kernel
theorem dX5_cuts_36 : decode cX5_cuts 36 = .ok (.if_icmp .eq 14, 3) := by decide +kernel
theorem dX5_cuts_39 : decode cX5_cuts 39 = .ok (.aload_n 0, 1) := by decide +kernel
theorem dX5_cuts_40 : decode cX5_cuts 40 = .ok (.getfield 12, 3) := by decide +kernel
theorem dX5_cuts_43 : decode cX5_cuts 43 = .ok (.getfield 151, 3) := by decide +kernel
theorem dX5_cuts_46 : decode cX5_cuts 46 = .ok (.iload_n 2, 1) := by decide +kernel
theorem dX5_cuts_47 : decode cX5_cuts 47 = .ok (.invokevirtual 89, 3) := by decide +kernel
theorem dX5_cuts_50 : decode cX5_cuts 50 = .ok (.iinc 2 (-1), 3) := by decide +kernel
theorem dX5_cuts_53 : decode cX5_cuts 53 = .ok (.goto (-27), 3) := by decide +kernel
theorem dX5_cuts_56 : decode cX5_cuts 56 = .ok (.iload_n 1, 1) := by decide +kernel
theorem dX5_cuts_57 : decode cX5_cuts 57 = .ok (.aload_n 0, 1) := by decide +kernel
theorem dX5_cuts_58 : decode cX5_cuts 58 = .ok (.getfield 12, 3) := by decide +kernel
theorem dX5_cuts_61 : decode cX5_cuts 61 = .ok (.getfield 151, 3) := by decide +kernel
theorem dX5_cuts_64 : decode cX5_cuts 64 = .ok (.invokevirtual 60, 3) := by decide +kernel
theorem dX5_cuts_67 : decode cX5_cuts 67 = .ok (.isub, 1) := by decide +kernel
theorem dX5_cuts_68 : decode cX5_cuts 68 = .ok (.ireturn, 1) := by decide +kernel
theorem dX5_flow_0 : decode cX5_flow 0 = .ok (.iload_n 1, 1) := by decide +kernel
theorem dX5_flow_1 : decode cX5_flow 1 = .ok (.ifCond .lt 13, 3) := by decide +kernel
theorem dX5_flow_4 : decode cX5_flow 4 = .ok (.iload_n 2, 1) := by decide +kernel
theorem dX5_flow_5 : decode cX5_flow 5 = .ok (.iconst 0, 1) := by decide +kernel
theorem dX5_flow_6 : decode cX5_flow 6 = .ok (.bipush 6, 2) := by decide +kernel
theorem dX5_flow_8 : decode cX5_flow 8 = .ok (.invokestatic 40, 3) := by decide +kernel
theorem dX5_flow_11 : decode cX5_flow 11 = .ok (.ifCond .ne 10, 3) := by decide +kernel
theorem dX5_flow_14 : decode cX5_flow 14 = .ok (.aload_n 0, 1) := by decide +kernel
theorem dX5_flow_15 : decode cX5_flow 15 = .ok (.bipush (-2), 2) := by decide +kernel
theorem dX5_flow_17 : decode cX5_flow 17 = .ok (.invokevirtual 44, 3) := by decide +kernel
theorem dX5_flow_20 : decode cX5_flow 20 = .ok (.ireturn, 1) := by decide +kernel
theorem dX5_flow_21 : decode cX5_flow 21 = .ok (.aload_n 0, 1) := by decide +kernel
theorem dX5_flow_22 : decode cX5_flow 22 = .ok (.iload_n 1, 1) := by decide +kernel
theorem dX5_flow_23 : decode cX5_flow 23 = .ok (.invokevirtual 148, 3) := by decide +kernel
theorem dX5_flow_26 : decode cX5_flow 26 = .ok (.ifCond .eq 18, 3) := by decide +kernel
theorem dX5_flow_29 : decode cX5_flow 29 = .ok (.aload_n 0, 1) := by decide +kernel
theorem dX5_flow_30 : decode cX5_flow 30 = .ok (.getfield 12, 3) := by decide +kernel
theorem dX5_flow_33 : decode cX5_flow 33 = .ok (.getfield 151, 3) := by decide +kernel
theorem dX5_flow_36 : decode cX5_flow 36 = .ok (.iload_n 1, 1) := by decide +kernel
theorem dX5_flow_37 : decode cX5_flow 37 = .ok (.iload_n 2, 1) := by decide +kernel
theorem dX5_flow_38 : decode cX5_flow 38 = .ok (.invokevirtual 81, 3) := by decide +kernel
theorem dX5_flow_41 : decode cX5_flow 41 = .ok (.goto 4, 3) := by decide +kernel
theorem dX5_flow_44 : decode cX5_flow 44 = .ok (.iconst (-1), 1) := by decide +kernel
theorem dX5_flow_45 : decode cX5_flow 45 = .ok (.ireturn, 1) := by decide +kernel
theorem dX5_count_0 : decode cX5_count 0 = .ok (.iload_n 1, 1) := by decide +kernel
theorem dX5_count_1 : decode cX5_count 1 = .ok (.iconst 0, 1) := by decide +kernel
theorem dX5_count_2 : decode cX5_count 2 = .ok (.bipush 9, 2) := by decide +kernel
theorem dX5_count_4 : decode cX5_count 4 = .ok (.invokestatic 40, 3) := by decide +kernel
theorem dX5_count_7 : decode cX5_count 7 = .ok (.ifCond .ne 10, 3) := by decide +kernel
theorem dX5_count_10 : decode cX5_count 10 = .ok (.aload_n 0, 1) := by decide +kernel
theorem dX5_count_11 : decode cX5_count 11 = .ok (.bipush (-2), 2) := by decide +kernel
theorem dX5_count_13 : decode cX5_count 13 = .ok (.invokevirtual 44, 3) := by decide +kernel
theorem dX5_count_16 : decode cX5_count 16 = .ok (.ireturn, 1) := by decide +kernel
theorem dX5_count_17 : decode cX5_count 17 = .ok (.iload_n 1, 1) := by decide +kernel
theorem dX5_count_18 : decode cX5_count 18 = .ok (.tableswitch 71 0 3 #[30, 41, 52, 63], 30) := by decide +kernel
theorem dX5_count_48 : decode cX5_count 48 = .ok (.aload_n 0, 1) := by decide +kernel
theorem dX5_count_49 : decode cX5_count 49 = .ok (.getfield 12, 3) := by decide +kernel
theorem dX5_count_52 : decode cX5_count 52 = .ok (.getfield 56, 3) := by decide +kernel
theorem dX5_count_55 : decode cX5_count 55 = .ok (.invokevirtual 60, 3) := by decide +kernel
theorem dX5_count_58 : decode cX5_count 58 = .ok (.ireturn, 1) := by decide +kernel
theorem dX5_count_59 : decode cX5_count 59 = .ok (.aload_n 0, 1) := by decide +kernel
theorem dX5_count_60 : decode cX5_count 60 = .ok (.getfield 12, 3) := by decide +kernel
theorem dX5_count_63 : decode cX5_count 63 = .ok (.getfield 151, 3) := by decide +kernel
theorem dX5_count_66 : decode cX5_count 66 = .ok (.invokevirtual 60, 3) := by decide +kernel
theorem dX5_count_69 : decode cX5_count 69 = .ok (.ireturn, 1) := by decide +kernel
theorem dX5_count_70 : decode cX5_count 70 = .ok (.aload_n 0, 1) := by decide +kernel
theorem dX5_count_71 : decode cX5_count 71 = .ok (.getfield 12, 3) := by decide +kernel
theorem dX5_count_74 : decode cX5_count 74 = .ok (.getfield 154, 3) := by decide +kernel
theorem dX5_count_77 : decode cX5_count 77 = .ok (.invokevirtual 60, 3) := by decide +kernel
theorem dX5_count_80 : decode cX5_count 80 = .ok (.ireturn, 1) := by decide +kernel
theorem dX5_count_81 : decode cX5_count 81 = .ok (.aload_n 0, 1) := by decide +kernel
theorem dX5_count_82 : decode cX5_count 82 = .ok (.getfield 12, 3) := by decide +kernel
theorem dX5_count_85 : decode cX5_count 85 = .ok (.getfield 161, 3) := by decide +kernel
theorem dX5_count_88 : decode cX5_count 88 = .ok (.ireturn, 1) := by decide +kernel
theorem dX5_count_89 : decode cX5_count 89 = .ok (.aload_n 0, 1) := by decide +kernel
theorem dX5_count_90 : decode cX5_count 90 = .ok (.getfield 12, 3) := by decide +kernel
theorem dX5_count_93 : decode cX5_count 93 = .ok (.getfield 175, 3) := by decide +kernel
theorem dX5_count_96 : decode cX5_count 96 = .ok (.iload_n 1, 1) := by decide +kernel
theorem dX5_count_97 : decode cX5_count 97 = .ok (.iconst 4, 1) := by decide +kernel
theorem dX5_count_98 : decode cX5_count 98 = .ok (.isub, 1) := by decide +kernel
theorem dX5_count_99 : decode cX5_count 99 = .ok (.iaload, 1) := by decide +kernel
theorem dX5_count_100 : decode cX5_count 100 = .ok (.ireturn, 1) := by decide +kernel
theorem dX5_type_0 : decode cX5_type 0 = .ok (.iload_n 1, 1) := by decide +kernel
theorem dX5_type_1 : decode cX5_type 1 = .ok (.iconst 0, 1) := by decide +kernel
theorem dX5_type_2 : decode cX5_type 2 = .ok (.bipush 127, 2) := by decide +kernel
theorem dX5_type_4 : decode cX5_type 4 = .ok (.invokestatic 40, 3) := by decide +kernel
theorem dX5_type_7 : decode cX5_type 7 = .ok (.ifCond .ne 10, 3) := by decide +kernel
theorem dX5_type_10 : decode cX5_type 10 = .ok (.aload_n 0, 1) := by decide +kernel
theorem dX5_type_11 : decode cX5_type 11 = .ok (.bipush (-2), 2) := by decide +kernel
theorem dX5_type_13 : decode cX5_type 13 = .ok (.invokevirtual 44, 3) := by decide +kernel
theorem dX5_type_16 : decode cX5_type 16 = .ok (.ireturn, 1) := by decide +kernel
theorem dX5_type_17 : decode cX5_type 17 = .ok (.aload_n 0, 1) := by decide +kernel
theorem dX5_type_18 : decode cX5_type 18 = .ok (.getfield 26, 3) := by decide +kernel
theorem dX5_type_21 : decode cX5_type 21 = .ok (.invokevirtual 178, 3) := by decide +kernel
theorem dX5_type_24 : decode cX5_type 24 = .ok (.bipush 120, 2) := by decide +kernel
theorem dX5_type_26 : decode cX5_type 26 = .ok (.if_icmp .lt 10, 3) := by decide +kernel
theorem dX5_type_29 : decode cX5_type 29 = .ok (.aload_n 0, 1) := by decide +kernel
theorem dX5_type_30 : decode cX5_type 30 = .ok (.bipush (-4), 2) := by decide +kernel
theorem dX5_type_32 : decode cX5_type 32 = .ok (.invokevirtual 44, 3) := by decide +kernel
theorem dX5_type_35 : decode cX5_type 35 = .ok (.ireturn, 1) := by decide +kernel
theorem dX5_type_36 : decode cX5_type 36 = .ok (.aload_n 0, 1) := by decide +kernel
theorem dX5_type_37 : decode cX5_type 37 = .ok (.getfield 26, 3) := by decide +kernel
theorem dX5_type_40 : decode cX5_type 40 = .ok (.iload_n 1, 1) := by decide +kernel
theorem dX5_type_41 : decode cX5_type 41 = .ok (.invokevirtual 181, 3) := by decide +kernel
theorem dX5_type_44 : decode cX5_type 44 = .ok (.aload_n 0, 1) := by decide +kernel
theorem dX5_type_45 : decode cX5_type 45 = .ok (.getfield 26, 3) := by decide +kernel
theorem dX5_type_48 : decode cX5_type 48 = .ok (.invokevirtual 178, 3) := by decide +kernel
theorem dX5_type_51 : decode cX5_type 51 = .ok (.ireturn, 1) := by decide +kernel
theorem dX5_clear_0 : decode cX5_clear 0 = .ok (.aload_n 0, 1) := by decide +kernel
theorem dX5_clear_1 : decode cX5_clear 1 = .ok (.getfield 26, 3) := by decide +kernel
theorem dX5_clear_4 : decode cX5_clear 4 = .ok (.invokevirtual 178, 3) := by decide +kernel
theorem dX5_clear_7 : decode cX5_clear 7 = .ok (.istore_n 1, 1) := by decide +kernel
theorem dX5_clear_8 : decode cX5_clear 8 = .ok (.aload_n 0, 1) := by decide +kernel
theorem dX5_clear_9 : decode cX5_clear 9 = .ok (.getfield 26, 3) := by decide +kernel
theorem dX5_clear_12 : decode cX5_clear 12 = .ok (.invokevirtual 184, 3) := by decide +kernel
theorem dX5_clear_15 : decode cX5_clear 15 = .ok (.iload_n 1, 1) := by decide +kernel
theorem dX5_clear_16 : decode cX5_clear 16 = .ok (.ireturn, 1) := by decide +kernel
theorem dX5_reads_0 : decode cX5_reads 0 = .ok (.aload_n 0, 1) := by decide +kernel
theorem dX5_reads_1 : decode cX5_reads 1 = .ok (.getfield 26, 3) := by decide +kernel
theorem dX5_reads_4 : decode cX5_reads 4 = .ok (.invokevirtual 187, 3) := by decide +kernel
theorem dX5_reads_7 : decode cX5_reads 7 = .ok (.istore_n 1, 1) := by decide +kernel
theorem dX5_reads_8 : decode cX5_reads 8 = .ok (.iload_n 1, 1) := by decide +kernel
theorem dX5_reads_9 : decode cX5_reads 9 = .ok (.iconst (-1), 1) := by decide +kernel
theorem dX5_reads_10 : decode cX5_reads 10 = .ok (.if_icmp .eq 8, 3) := by decide +kernel
theorem dX5_reads_13 : decode cX5_reads 13 = .ok (.bipush (-10), 2) := by decide +kernel
theorem dX5_reads_15 : decode cX5_reads 15 = .ok (.iload_n 1, 1) := by decide +kernel
theorem dX5_reads_16 : decode cX5_reads 16 = .ok (.isub, 1) := by decide +kernel
theorem dX5_reads_17 : decode cX5_reads 17 = .ok (.ireturn, 1) := by decide +kernel
theorem dX5_reads_18 : decode cX5_reads 18 = .ok (.aload_n 0, 1) := by decide +kernel
theorem dX5_reads_19 : decode cX5_reads 19 = .ok (.getfield 19, 3) := by decide +kernel
theorem dX5_reads_22 : decode cX5_reads 22 = .ok (.aload_n 0, 1) := by decide +kernel
theorem dX5_reads_23 : decode cX5_reads 23 = .ok (.getfield 12, 3) := by decide +kernel
theorem dX5_reads_26 : decode cX5_reads 26 = .ok (.invokevirtual 48, 3) := by decide +kernel
theorem dX5_reads_29 : decode cX5_reads 29 = .ok (.aload_n 0, 1) := by decide +kernel
theorem dX5_reads_30 : decode cX5_reads 30 = .ok (.getfield 26, 3) := by decide +kernel
theorem dX5_reads_33 : decode cX5_reads 33 = .ok (.getfield 190, 3) := by decide +kernel
theorem dX5_reads_36 : decode cX5_reads 36 = .ok (.aload_n 0, 1) := by decide +kernel
theorem dX5_reads_37 : decode cX5_reads 37 = .ok (.getfield 12, 3) := by decide +kernel
theorem dX5_reads_40 : decode cX5_reads 40 = .ok (.getfield 56, 3) := by decide +kernel
theorem dX5_reads_43 : decode cX5_reads 43 = .ok (.invokestatic 100, 3) := by decide +kernel
theorem dX5_reads_46 : decode cX5_reads 46 = .ok (.aload_n 0, 1) := by decide +kernel
theorem dX5_reads_47 : decode cX5_reads 47 = .ok (.getfield 12, 3) := by decide +kernel
theorem dX5_reads_50 : decode cX5_reads 50 = .ok (.getfield 56, 3) := by decide +kernel
theorem dX5_reads_53 : decode cX5_reads 53 = .ok (.invokevirtual 60, 3) := by decide +kernel
theorem dX5_reads_56 : decode cX5_reads 56 = .ok (.ireturn, 1) := by decide +kernel
theorem dX5_back_0 : decode cX5_back 0 = .ok (.aload_n 0, 1) := by decide +kernel
theorem dX5_back_1 : decode cX5_back 1 = .ok (.getfield 19, 3) := by decide +kernel
theorem dX5_back_4 : decode cX5_back 4 = .ok (.invokevirtual 193, 3) := by decide +kernel
theorem dX5_back_7 : decode cX5_back 7 = .ok (.ifCond .ne 10, 3) := by decide +kernel
theorem dX5_back_10 : decode cX5_back 10 = .ok (.aload_n 0, 1) := by decide +kernel
theorem dX5_back_11 : decode cX5_back 11 = .ok (.bipush (-3), 2) := by decide +kernel
theorem dX5_back_13 : decode cX5_back 13 = .ok (.invokevirtual 44, 3) := by decide +kernel
theorem dX5_back_16 : decode cX5_back 16 = .ok (.ireturn, 1) := by decide +kernel
theorem dX5_back_17 : decode cX5_back 17 = .ok (.aload_n 0, 1) := by decide +kernel
theorem dX5_back_18 : decode cX5_back 18 = .ok (.getfield 19, 3) := by decide +kernel
theorem dX5_back_21 : decode cX5_back 21 = .ok (.aload_n 0, 1) := by decide +kernel
theorem dX5_back_22 : decode cX5_back 22 = .ok (.getfield 12, 3) := by decide +kernel
theorem dX5_back_25 : decode cX5_back 25 = .ok (.invokevirtual 194, 3) := by decide +kernel
theorem dX5_back_28 : decode cX5_back 28 = .ok (.aload_n 0, 1) := by decide +kernel
theorem dX5_back_29 : decode cX5_back 29 = .ok (.getfield 19, 3) := by decide +kernel
theorem dX5_back_32 : decode cX5_back 32 = .ok (.invokevirtual 193, 3) := by decide +kernel
theorem dX5_back_35 : decode cX5_back 35 = .ok (.ireturn, 1) := by decide +kernel
theorem dX5_told_0 : decode cX5_told 0 = .ok (.iload_n 1, 1) := by decide +kernel
theorem dX5_told_1 : decode cX5_told 1 = .ok (.tableswitch 66 0 4 #[35, 40, 45, 50, 58], 35) := by decide +kernel
theorem dX5_told_36 : decode cX5_told 36 = .ok (.aload_n 0, 1) := by decide +kernel
theorem dX5_told_37 : decode cX5_told 37 = .ok (.getfield 197, 3) := by decide +kernel
theorem dX5_told_40 : decode cX5_told 40 = .ok (.ireturn, 1) := by decide +kernel
theorem dX5_told_41 : decode cX5_told 41 = .ok (.aload_n 0, 1) := by decide +kernel
theorem dX5_told_42 : decode cX5_told 42 = .ok (.getfield 200, 3) := by decide +kernel
theorem dX5_told_45 : decode cX5_told 45 = .ok (.ireturn, 1) := by decide +kernel
theorem dX5_told_46 : decode cX5_told 46 = .ok (.aload_n 0, 1) := by decide +kernel
theorem dX5_told_47 : decode cX5_told 47 = .ok (.getfield 203, 3) := by decide +kernel
theorem dX5_told_50 : decode cX5_told 50 = .ok (.ireturn, 1) := by decide +kernel
theorem dX5_told_51 : decode cX5_told 51 = .ok (.aload_n 0, 1) := by decide +kernel
theorem dX5_told_52 : decode cX5_told 52 = .ok (.getfield 26, 3) := by decide +kernel
theorem dX5_told_55 : decode cX5_told 55 = .ok (.invokevirtual 178, 3) := by decide +kernel
theorem dX5_told_58 : decode cX5_told 58 = .ok (.ireturn, 1) := by decide +kernel
theorem dX5_told_59 : decode cX5_told 59 = .ok (.aload_n 0, 1) := by decide +kernel
theorem dX5_told_60 : decode cX5_told 60 = .ok (.getfield 19, 3) := by decide +kernel
theorem dX5_told_63 : decode cX5_told 63 = .ok (.invokevirtual 193, 3) := by decide +kernel
theorem dX5_told_66 : decode cX5_told 66 = .ok (.ireturn, 1) := by decide +kernel
theorem dX5_told_67 : decode cX5_told 67 = .ok (.aload_n 0, 1) := by decide +kernel
theorem dX5_told_68 : decode cX5_told 68 = .ok (.bipush (-2), 2) := by decide +kernel
theorem dX5_told_70 : decode cX5_told 70 = .ok (.invokevirtual 44, 3) := by decide +kernel
theorem dX5_told_73 : decode cX5_told 73 = .ok (.ireturn, 1) := by decide +kernel
theorem dX5_digest_0 : decode cX5_digest 0 = .ok (.ldc2_w 206, 3) := by decide +kernel
theorem dX5_digest_3 : decode cX5_digest 3 = .ok (.lstore_n 1, 1) := by decide +kernel
theorem dX5_digest_4 : decode cX5_digest 4 = .ok (.iconst 0, 1) := by decide +kernel
theorem dX5_digest_5 : decode cX5_digest 5 = .ok (.istore_n 3, 1) := by decide +kernel
theorem dX5_digest_6 : decode cX5_digest 6 = .ok (.iload_n 3, 1) := by decide +kernel
theorem dX5_digest_7 : decode cX5_digest 7 = .ok (.iconst 4, 1) := by decide +kernel
theorem dX5_digest_8 : decode cX5_digest 8 = .ok (.if_icmp .gt 22, 3) := by decide +kernel
theorem dX5_digest_11 : decode cX5_digest 11 = .ok (.ldc2_w 208, 3) := by decide +kernel
theorem dX5_digest_14 : decode cX5_digest 14 = .ok (.lload_n 1, 1) := by decide +kernel
theorem dX5_digest_15 : decode cX5_digest 15 = .ok (.lmul, 1) := by decide +kernel
theorem dX5_digest_16 : decode cX5_digest 16 = .ok (.aload_n 0, 1) := by decide +kernel
theorem dX5_digest_17 : decode cX5_digest 17 = .ok (.iload_n 3, 1) := by decide +kernel
theorem dX5_digest_18 : decode cX5_digest 18 = .ok (.invokevirtual 210, 3) := by decide +kernel
theorem dX5_digest_21 : decode cX5_digest 21 = .ok (.i2l, 1) := by decide +kernel
theorem dX5_digest_22 : decode cX5_digest 22 = .ok (.ladd, 1) := by decide +kernel
theorem dX5_digest_23 : decode cX5_digest 23 = .ok (.lstore_n 1, 1) := by decide +kernel
theorem dX5_digest_24 : decode cX5_digest 24 = .ok (.iinc 3 1, 3) := by decide +kernel
theorem dX5_digest_27 : decode cX5_digest 27 = .ok (.goto (-21), 3) := by decide +kernel
theorem dX5_digest_30 : decode cX5_digest 30 = .ok (.iconst 0, 1) := by decide +kernel
theorem dX5_digest_31 : decode cX5_digest 31 = .ok (.istore_n 3, 1) := by decide +kernel
theorem dX5_digest_32 : decode cX5_digest 32 = .ok (.iload_n 3, 1) := by decide +kernel
theorem dX5_digest_33 : decode cX5_digest 33 = .ok (.bipush 10, 2) := by decide +kernel
theorem dX5_digest_35 : decode cX5_digest 35 = .ok (.if_icmp .ge 22, 3) := by decide +kernel
theorem dX5_digest_38 : decode cX5_digest 38 = .ok (.ldc2_w 208, 3) := by decide +kernel
theorem dX5_digest_41 : decode cX5_digest 41 = .ok (.lload_n 1, 1) := by decide +kernel
theorem dX5_digest_42 : decode cX5_digest 42 = .ok (.lmul, 1) := by decide +kernel
theorem dX5_digest_43 : decode cX5_digest 43 = .ok (.aload_n 0, 1) := by decide +kernel
theorem dX5_digest_44 : decode cX5_digest 44 = .ok (.iload_n 3, 1) := by decide +kernel
theorem dX5_digest_45 : decode cX5_digest 45 = .ok (.invokevirtual 213, 3) := by decide +kernel
theorem dX5_digest_48 : decode cX5_digest 48 = .ok (.i2l, 1) := by decide +kernel
theorem dX5_digest_49 : decode cX5_digest 49 = .ok (.ladd, 1) := by decide +kernel
theorem dX5_digest_50 : decode cX5_digest 50 = .ok (.lstore_n 1, 1) := by decide +kernel
theorem dX5_digest_51 : decode cX5_digest 51 = .ok (.iinc 3 1, 3) := by decide +kernel
theorem dX5_digest_54 : decode cX5_digest 54 = .ok (.goto (-22), 3) := by decide +kernel
theorem dX5_digest_57 : decode cX5_digest 57 = .ok (.iconst 0, 1) := by decide +kernel
theorem dX5_digest_58 : decode cX5_digest 58 = .ok (.istore_n 3, 1) := by decide +kernel
theorem dX5_digest_59 : decode cX5_digest 59 = .ok (.iload_n 3, 1) := by decide +kernel
theorem dX5_digest_60 : decode cX5_digest 60 = .ok (.bipush 32, 2) := by decide +kernel
theorem dX5_digest_62 : decode cX5_digest 62 = .ok (.if_icmp .ge 26, 3) := by decide +kernel
theorem dX5_digest_65 : decode cX5_digest 65 = .ok (.ldc2_w 208, 3) := by decide +kernel
theorem dX5_digest_68 : decode cX5_digest 68 = .ok (.lload_n 1, 1) := by decide +kernel
theorem dX5_digest_69 : decode cX5_digest 69 = .ok (.lmul, 1) := by decide +kernel
theorem dX5_digest_70 : decode cX5_digest 70 = .ok (.aload_n 0, 1) := by decide +kernel
theorem dX5_digest_71 : decode cX5_digest 71 = .ok (.getfield 12, 3) := by decide +kernel
theorem dX5_digest_74 : decode cX5_digest 74 = .ok (.getfield 52, 3) := by decide +kernel
theorem dX5_digest_77 : decode cX5_digest 77 = .ok (.iload_n 3, 1) := by decide +kernel
theorem dX5_digest_78 : decode cX5_digest 78 = .ok (.iaload, 1) := by decide +kernel
theorem dX5_digest_79 : decode cX5_digest 79 = .ok (.i2l, 1) := by decide +kernel
theorem dX5_digest_80 : decode cX5_digest 80 = .ok (.ladd, 1) := by decide +kernel
theorem dX5_digest_81 : decode cX5_digest 81 = .ok (.lstore_n 1, 1) := by decide +kernel
theorem dX5_digest_82 : decode cX5_digest 82 = .ok (.iinc 3 1, 3) := by decide +kernel
theorem dX5_digest_85 : decode cX5_digest 85 = .ok (.goto (-26), 3) := by decide +kernel
theorem dX5_digest_88 : decode cX5_digest 88 = .ok (.aload_n 0, 1) := by decide +kernel
theorem dX5_digest_89 : decode cX5_digest 89 = .ok (.getfield 12, 3) := by decide +kernel
theorem dX5_digest_92 : decode cX5_digest 92 = .ok (.getfield 56, 3) := by decide +kernel
theorem dX5_digest_95 : decode cX5_digest 95 = .ok (.lload_n 1, 1) := by decide +kernel
theorem dX5_digest_96 : decode cX5_digest 96 = .ok (.invokevirtual 216, 3) := by decide +kernel
theorem dX5_digest_99 : decode cX5_digest 99 = .ok (.lstore_n 1, 1) := by decide +kernel
theorem dX5_digest_100 : decode cX5_digest 100 = .ok (.aload_n 0, 1) := by decide +kernel
theorem dX5_digest_101 : decode cX5_digest 101 = .ok (.getfield 12, 3) := by decide +kernel
theorem dX5_digest_104 : decode cX5_digest 104 = .ok (.getfield 151, 3) := by decide +kernel
theorem dX5_digest_107 : decode cX5_digest 107 = .ok (.lload_n 1, 1) := by decide +kernel
theorem dX5_digest_108 : decode cX5_digest 108 = .ok (.invokevirtual 216, 3) := by decide +kernel
theorem dX5_digest_111 : decode cX5_digest 111 = .ok (.lstore_n 1, 1) := by decide +kernel
theorem dX5_digest_112 : decode cX5_digest 112 = .ok (.iconst 0, 1) := by decide +kernel
theorem dX5_digest_113 : decode cX5_digest 113 = .ok (.istore_n 3, 1) := by decide +kernel
theorem dX5_digest_114 : decode cX5_digest 114 = .ok (.iload_n 3, 1) := by decide +kernel
theorem dX5_digest_115 : decode cX5_digest 115 = .ok (.bipush 7, 2) := by decide +kernel
theorem dX5_digest_117 : decode cX5_digest 117 = .ok (.if_icmp .ge 26, 3) := by decide +kernel
theorem dX5_digest_120 : decode cX5_digest 120 = .ok (.ldc2_w 208, 3) := by decide +kernel
theorem dX5_digest_123 : decode cX5_digest 123 = .ok (.lload_n 1, 1) := by decide +kernel
theorem dX5_digest_124 : decode cX5_digest 124 = .ok (.lmul, 1) := by decide +kernel
theorem dX5_digest_125 : decode cX5_digest 125 = .ok (.aload_n 0, 1) := by decide +kernel
theorem dX5_digest_126 : decode cX5_digest 126 = .ok (.getfield 12, 3) := by decide +kernel
theorem dX5_digest_129 : decode cX5_digest 129 = .ok (.getfield 169, 3) := by decide +kernel
theorem dX5_digest_132 : decode cX5_digest 132 = .ok (.iload_n 3, 1) := by decide +kernel
theorem dX5_digest_133 : decode cX5_digest 133 = .ok (.iaload, 1) := by decide +kernel
theorem dX5_digest_134 : decode cX5_digest 134 = .ok (.i2l, 1) := by decide +kernel
theorem dX5_digest_135 : decode cX5_digest 135 = .ok (.ladd, 1) := by decide +kernel
theorem dX5_digest_136 : decode cX5_digest 136 = .ok (.lstore_n 1, 1) := by decide +kernel
theorem dX5_digest_137 : decode cX5_digest 137 = .ok (.iinc 3 1, 3) := by decide +kernel
theorem dX5_digest_140 : decode cX5_digest 140 = .ok (.goto (-26), 3) := by decide +kernel
theorem dX5_digest_143 : decode cX5_digest 143 = .ok (.lload_n 1, 1) := by decide +kernel
theorem dX5_digest_144 : decode cX5_digest 144 = .ok (.lreturn, 1) := by decide +kernel
theorem dX5_within_0 : decode cX5_within 0 = .ok (.iload_n 0, 1) := by decide +kernel
theorem dX5_within_1 : decode cX5_within 1 = .ok (.iload_n 1, 1) := by decide +kernel
theorem dX5_within_2 : decode cX5_within 2 = .ok (.if_icmp .lt 12, 3) := by decide +kernel
theorem dX5_within_5 : decode cX5_within 5 = .ok (.iload_n 0, 1) := by decide +kernel
theorem dX5_within_6 : decode cX5_within 6 = .ok (.iload_n 2, 1) := by decide +kernel
theorem dX5_within_7 : decode cX5_within 7 = .ok (.if_icmp .gt 7, 3) := by decide +kernel
theorem dX5_within_10 : decode cX5_within 10 = .ok (.iconst 1, 1) := by decide +kernel
theorem dX5_within_11 : decode cX5_within 11 = .ok (.goto 4, 3) := by decide +kernel
theorem dX5_within_14 : decode cX5_within 14 = .ok (.iconst 0, 1) := by decide +kernel
theorem dX5_within_15 : decode cX5_within 15 = .ok (.ireturn, 1) := by decide +kernel
theorem dX5_isCase_0 : decode cX5_isCase 0 = .ok (.iload_n 0, 1) := by decide +kernel
theorem dX5_isCase_1 : decode cX5_isCase 1 = .ok (.iconst 0, 1) := by decide +kernel
theorem dX5_isCase_2 : decode cX5_isCase 2 = .ok (.bipush 31, 2) := by decide +kernel
theorem dX5_isCase_4 : decode cX5_isCase 4 = .ok (.invokestatic 40, 3) := by decide +kernel
theorem dX5_isCase_7 : decode cX5_isCase 7 = .ok (.ifCond .eq 36, 3) := by decide +kernel
theorem dX5_isCase_10 : decode cX5_isCase 10 = .ok (.iload_n 1, 1) := by decide +kernel
theorem dX5_isCase_11 : decode cX5_isCase 11 = .ok (.iconst 0, 1) := by decide +kernel
theorem dX5_isCase_12 : decode cX5_isCase 12 = .ok (.bipush 31, 2) := by decide +kernel
theorem dX5_isCase_14 : decode cX5_isCase 14 = .ok (.invokestatic 40, 3) := by decide +kernel
theorem dX5_isCase_17 : decode cX5_isCase 17 = .ok (.ifCond .eq 26, 3) := by decide +kernel
theorem dX5_isCase_20 : decode cX5_isCase 20 = .ok (.iload_n 2, 1) := by decide +kernel
theorem dX5_isCase_21 : decode cX5_isCase 21 = .ok (.iconst 0, 1) := by decide +kernel
theorem dX5_isCase_22 : decode cX5_isCase 22 = .ok (.bipush 15, 2) := by decide +kernel
theorem dX5_isCase_24 : decode cX5_isCase 24 = .ok (.invokestatic 40, 3) := by decide +kernel
theorem dX5_isCase_27 : decode cX5_isCase 27 = .ok (.ifCond .eq 16, 3) := by decide +kernel
theorem dX5_isCase_30 : decode cX5_isCase 30 = .ok (.iload_n 3, 1) := by decide +kernel
theorem dX5_isCase_31 : decode cX5_isCase 31 = .ok (.iconst 0, 1) := by decide +kernel
theorem dX5_isCase_32 : decode cX5_isCase 32 = .ok (.iconst 1, 1) := by decide +kernel
theorem dX5_isCase_33 : decode cX5_isCase 33 = .ok (.invokestatic 40, 3) := by decide +kernel
theorem dX5_isCase_36 : decode cX5_isCase 36 = .ok (.ifCond .eq 7, 3) := by decide +kernel
theorem dX5_isCase_39 : decode cX5_isCase 39 = .ok (.iconst 1, 1) := by decide +kernel
theorem dX5_isCase_40 : decode cX5_isCase 40 = .ok (.goto 4, 3) := by decide +kernel
theorem dX5_isCase_43 : decode cX5_isCase 43 = .ok (.iconst 0, 1) := by decide +kernel
theorem dX5_isCase_44 : decode cX5_isCase 44 = .ok (.ireturn, 1) := by decide +kernel
theorem dX5_isRule_0 : decode cX5_isRule 0 = .ok (.iload_n 1, 1) := by decide +kernel
theorem dX5_isRule_1 : decode cX5_isRule 1 = .ok (.iconst 0, 1) := by decide +kernel
theorem dX5_isRule_2 : decode cX5_isRule 2 = .ok (.aload_n 0, 1) := by decide +kernel
theorem dX5_isRule_3 : decode cX5_isRule 3 = .ok (.getfield 12, 3) := by decide +kernel
theorem dX5_isRule_6 : decode cX5_isRule 6 = .ok (.getfield 56, 3) := by decide +kernel
theorem dX5_isRule_9 : decode cX5_isRule 9 = .ok (.invokevirtual 60, 3) := by decide +kernel
theorem dX5_isRule_12 : decode cX5_isRule 12 = .ok (.iconst 1, 1) := by decide +kernel
theorem dX5_isRule_13 : decode cX5_isRule 13 = .ok (.isub, 1) := by decide +kernel
theorem dX5_isRule_14 : decode cX5_isRule 14 = .ok (.invokestatic 40, 3) := by decide +kernel
theorem dX5_isRule_17 : decode cX5_isRule 17 = .ok (.ireturn, 1) := by decide +kernel
theorem dX5_isFlow_0 : decode cX5_isFlow 0 = .ok (.iload_n 1, 1) := by decide +kernel
theorem dX5_isFlow_1 : decode cX5_isFlow 1 = .ok (.iconst 0, 1) := by decide +kernel
theorem dX5_isFlow_2 : decode cX5_isFlow 2 = .ok (.aload_n 0, 1) := by decide +kernel
theorem dX5_isFlow_3 : decode cX5_isFlow 3 = .ok (.getfield 12, 3) := by decide +kernel
theorem dX5_isFlow_6 : decode cX5_isFlow 6 = .ok (.getfield 151, 3) := by decide +kernel
theorem dX5_isFlow_9 : decode cX5_isFlow 9 = .ok (.invokevirtual 60, 3) := by decide +kernel
theorem dX5_isFlow_12 : decode cX5_isFlow 12 = .ok (.iconst 1, 1) := by decide +kernel
theorem dX5_isFlow_13 : decode cX5_isFlow 13 = .ok (.isub, 1) := by decide +kernel
theorem dX5_isFlow_14 : decode cX5_isFlow 14 = .ok (.invokestatic 40, 3) := by decide +kernel
theorem dX5_isFlow_17 : decode cX5_isFlow 17 = .ok (.ireturn, 1) := by decide +kernel
theorem dX5_greatestNumber_0 : decode cX5_greatestNumber 0 = .ok (.iload_n 0, 1) := by decide +kernel
theorem dX5_greatestNumber_1 : decode cX5_greatestNumber 1 = .ok (.iconst 0, 1) := by decide +kernel
theorem dX5_greatestNumber_2 : decode cX5_greatestNumber 2 = .ok (.getstatic 220, 3) := by decide +kernel
theorem dX5_greatestNumber_5 : decode cX5_greatestNumber 5 = .ok (.arraylength, 1) := by decide +kernel
theorem dX5_greatestNumber_6 : decode cX5_greatestNumber 6 = .ok (.iconst 1, 1) := by decide +kernel
theorem dX5_greatestNumber_7 : decode cX5_greatestNumber 7 = .ok (.isub, 1) := by decide +kernel
theorem dX5_greatestNumber_8 : decode cX5_greatestNumber 8 = .ok (.invokestatic 40, 3) := by decide +kernel
theorem dX5_greatestNumber_11 : decode cX5_greatestNumber 11 = .ok (.ifCond .eq 11, 3) := by decide +kernel
theorem dX5_greatestNumber_14 : decode cX5_greatestNumber 14 = .ok (.getstatic 220, 3) := by decide +kernel
theorem dX5_greatestNumber_17 : decode cX5_greatestNumber 17 = .ok (.iload_n 0, 1) := by decide +kernel
theorem dX5_greatestNumber_18 : decode cX5_greatestNumber 18 = .ok (.iaload, 1) := by decide +kernel
theorem dX5_greatestNumber_19 : decode cX5_greatestNumber 19 = .ok (.goto 4, 3) := by decide +kernel
theorem dX5_greatestNumber_22 : decode cX5_greatestNumber 22 = .ok (.iconst (-1), 1) := by decide +kernel
theorem dX5_greatestNumber_23 : decode cX5_greatestNumber 23 = .ok (.ireturn, 1) := by decide +kernel
theorem dX5_fails_0 : decode cX5_fails 0 = .ok (.iload_n 1, 1) := by decide +kernel
theorem dX5_fails_1 : decode cX5_fails 1 = .ok (.bipush (-2), 2) := by decide +kernel
theorem dX5_fails_3 : decode cX5_fails 3 = .ok (.if_icmp .ne 16, 3) := by decide +kernel
theorem dX5_fails_6 : decode cX5_fails 6 = .ok (.aload_n 0, 1) := by decide +kernel
theorem dX5_fails_7 : decode cX5_fails 7 = .ok (.dup, 1) := by decide +kernel
theorem dX5_fails_8 : decode cX5_fails 8 = .ok (.getfield 197, 3) := by decide +kernel
theorem dX5_fails_11 : decode cX5_fails 11 = .ok (.iconst 1, 1) := by decide +kernel
theorem dX5_fails_12 : decode cX5_fails 12 = .ok (.iadd, 1) := by decide +kernel
theorem dX5_fails_13 : decode cX5_fails 13 = .ok (.putfield 197, 3) := by decide +kernel
theorem dX5_fails_16 : decode cX5_fails 16 = .ok (.goto 32, 3) := by decide +kernel
theorem dX5_fails_19 : decode cX5_fails 19 = .ok (.iload_n 1, 1) := by decide +kernel
theorem dX5_fails_20 : decode cX5_fails 20 = .ok (.bipush (-3), 2) := by decide +kernel
theorem dX5_fails_22 : decode cX5_fails 22 = .ok (.if_icmp .ne 16, 3) := by decide +kernel
theorem dX5_fails_25 : decode cX5_fails 25 = .ok (.aload_n 0, 1) := by decide +kernel
theorem dX5_fails_26 : decode cX5_fails 26 = .ok (.dup, 1) := by decide +kernel
theorem dX5_fails_27 : decode cX5_fails 27 = .ok (.getfield 200, 3) := by decide +kernel
theorem dX5_fails_30 : decode cX5_fails 30 = .ok (.iconst 1, 1) := by decide +kernel
theorem dX5_fails_31 : decode cX5_fails 31 = .ok (.iadd, 1) := by decide +kernel
theorem dX5_fails_32 : decode cX5_fails 32 = .ok (.putfield 200, 3) := by decide +kernel
theorem dX5_fails_35 : decode cX5_fails 35 = .ok (.goto 13, 3) := by decide +kernel
theorem dX5_fails_38 : decode cX5_fails 38 = .ok (.aload_n 0, 1) := by decide +kernel
theorem dX5_fails_39 : decode cX5_fails 39 = .ok (.dup, 1) := by decide +kernel
theorem dX5_fails_40 : decode cX5_fails 40 = .ok (.getfield 203, 3) := by decide +kernel
theorem dX5_fails_43 : decode cX5_fails 43 = .ok (.iconst 1, 1) := by decide +kernel
theorem dX5_fails_44 : decode cX5_fails 44 = .ok (.iadd, 1) := by decide +kernel
theorem dX5_fails_45 : decode cX5_fails 45 = .ok (.putfield 203, 3) := by decide +kernel
theorem dX5_fails_48 : decode cX5_fails 48 = .ok (.iload_n 1, 1) := by decide +kernel
theorem dX5_fails_49 : decode cX5_fails 49 = .ok (.ireturn, 1) := by decide +kernel
theorem dX5_insertAnyRule_0 : decode cX5_insertAnyRule 0 = .ok (.aload_n 0, 1) := by decide +kernel
theorem dX5_insertAnyRule_1 : decode cX5_insertAnyRule 1 = .ok (.iload_n 1, 1) := by decide +kernel
theorem dX5_insertAnyRule_2 : decode cX5_insertAnyRule 2 = .ok (.invokevirtual 223, 3) := by decide +kernel
theorem dX5_insertAnyRule_5 : decode cX5_insertAnyRule 5 = .ok (.iconst 0, 1) := by decide +kernel
theorem dX5_insertAnyRule_6 : decode cX5_insertAnyRule 6 = .ok (.istore_n 3, 1) := by decide +kernel
theorem dX5_insertAnyRule_7 : decode cX5_insertAnyRule 7 = .ok (.iload_n 3, 1) := by decide +kernel
theorem dX5_insertAnyRule_8 : decode cX5_insertAnyRule 8 = .ok (.getstatic 226, 3) := by decide +kernel
theorem dX5_insertAnyRule_11 : decode cX5_insertAnyRule 11 = .ok (.arraylength, 1) := by decide +kernel
theorem dX5_insertAnyRule_12 : decode cX5_insertAnyRule 12 = .ok (.if_icmp .ge 20, 3) := by decide +kernel
theorem dX5_insertAnyRule_15 : decode cX5_insertAnyRule 15 = .ok (.aload_n 0, 1) := by decide +kernel
theorem dX5_insertAnyRule_16 : decode cX5_insertAnyRule 16 = .ok (.iload_n 1, 1) := by decide +kernel
theorem dX5_insertAnyRule_17 : decode cX5_insertAnyRule 17 = .ok (.iload_n 3, 1) := by decide +kernel
theorem dX5_insertAnyRule_18 : decode cX5_insertAnyRule 18 = .ok (.getstatic 226, 3) := by decide +kernel
theorem dX5_insertAnyRule_21 : decode cX5_insertAnyRule 21 = .ok (.iload_n 3, 1) := by decide +kernel
theorem dX5_insertAnyRule_22 : decode cX5_insertAnyRule 22 = .ok (.iaload, 1) := by decide +kernel
theorem dX5_insertAnyRule_23 : decode cX5_insertAnyRule 23 = .ok (.invokevirtual 85, 3) := by decide +kernel
theorem dX5_insertAnyRule_26 : decode cX5_insertAnyRule 26 = .ok (.iinc 3 1, 3) := by decide +kernel
theorem dX5_insertAnyRule_29 : decode cX5_insertAnyRule 29 = .ok (.goto (-22), 3) := by decide +kernel
theorem dX5_insertAnyRule_32 : decode cX5_insertAnyRule 32 = .ok (.aload_n 0, 1) := by decide +kernel
theorem dX5_insertAnyRule_33 : decode cX5_insertAnyRule 33 = .ok (.iload_n 1, 1) := by decide +kernel
theorem dX5_insertAnyRule_34 : decode cX5_insertAnyRule 34 = .ok (.bipush 9, 2) := by decide +kernel
theorem dX5_insertAnyRule_36 : decode cX5_insertAnyRule 36 = .ok (.iload_n 2, 1) := by decide +kernel
theorem dX5_insertAnyRule_37 : decode cX5_insertAnyRule 37 = .ok (.invokevirtual 85, 3) := by decide +kernel
theorem dX5_insertAnyRule_40 : decode cX5_insertAnyRule 40 = .ok (.return_, 1) := by decide +kernel
theorem dX5_copyRules_0 : decode cX5_copyRules 0 = .ok (.aload_n 1, 1) := by decide +kernel
theorem dX5_copyRules_1 : decode cX5_copyRules 1 = .ok (.aload_n 0, 1) := by decide +kernel
theorem dX5_copyRules_2 : decode cX5_copyRules 2 = .ok (.invokevirtual 229, 3) := by decide +kernel
theorem dX5_copyRules_5 : decode cX5_copyRules 5 = .ok (.iconst 0, 1) := by decide +kernel
theorem dX5_copyRules_6 : decode cX5_copyRules 6 = .ok (.istore_n 2, 1) := by decide +kernel
theorem dX5_copyRules_7 : decode cX5_copyRules 7 = .ok (.iload_n 2, 1) := by decide +kernel
theorem dX5_copyRules_8 : decode cX5_copyRules 8 = .ok (.aload_n 1, 1) := by decide +kernel
theorem dX5_copyRules_9 : decode cX5_copyRules 9 = .ok (.invokevirtual 60, 3) := by decide +kernel
theorem dX5_copyRules_12 : decode cX5_copyRules 12 = .ok (.if_icmp .ge 17, 3) := by decide +kernel
theorem dX5_copyRules_15 : decode cX5_copyRules 15 = .ok (.aload_n 1, 1) := by decide +kernel
theorem dX5_copyRules_16 : decode cX5_copyRules 16 = .ok (.iload_n 2, 1) := by decide +kernel
theorem dX5_copyRules_17 : decode cX5_copyRules 17 = .ok (.bipush 10, 2) := by decide +kernel
theorem dX5_copyRules_19 : decode cX5_copyRules 19 = .ok (.iconst 0, 1) := by decide +kernel
theorem dX5_copyRules_20 : decode cX5_copyRules 20 = .ok (.invokevirtual 85, 3) := by decide +kernel
theorem dX5_copyRules_23 : decode cX5_copyRules 23 = .ok (.iinc 2 1, 3) := by decide +kernel
theorem dX5_copyRules_26 : decode cX5_copyRules 26 = .ok (.goto (-19), 3) := by decide +kernel
theorem dX5_copyRules_29 : decode cX5_copyRules 29 = .ok (.return_, 1) := by decide +kernel
theorem dX5_fitsEnd_0 : decode cX5_fitsEnd 0 = .ok (.aload_n 0, 1) := by decide +kernel
theorem dX5_fitsEnd_1 : decode cX5_fitsEnd 1 = .ok (.iload_n 1, 1) := by decide +kernel
theorem dX5_fitsEnd_2 : decode cX5_fitsEnd 2 = .ok (.iconst 0, 1) := by decide +kernel
theorem dX5_fitsEnd_3 : decode cX5_fitsEnd 3 = .ok (.iload_n 2, 1) := by decide +kernel
theorem dX5_fitsEnd_4 : decode cX5_fitsEnd 4 = .ok (.iadd, 1) := by decide +kernel
theorem dX5_fitsEnd_5 : decode cX5_fitsEnd 5 = .ok (.invokevirtual 81, 3) := by decide +kernel
theorem dX5_fitsEnd_8 : decode cX5_fitsEnd 8 = .ok (.istore 5, 2) := by decide +kernel
theorem dX5_fitsEnd_10 : decode cX5_fitsEnd 10 = .ok (.aload_n 0, 1) := by decide +kernel
theorem dX5_fitsEnd_11 : decode cX5_fitsEnd 11 = .ok (.iload_n 1, 1) := by decide +kernel
theorem dX5_fitsEnd_12 : decode cX5_fitsEnd 12 = .ok (.iconst 2, 1) := by decide +kernel
theorem dX5_fitsEnd_13 : decode cX5_fitsEnd 13 = .ok (.iconst 2, 1) := by decide +kernel
theorem dX5_fitsEnd_14 : decode cX5_fitsEnd 14 = .ok (.iload_n 2, 1) := by decide +kernel
theorem dX5_fitsEnd_15 : decode cX5_fitsEnd 15 = .ok (.imul, 1) := by decide +kernel
theorem dX5_fitsEnd_16 : decode cX5_fitsEnd 16 = .ok (.iadd, 1) := by decide +kernel
theorem dX5_fitsEnd_17 : decode cX5_fitsEnd 17 = .ok (.invokevirtual 81, 3) := by decide +kernel
theorem dX5_fitsEnd_20 : decode cX5_fitsEnd 20 = .ok (.istore 6, 2) := by decide +kernel
theorem dX5_fitsEnd_22 : decode cX5_fitsEnd 22 = .ok (.aload_n 0, 1) := by decide +kernel
theorem dX5_fitsEnd_23 : decode cX5_fitsEnd 23 = .ok (.iload_n 1, 1) := by decide +kernel
theorem dX5_fitsEnd_24 : decode cX5_fitsEnd 24 = .ok (.iconst 3, 1) := by decide +kernel
theorem dX5_fitsEnd_25 : decode cX5_fitsEnd 25 = .ok (.iconst 2, 1) := by decide +kernel
theorem dX5_fitsEnd_26 : decode cX5_fitsEnd 26 = .ok (.iload_n 2, 1) := by decide +kernel
theorem dX5_fitsEnd_27 : decode cX5_fitsEnd 27 = .ok (.imul, 1) := by decide +kernel
theorem dX5_fitsEnd_28 : decode cX5_fitsEnd 28 = .ok (.iadd, 1) := by decide +kernel
theorem dX5_fitsEnd_29 : decode cX5_fitsEnd 29 = .ok (.invokevirtual 81, 3) := by decide +kernel
theorem dX5_fitsEnd_32 : decode cX5_fitsEnd 32 = .ok (.istore 7, 2) := by decide +kernel
theorem dX5_fitsEnd_34 : decode cX5_fitsEnd 34 = .ok (.iload 5, 2) := by decide +kernel
theorem dX5_fitsEnd_36 : decode cX5_fitsEnd 36 = .ok (.bipush 6, 2) := by decide +kernel
theorem dX5_fitsEnd_38 : decode cX5_fitsEnd 38 = .ok (.if_icmp .eq 10, 3) := by decide +kernel
theorem dX5_fitsEnd_41 : decode cX5_fitsEnd 41 = .ok (.iload 5, 2) := by decide +kernel
theorem dX5_fitsEnd_43 : decode cX5_fitsEnd 43 = .ok (.iload 4, 2) := by decide +kernel
theorem dX5_fitsEnd_45 : decode cX5_fitsEnd 45 = .ok (.if_icmp .ne 18, 3) := by decide +kernel
theorem dX5_fitsEnd_48 : decode cX5_fitsEnd 48 = .ok (.iload_n 3, 1) := by decide +kernel
theorem dX5_fitsEnd_49 : decode cX5_fitsEnd 49 = .ok (.iload 6, 2) := by decide +kernel
theorem dX5_fitsEnd_51 : decode cX5_fitsEnd 51 = .ok (.iload 7, 2) := by decide +kernel
theorem dX5_fitsEnd_53 : decode cX5_fitsEnd 53 = .ok (.invokestatic 40, 3) := by decide +kernel
theorem dX5_fitsEnd_56 : decode cX5_fitsEnd 56 = .ok (.ifCond .eq 7, 3) := by decide +kernel
theorem dX5_fitsEnd_59 : decode cX5_fitsEnd 59 = .ok (.iconst 1, 1) := by decide +kernel
theorem dX5_fitsEnd_60 : decode cX5_fitsEnd 60 = .ok (.goto 4, 3) := by decide +kernel
theorem dX5_fitsEnd_63 : decode cX5_fitsEnd 63 = .ok (.iconst 0, 1) := by decide +kernel
theorem dX5_fitsEnd_64 : decode cX5_fitsEnd 64 = .ok (.ireturn, 1) := by decide +kernel
theorem dX5_fitsService_0 : decode cX5_fitsService 0 = .ok (.aload_n 0, 1) := by decide +kernel
theorem dX5_fitsService_1 : decode cX5_fitsService 1 = .ok (.iload_n 1, 1) := by decide +kernel
theorem dX5_fitsService_2 : decode cX5_fitsService 2 = .ok (.bipush 8, 2) := by decide +kernel
theorem dX5_fitsService_4 : decode cX5_fitsService 4 = .ok (.invokevirtual 81, 3) := by decide +kernel
theorem dX5_fitsService_7 : decode cX5_fitsService 7 = .ok (.istore 4, 2) := by decide +kernel
theorem dX5_fitsService_9 : decode cX5_fitsService 9 = .ok (.iload 4, 2) := by decide +kernel
theorem dX5_fitsService_11 : decode cX5_fitsService 11 = .ok (.iconst 2, 1) := by decide +kernel
theorem dX5_fitsService_12 : decode cX5_fitsService 12 = .ok (.if_icmp .eq 9, 3) := by decide +kernel
theorem dX5_fitsService_15 : decode cX5_fitsService 15 = .ok (.iload 4, 2) := by decide +kernel
theorem dX5_fitsService_17 : decode cX5_fitsService 17 = .ok (.iload_n 3, 1) := by decide +kernel
theorem dX5_fitsService_18 : decode cX5_fitsService 18 = .ok (.if_icmp .ne 28, 3) := by decide +kernel
theorem dX5_fitsService_21 : decode cX5_fitsService 21 = .ok (.iload_n 2, 1) := by decide +kernel
theorem dX5_fitsService_22 : decode cX5_fitsService 22 = .ok (.aload_n 0, 1) := by decide +kernel
theorem dX5_fitsService_23 : decode cX5_fitsService 23 = .ok (.iload_n 1, 1) := by decide +kernel
theorem dX5_fitsService_24 : decode cX5_fitsService 24 = .ok (.bipush 6, 2) := by decide +kernel
theorem dX5_fitsService_26 : decode cX5_fitsService 26 = .ok (.invokevirtual 81, 3) := by decide +kernel
theorem dX5_fitsService_29 : decode cX5_fitsService 29 = .ok (.aload_n 0, 1) := by decide +kernel
theorem dX5_fitsService_30 : decode cX5_fitsService 30 = .ok (.iload_n 1, 1) := by decide +kernel
theorem dX5_fitsService_31 : decode cX5_fitsService 31 = .ok (.bipush 7, 2) := by decide +kernel
theorem dX5_fitsService_33 : decode cX5_fitsService 33 = .ok (.invokevirtual 81, 3) := by decide +kernel
theorem dX5_fitsService_36 : decode cX5_fitsService 36 = .ok (.invokestatic 40, 3) := by decide +kernel
theorem dX5_fitsService_39 : decode cX5_fitsService 39 = .ok (.ifCond .eq 7, 3) := by decide +kernel
theorem dX5_fitsService_42 : decode cX5_fitsService 42 = .ok (.iconst 1, 1) := by decide +kernel
theorem dX5_fitsService_43 : decode cX5_fitsService 43 = .ok (.goto 4, 3) := by decide +kernel
theorem dX5_fitsService_46 : decode cX5_fitsService 46 = .ok (.iconst 0, 1) := by decide +kernel
theorem dX5_fitsService_47 : decode cX5_fitsService 47 = .ok (.ireturn, 1) := by decide +kernel
theorem dX5_tellChange_0 : decode cX5_tellChange 0 = .ok (.iload_n 1, 1) := by decide +kernel
theorem dX5_tellChange_1 : decode cX5_tellChange 1 = .ok (.sipush 1024, 3) := by decide +kernel
theorem dX5_tellChange_4 : decode cX5_tellChange 4 = .ok (.idiv, 1) := by decide +kernel
theorem dX5_tellChange_5 : decode cX5_tellChange 5 = .ok (.istore_n 3, 1) := by decide +kernel
theorem dX5_tellChange_6 : decode cX5_tellChange 6 = .ok (.iload_n 1, 1) := by decide +kernel
theorem dX5_tellChange_7 : decode cX5_tellChange 7 = .ok (.bipush 32, 2) := by decide +kernel
theorem dX5_tellChange_9 : decode cX5_tellChange 9 = .ok (.idiv, 1) := by decide +kernel
theorem dX5_tellChange_10 : decode cX5_tellChange 10 = .ok (.bipush 32, 2) := by decide +kernel
theorem dX5_tellChange_12 : decode cX5_tellChange 12 = .ok (.irem, 1) := by decide +kernel
theorem dX5_tellChange_13 : decode cX5_tellChange 13 = .ok (.istore 4, 2) := by decide +kernel
theorem dX5_tellChange_15 : decode cX5_tellChange 15 = .ok (.iload_n 1, 1) := by decide +kernel
theorem dX5_tellChange_16 : decode cX5_tellChange 16 = .ok (.iconst 2, 1) := by decide +kernel
theorem dX5_tellChange_17 : decode cX5_tellChange 17 = .ok (.idiv, 1) := by decide +kernel
theorem dX5_tellChange_18 : decode cX5_tellChange 18 = .ok (.bipush 16, 2) := by decide +kernel
theorem dX5_tellChange_20 : decode cX5_tellChange 20 = .ok (.irem, 1) := by decide +kernel
theorem dX5_tellChange_21 : decode cX5_tellChange 21 = .ok (.istore 5, 2) := by decide +kernel
theorem dX5_tellChange_23 : decode cX5_tellChange 23 = .ok (.iload_n 1, 1) := by decide +kernel
theorem dX5_tellChange_24 : decode cX5_tellChange 24 = .ok (.iconst 2, 1) := by decide +kernel
theorem dX5_tellChange_25 : decode cX5_tellChange 25 = .ok (.irem, 1) := by decide +kernel
theorem dX5_tellChange_26 : decode cX5_tellChange 26 = .ok (.istore 6, 2) := by decide +kernel
theorem dX5_tellChange_28 : decode cX5_tellChange 28 = .ok (.iload_n 2, 1) := by decide +kernel
theorem dX5_tellChange_29 : decode cX5_tellChange 29 = .ok (.tableswitch 68 1 5 #[35, 37, 40, 43, 46], 35) := by decide +kernel
theorem dX5_tellChange_64 : decode cX5_tellChange 64 = .ok (.iload_n 3, 1) := by decide +kernel
theorem dX5_tellChange_65 : decode cX5_tellChange 65 = .ok (.ireturn, 1) := by decide +kernel
theorem dX5_tellChange_66 : decode cX5_tellChange 66 = .ok (.iload 4, 2) := by decide +kernel
theorem dX5_tellChange_68 : decode cX5_tellChange 68 = .ok (.ireturn, 1) := by decide +kernel
theorem dX5_tellChange_69 : decode cX5_tellChange 69 = .ok (.iload 5, 2) := by decide +kernel
theorem dX5_tellChange_71 : decode cX5_tellChange 71 = .ok (.ireturn, 1) := by decide +kernel
theorem dX5_tellChange_72 : decode cX5_tellChange 72 = .ok (.iload 6, 2) := by decide +kernel
theorem dX5_tellChange_74 : decode cX5_tellChange 74 = .ok (.ireturn, 1) := by decide +kernel
theorem dX5_tellChange_75 : decode cX5_tellChange 75 = .ok (.aload_n 0, 1) := by decide +kernel
theorem dX5_tellChange_76 : decode cX5_tellChange 76 = .ok (.getfield 12, 3) := by decide +kernel
theorem dX5_tellChange_79 : decode cX5_tellChange 79 = .ok (.aload_n 0, 1) := by decide +kernel
theorem dX5_tellChange_80 : decode cX5_tellChange 80 = .ok (.getfield 12, 3) := by decide +kernel
theorem dX5_tellChange_83 : decode cX5_tellChange 83 = .ok (.getfield 97, 3) := by decide +kernel
theorem dX5_tellChange_86 : decode cX5_tellChange 86 = .ok (.iload_n 3, 1) := by decide +kernel
theorem dX5_tellChange_87 : decode cX5_tellChange 87 = .ok (.iload 4, 2) := by decide +kernel
theorem dX5_tellChange_89 : decode cX5_tellChange 89 = .ok (.iload 5, 2) := by decide +kernel
theorem dX5_tellChange_91 : decode cX5_tellChange 91 = .ok (.iload 6, 2) := by decide +kernel
theorem dX5_tellChange_93 : decode cX5_tellChange 93 = .ok (.invokevirtual 233, 3) := by decide +kernel
theorem dX5_tellChange_96 : decode cX5_tellChange 96 = .ok (.ireturn, 1) := by decide +kernel
theorem dX5_tellChange_97 : decode cX5_tellChange 97 = .ok (.aload_n 0, 1) := by decide +kernel
theorem dX5_tellChange_98 : decode cX5_tellChange 98 = .ok (.getfield 12, 3) := by decide +kernel
theorem dX5_tellChange_101 : decode cX5_tellChange 101 = .ok (.aload_n 0, 1) := by decide +kernel
theorem dX5_tellChange_102 : decode cX5_tellChange 102 = .ok (.getfield 12, 3) := by decide +kernel
theorem dX5_tellChange_105 : decode cX5_tellChange 105 = .ok (.getfield 56, 3) := by decide +kernel
theorem dX5_tellChange_108 : decode cX5_tellChange 108 = .ok (.iload_n 3, 1) := by decide +kernel
theorem dX5_tellChange_109 : decode cX5_tellChange 109 = .ok (.iload 4, 2) := by decide +kernel
theorem dX5_tellChange_111 : decode cX5_tellChange 111 = .ok (.iload 5, 2) := by decide +kernel
theorem dX5_tellChange_113 : decode cX5_tellChange 113 = .ok (.iload 6, 2) := by decide +kernel
theorem dX5_tellChange_115 : decode cX5_tellChange 115 = .ok (.invokevirtual 233, 3) := by decide +kernel
theorem dX5_tellChange_118 : decode cX5_tellChange 118 = .ok (.ireturn, 1) := by decide +kernel
theorem dX5_handleLetter_0 : decode cX5_handleLetter 0 = .ok (.aload_n 0, 1) := by decide +kernel
theorem dX5_handleLetter_1 : decode cX5_handleLetter 1 = .ok (.getfield 12, 3) := by decide +kernel
theorem dX5_handleLetter_4 : decode cX5_handleLetter 4 = .ok (.getfield 151, 3) := by decide +kernel
theorem dX5_handleLetter_7 : decode cX5_handleLetter 7 = .ok (.iload_n 1, 1) := by decide +kernel
theorem dX5_handleLetter_8 : decode cX5_handleLetter 8 = .ok (.iload_n 2, 1) := by decide +kernel
theorem dX5_handleLetter_9 : decode cX5_handleLetter 9 = .ok (.iload_n 3, 1) := by decide +kernel
theorem dX5_handleLetter_10 : decode cX5_handleLetter 10 = .ok (.iload 4, 2) := by decide +kernel
theorem dX5_handleLetter_12 : decode cX5_handleLetter 12 = .ok (.invokevirtual 236, 3) := by decide +kernel
theorem dX5_handleLetter_15 : decode cX5_handleLetter 15 = .ok (.istore 6, 2) := by decide +kernel
theorem dX5_handleLetter_17 : decode cX5_handleLetter 17 = .ok (.iload 6, 2) := by decide +kernel
theorem dX5_handleLetter_19 : decode cX5_handleLetter 19 = .ok (.iconst (-1), 1) := by decide +kernel
theorem dX5_handleLetter_20 : decode cX5_handleLetter 20 = .ok (.if_icmp .eq 13, 3) := by decide +kernel
theorem dX5_handleLetter_23 : decode cX5_handleLetter 23 = .ok (.aload_n 0, 1) := by decide +kernel
theorem dX5_handleLetter_24 : decode cX5_handleLetter 24 = .ok (.iload 6, 2) := by decide +kernel
theorem dX5_handleLetter_26 : decode cX5_handleLetter 26 = .ok (.iconst 0, 1) := by decide +kernel
theorem dX5_handleLetter_27 : decode cX5_handleLetter 27 = .ok (.iload 5, 2) := by decide +kernel
theorem dX5_handleLetter_29 : decode cX5_handleLetter 29 = .ok (.invokevirtual 240, 3) := by decide +kernel
theorem dX5_handleLetter_32 : decode cX5_handleLetter 32 = .ok (.ireturn, 1) := by decide +kernel
theorem dX5_handleLetter_33 : decode cX5_handleLetter 33 = .ok (.aload_n 0, 1) := by decide +kernel
theorem dX5_handleLetter_34 : decode cX5_handleLetter 34 = .ok (.getfield 12, 3) := by decide +kernel
theorem dX5_handleLetter_37 : decode cX5_handleLetter 37 = .ok (.getfield 151, 3) := by decide +kernel
theorem dX5_handleLetter_40 : decode cX5_handleLetter 40 = .ok (.iload_n 2, 1) := by decide +kernel
theorem dX5_handleLetter_41 : decode cX5_handleLetter 41 = .ok (.iload_n 1, 1) := by decide +kernel
theorem dX5_handleLetter_42 : decode cX5_handleLetter 42 = .ok (.iload_n 3, 1) := by decide +kernel
theorem dX5_handleLetter_43 : decode cX5_handleLetter 43 = .ok (.iload 4, 2) := by decide +kernel
theorem dX5_handleLetter_45 : decode cX5_handleLetter 45 = .ok (.invokevirtual 236, 3) := by decide +kernel
theorem dX5_handleLetter_48 : decode cX5_handleLetter 48 = .ok (.istore 7, 2) := by decide +kernel
theorem dX5_handleLetter_50 : decode cX5_handleLetter 50 = .ok (.iload 7, 2) := by decide +kernel
theorem dX5_handleLetter_52 : decode cX5_handleLetter 52 = .ok (.iconst (-1), 1) := by decide +kernel
theorem dX5_handleLetter_53 : decode cX5_handleLetter 53 = .ok (.if_icmp .eq 13, 3) := by decide +kernel
theorem dX5_handleLetter_56 : decode cX5_handleLetter 56 = .ok (.aload_n 0, 1) := by decide +kernel
theorem dX5_handleLetter_57 : decode cX5_handleLetter 57 = .ok (.iload 7, 2) := by decide +kernel
theorem dX5_handleLetter_59 : decode cX5_handleLetter 59 = .ok (.iconst 1, 1) := by decide +kernel
theorem dX5_handleLetter_60 : decode cX5_handleLetter 60 = .ok (.iload 5, 2) := by decide +kernel
theorem dX5_handleLetter_62 : decode cX5_handleLetter 62 = .ok (.invokevirtual 240, 3) := by decide +kernel
theorem dX5_handleLetter_65 : decode cX5_handleLetter 65 = .ok (.ireturn, 1) := by decide +kernel
theorem dX5_handleLetter_66 : decode cX5_handleLetter 66 = .ok (.iload 5, 2) := by decide +kernel
theorem dX5_handleLetter_68 : decode cX5_handleLetter 68 = .ok (.iload 4, 2) := by decide +kernel
theorem dX5_handleLetter_70 : decode cX5_handleLetter 70 = .ok (.ifCond .ne 7, 3) := by decide +kernel
theorem dX5_handleLetter_73 : decode cX5_handleLetter 73 = .ok (.iconst 0, 1) := by decide +kernel
theorem dX5_handleLetter_74 : decode cX5_handleLetter 74 = .ok (.goto 4, 3) := by decide +kernel
theorem dX5_handleLetter_77 : decode cX5_handleLetter 77 = .ok (.iconst 2, 1) := by decide +kernel
theorem dX5_handleLetter_78 : decode cX5_handleLetter 78 = .ok (.if_icmp .eq 5, 3) := by decide +kernel
theorem dX5_handleLetter_81 : decode cX5_handleLetter 81 = .ok (.iconst 3, 1) := by decide +kernel
theorem dX5_handleLetter_82 : decode cX5_handleLetter 82 = .ok (.ireturn, 1) := by decide +kernel
theorem dX5_handleLetter_83 : decode cX5_handleLetter 83 = .ok (.aload_n 0, 1) := by decide +kernel
theorem dX5_handleLetter_84 : decode cX5_handleLetter 84 = .ok (.iload_n 1, 1) := by decide +kernel
theorem dX5_handleLetter_85 : decode cX5_handleLetter 85 = .ok (.iload_n 2, 1) := by decide +kernel
theorem dX5_handleLetter_86 : decode cX5_handleLetter 86 = .ok (.iload_n 3, 1) := by decide +kernel
theorem dX5_handleLetter_87 : decode cX5_handleLetter 87 = .ok (.iload 4, 2) := by decide +kernel
theorem dX5_handleLetter_89 : decode cX5_handleLetter 89 = .ok (.invokevirtual 244, 3) := by decide +kernel
theorem dX5_handleLetter_92 : decode cX5_handleLetter 92 = .ok (.istore 8, 2) := by decide +kernel
theorem dX5_handleLetter_94 : decode cX5_handleLetter 94 = .ok (.iload 8, 2) := by decide +kernel
theorem dX5_handleLetter_96 : decode cX5_handleLetter 96 = .ok (.iconst 1, 1) := by decide +kernel
theorem dX5_handleLetter_97 : decode cX5_handleLetter 97 = .ok (.if_icmp .ne 15, 3) := by decide +kernel
theorem dX5_handleLetter_100 : decode cX5_handleLetter 100 = .ok (.aload_n 0, 1) := by decide +kernel
theorem dX5_handleLetter_101 : decode cX5_handleLetter 101 = .ok (.iload_n 1, 1) := by decide +kernel
theorem dX5_handleLetter_102 : decode cX5_handleLetter 102 = .ok (.iload_n 2, 1) := by decide +kernel
theorem dX5_handleLetter_103 : decode cX5_handleLetter 103 = .ok (.iload_n 3, 1) := by decide +kernel
theorem dX5_handleLetter_104 : decode cX5_handleLetter 104 = .ok (.iload 4, 2) := by decide +kernel
theorem dX5_handleLetter_106 : decode cX5_handleLetter 106 = .ok (.invokevirtual 247, 3) := by decide +kernel
theorem dX5_handleLetter_109 : decode cX5_handleLetter 109 = .ok (.goto 5, 3) := by decide +kernel
theorem dX5_handleLetter_112 : decode cX5_handleLetter 112 = .ok (.iload 8, 2) := by decide +kernel
theorem dX5_handleLetter_114 : decode cX5_handleLetter 114 = .ok (.ireturn, 1) := by decide +kernel
theorem dX5_continueFlow_0 : decode cX5_continueFlow 0 = .ok (.iload_n 3, 1) := by decide +kernel
theorem dX5_continueFlow_1 : decode cX5_continueFlow 1 = .ok (.iconst 4, 1) := by decide +kernel
theorem dX5_continueFlow_2 : decode cX5_continueFlow 2 = .ok (.if_icmp .ne 16, 3) := by decide +kernel
theorem dX5_continueFlow_5 : decode cX5_continueFlow 5 = .ok (.aload_n 0, 1) := by decide +kernel
theorem dX5_continueFlow_6 : decode cX5_continueFlow 6 = .ok (.getfield 12, 3) := by decide +kernel
theorem dX5_continueFlow_9 : decode cX5_continueFlow 9 = .ok (.getfield 151, 3) := by decide +kernel
theorem dX5_continueFlow_12 : decode cX5_continueFlow 12 = .ok (.iload_n 1, 1) := by decide +kernel
theorem dX5_continueFlow_13 : decode cX5_continueFlow 13 = .ok (.invokevirtual 89, 3) := by decide +kernel
theorem dX5_continueFlow_16 : decode cX5_continueFlow 16 = .ok (.iconst 1, 1) := by decide +kernel
theorem dX5_continueFlow_17 : decode cX5_continueFlow 17 = .ok (.ireturn, 1) := by decide +kernel
theorem dX5_continueFlow_18 : decode cX5_continueFlow 18 = .ok (.aload_n 0, 1) := by decide +kernel
theorem dX5_continueFlow_19 : decode cX5_continueFlow 19 = .ok (.getfield 12, 3) := by decide +kernel
theorem dX5_continueFlow_22 : decode cX5_continueFlow 22 = .ok (.getfield 151, 3) := by decide +kernel
theorem dX5_continueFlow_25 : decode cX5_continueFlow 25 = .ok (.iload_n 1, 1) := by decide +kernel
theorem dX5_continueFlow_26 : decode cX5_continueFlow 26 = .ok (.iconst 4, 1) := by decide +kernel
theorem dX5_continueFlow_27 : decode cX5_continueFlow 27 = .ok (.invokevirtual 81, 3) := by decide +kernel
theorem dX5_continueFlow_30 : decode cX5_continueFlow 30 = .ok (.istore 4, 2) := by decide +kernel
theorem dX5_continueFlow_32 : decode cX5_continueFlow 32 = .ok (.iload 4, 2) := by decide +kernel
theorem dX5_continueFlow_34 : decode cX5_continueFlow 34 = .ok (.iload_n 2, 1) := by decide +kernel
theorem dX5_continueFlow_35 : decode cX5_continueFlow 35 = .ok (.aload_n 0, 1) := by decide +kernel
theorem dX5_continueFlow_36 : decode cX5_continueFlow 36 = .ok (.getfield 12, 3) := by decide +kernel
theorem dX5_continueFlow_39 : decode cX5_continueFlow 39 = .ok (.getfield 151, 3) := by decide +kernel
theorem dX5_continueFlow_42 : decode cX5_continueFlow 42 = .ok (.iload_n 1, 1) := by decide +kernel
theorem dX5_continueFlow_43 : decode cX5_continueFlow 43 = .ok (.bipush 6, 2) := by decide +kernel
theorem dX5_continueFlow_45 : decode cX5_continueFlow 45 = .ok (.invokevirtual 81, 3) := by decide +kernel
theorem dX5_continueFlow_48 : decode cX5_continueFlow 48 = .ok (.iload_n 3, 1) := by decide +kernel
theorem dX5_continueFlow_49 : decode cX5_continueFlow 49 = .ok (.invokestatic 250, 3) := by decide +kernel
theorem dX5_continueFlow_52 : decode cX5_continueFlow 52 = .ok (.istore 5, 2) := by decide +kernel
theorem dX5_continueFlow_54 : decode cX5_continueFlow 54 = .ok (.iload 5, 2) := by decide +kernel
theorem dX5_continueFlow_56 : decode cX5_continueFlow 56 = .ok (.iconst (-1), 1) := by decide +kernel
theorem dX5_continueFlow_57 : decode cX5_continueFlow 57 = .ok (.if_icmp .ne 5, 3) := by decide +kernel
theorem dX5_continueFlow_60 : decode cX5_continueFlow 60 = .ok (.iconst 3, 1) := by decide +kernel
theorem dX5_continueFlow_61 : decode cX5_continueFlow 61 = .ok (.ireturn, 1) := by decide +kernel
theorem dX5_continueFlow_62 : decode cX5_continueFlow 62 = .ok (.iload 4, 2) := by decide +kernel
theorem dX5_continueFlow_64 : decode cX5_continueFlow 64 = .ok (.iconst 3, 1) := by decide +kernel
theorem dX5_continueFlow_65 : decode cX5_continueFlow 65 = .ok (.if_icmp .ne 23, 3) := by decide +kernel
theorem dX5_continueFlow_68 : decode cX5_continueFlow 68 = .ok (.iload 5, 2) := by decide +kernel
theorem dX5_continueFlow_70 : decode cX5_continueFlow 70 = .ok (.iconst 4, 1) := by decide +kernel
theorem dX5_continueFlow_71 : decode cX5_continueFlow 71 = .ok (.if_icmp .ne 17, 3) := by decide +kernel
theorem dX5_continueFlow_74 : decode cX5_continueFlow 74 = .ok (.aload_n 0, 1) := by decide +kernel
theorem dX5_continueFlow_75 : decode cX5_continueFlow 75 = .ok (.getfield 12, 3) := by decide +kernel
theorem dX5_continueFlow_78 : decode cX5_continueFlow 78 = .ok (.getfield 151, 3) := by decide +kernel
theorem dX5_continueFlow_81 : decode cX5_continueFlow 81 = .ok (.iload_n 1, 1) := by decide +kernel
theorem dX5_continueFlow_82 : decode cX5_continueFlow 82 = .ok (.bipush 6, 2) := by decide +kernel
theorem dX5_continueFlow_84 : decode cX5_continueFlow 84 = .ok (.iload_n 2, 1) := by decide +kernel
theorem dX5_continueFlow_85 : decode cX5_continueFlow 85 = .ok (.invokevirtual 85, 3) := by decide +kernel
theorem dX5_continueFlow_88 : decode cX5_continueFlow 88 = .ok (.aload_n 0, 1) := by decide +kernel
theorem dX5_continueFlow_89 : decode cX5_continueFlow 89 = .ok (.getfield 12, 3) := by decide +kernel
theorem dX5_continueFlow_92 : decode cX5_continueFlow 92 = .ok (.iload_n 1, 1) := by decide +kernel
theorem dX5_continueFlow_93 : decode cX5_continueFlow 93 = .ok (.iload 5, 2) := by decide +kernel
theorem dX5_continueFlow_95 : decode cX5_continueFlow 95 = .ok (.invokevirtual 253, 3) := by decide +kernel
theorem dX5_continueFlow_98 : decode cX5_continueFlow 98 = .ok (.iconst 1, 1) := by decide +kernel
theorem dX5_continueFlow_99 : decode cX5_continueFlow 99 = .ok (.ireturn, 1) := by decide +kernel
theorem dX5_nextStage_0 : decode cX5_nextStage 0 = .ok (.iload_n 0, 1) := by decide +kernel
theorem dX5_nextStage_1 : decode cX5_nextStage 1 = .ok (.tableswitch 153 1 7 #[43, 59, 74, 94, 153, 121, 141], 43) := by decide +kernel
theorem dX5_nextStage_44 : decode cX5_nextStage 44 = .ok (.iload_n 1, 1) := by decide +kernel
theorem dX5_nextStage_45 : decode cX5_nextStage 45 = .ok (.iconst 1, 1) := by decide +kernel
theorem dX5_nextStage_46 : decode cX5_nextStage 46 = .ok (.if_icmp .ne 12, 3) := by decide +kernel
