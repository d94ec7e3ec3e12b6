theorem dX6_takesNumber_23 : decode cX6_takesNumber 23 = .ok (.ireturn, 1) := by decide +kernel
theorem dX6_takesNumber_24 : decode cX6_takesNumber 24 = .ok (.aload_n 0, 1) := by decide +kernel
theorem dX6_takesNumber_25 : decode cX6_takesNumber 25 = .ok (.getfield 182, 3) := by decide +kernel
theorem dX6_takesNumber_28 : decode cX6_takesNumber 28 = .ok (.istore_n 2, 1) := by decide +kernel
theorem dX6_takesNumber_29 : decode cX6_takesNumber 29 = .ok (.aload_n 0, 1) := by decide +kernel
theorem dX6_takesNumber_30 : decode cX6_takesNumber 30 = .ok (.iconst 0, 1) := by decide +kernel
theorem dX6_takesNumber_31 : decode cX6_takesNumber 31 = .ok (.putfield 211, 3) := by decide +kernel
theorem dX6_takesNumber_34 : decode cX6_takesNumber 34 = .ok (.aload_n 0, 1) := by decide +kernel
theorem dX6_takesNumber_35 : decode cX6_takesNumber 35 = .ok (.bipush 48, 2) := by decide +kernel
theorem dX6_takesNumber_37 : decode cX6_takesNumber 37 = .ok (.bipush 57, 2) := by decide +kernel
theorem dX6_takesNumber_39 : decode cX6_takesNumber 39 = .ok (.invokevirtual 185, 3) := by decide +kernel
theorem dX6_takesNumber_42 : decode cX6_takesNumber 42 = .ok (.ifCond .eq 59, 3) := by decide +kernel
theorem dX6_takesNumber_45 : decode cX6_takesNumber 45 = .ok (.aload_n 0, 1) := by decide +kernel
theorem dX6_takesNumber_46 : decode cX6_takesNumber 46 = .ok (.getfield 182, 3) := by decide +kernel
theorem dX6_takesNumber_49 : decode cX6_takesNumber 49 = .ok (.iload_n 2, 1) := by decide +kernel
theorem dX6_takesNumber_50 : decode cX6_takesNumber 50 = .ok (.iconst 2, 1) := by decide +kernel
theorem dX6_takesNumber_51 : decode cX6_takesNumber 51 = .ok (.iadd, 1) := by decide +kernel
theorem dX6_takesNumber_52 : decode cX6_takesNumber 52 = .ok (.if_icmp .ne 12, 3) := by decide +kernel
theorem dX6_takesNumber_55 : decode cX6_takesNumber 55 = .ok (.aload_n 0, 1) := by decide +kernel
theorem dX6_takesNumber_56 : decode cX6_takesNumber 56 = .ok (.aload_n 0, 1) := by decide +kernel
theorem dX6_takesNumber_57 : decode cX6_takesNumber 57 = .ok (.getfield 182, 3) := by decide +kernel
theorem dX6_takesNumber_60 : decode cX6_takesNumber 60 = .ok (.invokevirtual 208, 3) := by decide +kernel
theorem dX6_takesNumber_63 : decode cX6_takesNumber 63 = .ok (.ireturn, 1) := by decide +kernel
theorem dX6_takesNumber_64 : decode cX6_takesNumber 64 = .ok (.aload_n 0, 1) := by decide +kernel
theorem dX6_takesNumber_65 : decode cX6_takesNumber 65 = .ok (.bipush 10, 2) := by decide +kernel
theorem dX6_takesNumber_67 : decode cX6_takesNumber 67 = .ok (.aload_n 0, 1) := by decide +kernel
theorem dX6_takesNumber_68 : decode cX6_takesNumber 68 = .ok (.getfield 211, 3) := by decide +kernel
theorem dX6_takesNumber_71 : decode cX6_takesNumber 71 = .ok (.imul, 1) := by decide +kernel
theorem dX6_takesNumber_72 : decode cX6_takesNumber 72 = .ok (.aload_n 0, 1) := by decide +kernel
theorem dX6_takesNumber_73 : decode cX6_takesNumber 73 = .ok (.getfield 19, 3) := by decide +kernel
theorem dX6_takesNumber_76 : decode cX6_takesNumber 76 = .ok (.aload_n 0, 1) := by decide +kernel
theorem dX6_takesNumber_77 : decode cX6_takesNumber 77 = .ok (.getfield 182, 3) := by decide +kernel
theorem dX6_takesNumber_80 : decode cX6_takesNumber 80 = .ok (.iaload, 1) := by decide +kernel
theorem dX6_takesNumber_81 : decode cX6_takesNumber 81 = .ok (.iadd, 1) := by decide +kernel
theorem dX6_takesNumber_82 : decode cX6_takesNumber 82 = .ok (.bipush 48, 2) := by decide +kernel
theorem dX6_takesNumber_84 : decode cX6_takesNumber 84 = .ok (.isub, 1) := by decide +kernel
theorem dX6_takesNumber_85 : decode cX6_takesNumber 85 = .ok (.putfield 211, 3) := by decide +kernel
theorem dX6_takesNumber_88 : decode cX6_takesNumber 88 = .ok (.aload_n 0, 1) := by decide +kernel
theorem dX6_takesNumber_89 : decode cX6_takesNumber 89 = .ok (.dup, 1) := by decide +kernel
theorem dX6_takesNumber_90 : decode cX6_takesNumber 90 = .ok (.getfield 182, 3) := by decide +kernel
theorem dX6_takesNumber_93 : decode cX6_takesNumber 93 = .ok (.iconst 1, 1) := by decide +kernel
theorem dX6_takesNumber_94 : decode cX6_takesNumber 94 = .ok (.iadd, 1) := by decide +kernel
theorem dX6_takesNumber_95 : decode cX6_takesNumber 95 = .ok (.putfield 182, 3) := by decide +kernel
theorem dX6_takesNumber_98 : decode cX6_takesNumber 98 = .ok (.goto (-64), 3) := by decide +kernel
theorem dX6_takesNumber_101 : decode cX6_takesNumber 101 = .ok (.aload_n 0, 1) := by decide +kernel
theorem dX6_takesNumber_102 : decode cX6_takesNumber 102 = .ok (.getfield 211, 3) := by decide +kernel
theorem dX6_takesNumber_105 : decode cX6_takesNumber 105 = .ok (.iload_n 1, 1) := by decide +kernel
theorem dX6_takesNumber_106 : decode cX6_takesNumber 106 = .ok (.if_icmp .le 11, 3) := by decide +kernel
theorem dX6_takesNumber_109 : decode cX6_takesNumber 109 = .ok (.aload_n 0, 1) := by decide +kernel
theorem dX6_takesNumber_110 : decode cX6_takesNumber 110 = .ok (.iload_n 2, 1) := by decide +kernel
theorem dX6_takesNumber_111 : decode cX6_takesNumber 111 = .ok (.invokevirtual 208, 3) := by decide +kernel
theorem dX6_takesNumber_114 : decode cX6_takesNumber 114 = .ok (.ifCond .eq 7, 3) := by decide +kernel
theorem dX6_takesNumber_117 : decode cX6_takesNumber 117 = .ok (.iconst 1, 1) := by decide +kernel
theorem dX6_takesNumber_118 : decode cX6_takesNumber 118 = .ok (.goto 4, 3) := by decide +kernel
theorem dX6_takesNumber_121 : decode cX6_takesNumber 121 = .ok (.iconst 0, 1) := by decide +kernel
theorem dX6_takesNumber_122 : decode cX6_takesNumber 122 = .ok (.ireturn, 1) := by decide +kernel
theorem dX6_takesNumbers_0 : decode cX6_takesNumbers 0 = .ok (.iconst 0, 1) := by decide +kernel
theorem dX6_takesNumbers_1 : decode cX6_takesNumbers 1 = .ok (.istore 4, 2) := by decide +kernel
theorem dX6_takesNumbers_3 : decode cX6_takesNumbers 3 = .ok (.iload 4, 2) := by decide +kernel
theorem dX6_takesNumbers_5 : decode cX6_takesNumbers 5 = .ok (.iload_n 2, 1) := by decide +kernel
theorem dX6_takesNumbers_6 : decode cX6_takesNumbers 6 = .ok (.if_icmp .ge 40, 3) := by decide +kernel
theorem dX6_takesNumbers_9 : decode cX6_takesNumbers 9 = .ok (.aload_n 0, 1) := by decide +kernel
theorem dX6_takesNumbers_10 : decode cX6_takesNumbers 10 = .ok (.iload_n 3, 1) := by decide +kernel
theorem dX6_takesNumbers_11 : decode cX6_takesNumbers 11 = .ok (.invokevirtual 214, 3) := by decide +kernel
theorem dX6_takesNumbers_14 : decode cX6_takesNumbers 14 = .ok (.ifCond .ne 5, 3) := by decide +kernel
theorem dX6_takesNumbers_17 : decode cX6_takesNumbers 17 = .ok (.iconst 0, 1) := by decide +kernel
theorem dX6_takesNumbers_18 : decode cX6_takesNumbers 18 = .ok (.ireturn, 1) := by decide +kernel
theorem dX6_takesNumbers_19 : decode cX6_takesNumbers 19 = .ok (.aload_n 0, 1) := by decide +kernel
theorem dX6_takesNumbers_20 : decode cX6_takesNumbers 20 = .ok (.getfield 28, 3) := by decide +kernel
theorem dX6_takesNumbers_23 : decode cX6_takesNumbers 23 = .ok (.bipush 11, 2) := by decide +kernel
theorem dX6_takesNumbers_25 : decode cX6_takesNumbers 25 = .ok (.aload_n 0, 1) := by decide +kernel
theorem dX6_takesNumbers_26 : decode cX6_takesNumbers 26 = .ok (.getfield 217, 3) := by decide +kernel
theorem dX6_takesNumbers_29 : decode cX6_takesNumbers 29 = .ok (.imul, 1) := by decide +kernel
theorem dX6_takesNumbers_30 : decode cX6_takesNumbers 30 = .ok (.iload_n 1, 1) := by decide +kernel
theorem dX6_takesNumbers_31 : decode cX6_takesNumbers 31 = .ok (.iadd, 1) := by decide +kernel
theorem dX6_takesNumbers_32 : decode cX6_takesNumbers 32 = .ok (.iload 4, 2) := by decide +kernel
theorem dX6_takesNumbers_34 : decode cX6_takesNumbers 34 = .ok (.iadd, 1) := by decide +kernel
theorem dX6_takesNumbers_35 : decode cX6_takesNumbers 35 = .ok (.aload_n 0, 1) := by decide +kernel
theorem dX6_takesNumbers_36 : decode cX6_takesNumbers 36 = .ok (.getfield 211, 3) := by decide +kernel
theorem dX6_takesNumbers_39 : decode cX6_takesNumbers 39 = .ok (.iastore, 1) := by decide +kernel
theorem dX6_takesNumbers_40 : decode cX6_takesNumbers 40 = .ok (.iinc 4 1, 3) := by decide +kernel
theorem dX6_takesNumbers_43 : decode cX6_takesNumbers 43 = .ok (.goto (-40), 3) := by decide +kernel
theorem dX6_takesNumbers_46 : decode cX6_takesNumbers 46 = .ok (.iconst 1, 1) := by decide +kernel
theorem dX6_takesNumbers_47 : decode cX6_takesNumbers 47 = .ok (.ireturn, 1) := by decide +kernel
theorem dX6_takesPart_0 : decode cX6_takesPart 0 = .ok (.iload_n 1, 1) := by decide +kernel
theorem dX6_takesPart_1 : decode cX6_takesPart 1 = .ok (.tableswitch 81 3 7 #[35, 44, 53, 62, 71], 35) := by decide +kernel
theorem dX6_takesPart_36 : decode cX6_takesPart 36 = .ok (.aload_n 0, 1) := by decide +kernel
theorem dX6_takesPart_37 : decode cX6_takesPart 37 = .ok (.iconst 0, 1) := by decide +kernel
theorem dX6_takesPart_38 : decode cX6_takesPart 38 = .ok (.iconst 1, 1) := by decide +kernel
theorem dX6_takesPart_39 : decode cX6_takesPart 39 = .ok (.bipush 6, 2) := by decide +kernel
theorem dX6_takesPart_41 : decode cX6_takesPart 41 = .ok (.invokevirtual 220, 3) := by decide +kernel
theorem dX6_takesPart_44 : decode cX6_takesPart 44 = .ok (.ireturn, 1) := by decide +kernel
theorem dX6_takesPart_45 : decode cX6_takesPart 45 = .ok (.aload_n 0, 1) := by decide +kernel
theorem dX6_takesPart_46 : decode cX6_takesPart 46 = .ok (.iconst 1, 1) := by decide +kernel
theorem dX6_takesPart_47 : decode cX6_takesPart 47 = .ok (.iconst 1, 1) := by decide +kernel
theorem dX6_takesPart_48 : decode cX6_takesPart 48 = .ok (.bipush 6, 2) := by decide +kernel
theorem dX6_takesPart_50 : decode cX6_takesPart 50 = .ok (.invokevirtual 220, 3) := by decide +kernel
theorem dX6_takesPart_53 : decode cX6_takesPart 53 = .ok (.ireturn, 1) := by decide +kernel
theorem dX6_takesPart_54 : decode cX6_takesPart 54 = .ok (.aload_n 0, 1) := by decide +kernel
theorem dX6_takesPart_55 : decode cX6_takesPart 55 = .ok (.iconst 2, 1) := by decide +kernel
theorem dX6_takesPart_56 : decode cX6_takesPart 56 = .ok (.iconst 2, 1) := by decide +kernel
theorem dX6_takesPart_57 : decode cX6_takesPart 57 = .ok (.bipush 31, 2) := by decide +kernel
theorem dX6_takesPart_59 : decode cX6_takesPart 59 = .ok (.invokevirtual 220, 3) := by decide +kernel
theorem dX6_takesPart_62 : decode cX6_takesPart 62 = .ok (.ireturn, 1) := by decide +kernel
theorem dX6_takesPart_63 : decode cX6_takesPart 63 = .ok (.aload_n 0, 1) := by decide +kernel
theorem dX6_takesPart_64 : decode cX6_takesPart 64 = .ok (.iconst 4, 1) := by decide +kernel
theorem dX6_takesPart_65 : decode cX6_takesPart 65 = .ok (.iconst 2, 1) := by decide +kernel
theorem dX6_takesPart_66 : decode cX6_takesPart 66 = .ok (.bipush 31, 2) := by decide +kernel
theorem dX6_takesPart_68 : decode cX6_takesPart 68 = .ok (.invokevirtual 220, 3) := by decide +kernel
theorem dX6_takesPart_71 : decode cX6_takesPart 71 = .ok (.ireturn, 1) := by decide +kernel
theorem dX6_takesPart_72 : decode cX6_takesPart 72 = .ok (.aload_n 0, 1) := by decide +kernel
theorem dX6_takesPart_73 : decode cX6_takesPart 73 = .ok (.bipush 6, 2) := by decide +kernel
theorem dX6_takesPart_75 : decode cX6_takesPart 75 = .ok (.iconst 2, 1) := by decide +kernel
theorem dX6_takesPart_76 : decode cX6_takesPart 76 = .ok (.bipush 15, 2) := by decide +kernel
theorem dX6_takesPart_78 : decode cX6_takesPart 78 = .ok (.invokevirtual 220, 3) := by decide +kernel
theorem dX6_takesPart_81 : decode cX6_takesPart 81 = .ok (.ireturn, 1) := by decide +kernel
theorem dX6_takesPart_82 : decode cX6_takesPart 82 = .ok (.aload_n 0, 1) := by decide +kernel
theorem dX6_takesPart_83 : decode cX6_takesPart 83 = .ok (.getfield 28, 3) := by decide +kernel
theorem dX6_takesPart_86 : decode cX6_takesPart 86 = .ok (.bipush 11, 2) := by decide +kernel
theorem dX6_takesPart_88 : decode cX6_takesPart 88 = .ok (.aload_n 0, 1) := by decide +kernel
theorem dX6_takesPart_89 : decode cX6_takesPart 89 = .ok (.getfield 217, 3) := by decide +kernel
theorem dX6_takesPart_92 : decode cX6_takesPart 92 = .ok (.imul, 1) := by decide +kernel
theorem dX6_takesPart_93 : decode cX6_takesPart 93 = .ok (.bipush 8, 2) := by decide +kernel
theorem dX6_takesPart_95 : decode cX6_takesPart 95 = .ok (.iadd, 1) := by decide +kernel
theorem dX6_takesPart_96 : decode cX6_takesPart 96 = .ok (.iload_n 1, 1) := by decide +kernel
theorem dX6_takesPart_97 : decode cX6_takesPart 97 = .ok (.bipush 8, 2) := by decide +kernel
theorem dX6_takesPart_99 : decode cX6_takesPart 99 = .ok (.isub, 1) := by decide +kernel
theorem dX6_takesPart_100 : decode cX6_takesPart 100 = .ok (.iastore, 1) := by decide +kernel
theorem dX6_takesPart_101 : decode cX6_takesPart 101 = .ok (.iconst 1, 1) := by decide +kernel
theorem dX6_takesPart_102 : decode cX6_takesPart 102 = .ok (.ireturn, 1) := by decide +kernel
theorem dX6_takesParts_0 : decode cX6_takesParts 0 = .ok (.iconst 0, 1) := by decide +kernel
theorem dX6_takesParts_1 : decode cX6_takesParts 1 = .ok (.istore_n 1, 1) := by decide +kernel
theorem dX6_takesParts_2 : decode cX6_takesParts 2 = .ok (.aload_n 0, 1) := by decide +kernel
theorem dX6_takesParts_3 : decode cX6_takesParts 3 = .ok (.invokevirtual 205, 3) := by decide +kernel
theorem dX6_takesParts_6 : decode cX6_takesParts 6 = .ok (.aload_n 0, 1) := by decide +kernel
theorem dX6_takesParts_7 : decode cX6_takesParts 7 = .ok (.bipush 59, 2) := by decide +kernel
theorem dX6_takesParts_9 : decode cX6_takesParts 9 = .ok (.bipush 59, 2) := by decide +kernel
theorem dX6_takesParts_11 : decode cX6_takesParts 11 = .ok (.invokevirtual 185, 3) := by decide +kernel
theorem dX6_takesParts_14 : decode cX6_takesParts 14 = .ok (.ifCond .ne 104, 3) := by decide +kernel
theorem dX6_takesParts_17 : decode cX6_takesParts 17 = .ok (.aload_n 0, 1) := by decide +kernel
theorem dX6_takesParts_18 : decode cX6_takesParts 18 = .ok (.bipush 97, 2) := by decide +kernel
theorem dX6_takesParts_20 : decode cX6_takesParts 20 = .ok (.bipush 122, 2) := by decide +kernel
theorem dX6_takesParts_22 : decode cX6_takesParts 22 = .ok (.invokevirtual 185, 3) := by decide +kernel
theorem dX6_takesParts_25 : decode cX6_takesParts 25 = .ok (.ifCond .ne 12, 3) := by decide +kernel
theorem dX6_takesParts_28 : decode cX6_takesParts 28 = .ok (.aload_n 0, 1) := by decide +kernel
theorem dX6_takesParts_29 : decode cX6_takesParts 29 = .ok (.aload_n 0, 1) := by decide +kernel
theorem dX6_takesParts_30 : decode cX6_takesParts 30 = .ok (.getfield 182, 3) := by decide +kernel
theorem dX6_takesParts_33 : decode cX6_takesParts 33 = .ok (.invokevirtual 208, 3) := by decide +kernel
theorem dX6_takesParts_36 : decode cX6_takesParts 36 = .ok (.ireturn, 1) := by decide +kernel
theorem dX6_takesParts_37 : decode cX6_takesParts 37 = .ok (.aload_n 0, 1) := by decide +kernel
theorem dX6_takesParts_38 : decode cX6_takesParts 38 = .ok (.getfield 182, 3) := by decide +kernel
theorem dX6_takesParts_41 : decode cX6_takesParts 41 = .ok (.istore_n 2, 1) := by decide +kernel
theorem dX6_takesParts_42 : decode cX6_takesParts 42 = .ok (.aload_n 0, 1) := by decide +kernel
theorem dX6_takesParts_43 : decode cX6_takesParts 43 = .ok (.invokevirtual 223, 3) := by decide +kernel
theorem dX6_takesParts_46 : decode cX6_takesParts 46 = .ok (.invokestatic 227, 3) := by decide +kernel
theorem dX6_takesParts_49 : decode cX6_takesParts 49 = .ok (.istore_n 3, 1) := by decide +kernel
theorem dX6_takesParts_50 : decode cX6_takesParts 50 = .ok (.iload_n 3, 1) := by decide +kernel
theorem dX6_takesParts_51 : decode cX6_takesParts 51 = .ok (.bipush 7, 2) := by decide +kernel
theorem dX6_takesParts_53 : decode cX6_takesParts 53 = .ok (.if_icmp .le 7, 3) := by decide +kernel
theorem dX6_takesParts_56 : decode cX6_takesParts 56 = .ok (.iconst 1, 1) := by decide +kernel
theorem dX6_takesParts_57 : decode cX6_takesParts 57 = .ok (.goto 4, 3) := by decide +kernel
theorem dX6_takesParts_60 : decode cX6_takesParts 60 = .ok (.iconst 0, 1) := by decide +kernel
theorem dX6_takesParts_61 : decode cX6_takesParts 61 = .ok (.istore 4, 2) := by decide +kernel
theorem dX6_takesParts_63 : decode cX6_takesParts 63 = .ok (.iload_n 3, 1) := by decide +kernel
theorem dX6_takesParts_64 : decode cX6_takesParts 64 = .ok (.iconst 3, 1) := by decide +kernel
theorem dX6_takesParts_65 : decode cX6_takesParts 65 = .ok (.if_icmp .lt 24, 3) := by decide +kernel
theorem dX6_takesParts_68 : decode cX6_takesParts 68 = .ok (.iload_n 1, 1) := by decide +kernel
theorem dX6_takesParts_69 : decode cX6_takesParts 69 = .ok (.iload_n 3, 1) := by decide +kernel
theorem dX6_takesParts_70 : decode cX6_takesParts 70 = .ok (.ishr, 1) := by decide +kernel
theorem dX6_takesParts_71 : decode cX6_takesParts 71 = .ok (.iconst 1, 1) := by decide +kernel
theorem dX6_takesParts_72 : decode cX6_takesParts 72 = .ok (.iand, 1) := by decide +kernel
theorem dX6_takesParts_73 : decode cX6_takesParts 73 = .ok (.iconst 1, 1) := by decide +kernel
theorem dX6_takesParts_74 : decode cX6_takesParts 74 = .ok (.if_icmp .eq 15, 3) := by decide +kernel
theorem dX6_takesParts_77 : decode cX6_takesParts 77 = .ok (.iload 4, 2) := by decide +kernel
theorem dX6_takesParts_79 : decode cX6_takesParts 79 = .ok (.ifCond .eq 16, 3) := by decide +kernel
theorem dX6_takesParts_82 : decode cX6_takesParts 82 = .ok (.iload_n 1, 1) := by decide +kernel
theorem dX6_takesParts_83 : decode cX6_takesParts 83 = .ok (.bipush 8, 2) := by decide +kernel
theorem dX6_takesParts_85 : decode cX6_takesParts 85 = .ok (.ishr, 1) := by decide +kernel
theorem dX6_takesParts_86 : decode cX6_takesParts 86 = .ok (.ifCond .eq 9, 3) := by decide +kernel
theorem dX6_takesParts_89 : decode cX6_takesParts 89 = .ok (.aload_n 0, 1) := by decide +kernel
theorem dX6_takesParts_90 : decode cX6_takesParts 90 = .ok (.iload_n 2, 1) := by decide +kernel
theorem dX6_takesParts_91 : decode cX6_takesParts 91 = .ok (.invokevirtual 208, 3) := by decide +kernel
theorem dX6_takesParts_94 : decode cX6_takesParts 94 = .ok (.ireturn, 1) := by decide +kernel
theorem dX6_takesParts_95 : decode cX6_takesParts 95 = .ok (.iload_n 1, 1) := by decide +kernel
theorem dX6_takesParts_96 : decode cX6_takesParts 96 = .ok (.iconst 1, 1) := by decide +kernel
theorem dX6_takesParts_97 : decode cX6_takesParts 97 = .ok (.iload_n 3, 1) := by decide +kernel
theorem dX6_takesParts_98 : decode cX6_takesParts 98 = .ok (.ishl, 1) := by decide +kernel
theorem dX6_takesParts_99 : decode cX6_takesParts 99 = .ok (.ior, 1) := by decide +kernel
theorem dX6_takesParts_100 : decode cX6_takesParts 100 = .ok (.istore_n 1, 1) := by decide +kernel
theorem dX6_takesParts_101 : decode cX6_takesParts 101 = .ok (.aload_n 0, 1) := by decide +kernel
theorem dX6_takesParts_102 : decode cX6_takesParts 102 = .ok (.iload_n 3, 1) := by decide +kernel
theorem dX6_takesParts_103 : decode cX6_takesParts 103 = .ok (.invokevirtual 231, 3) := by decide +kernel
theorem dX6_takesParts_106 : decode cX6_takesParts 106 = .ok (.ifCond .ne 5, 3) := by decide +kernel
theorem dX6_takesParts_109 : decode cX6_takesParts 109 = .ok (.iconst 0, 1) := by decide +kernel
theorem dX6_takesParts_110 : decode cX6_takesParts 110 = .ok (.ireturn, 1) := by decide +kernel
theorem dX6_takesParts_111 : decode cX6_takesParts 111 = .ok (.aload_n 0, 1) := by decide +kernel
theorem dX6_takesParts_112 : decode cX6_takesParts 112 = .ok (.invokevirtual 205, 3) := by decide +kernel
theorem dX6_takesParts_115 : decode cX6_takesParts 115 = .ok (.goto (-109), 3) := by decide +kernel
theorem dX6_takesParts_118 : decode cX6_takesParts 118 = .ok (.aload_n 0, 1) := by decide +kernel
theorem dX6_takesParts_119 : decode cX6_takesParts 119 = .ok (.dup, 1) := by decide +kernel
theorem dX6_takesParts_120 : decode cX6_takesParts 120 = .ok (.getfield 182, 3) := by decide +kernel
theorem dX6_takesParts_123 : decode cX6_takesParts 123 = .ok (.iconst 1, 1) := by decide +kernel
theorem dX6_takesParts_124 : decode cX6_takesParts 124 = .ok (.iadd, 1) := by decide +kernel
theorem dX6_takesParts_125 : decode cX6_takesParts 125 = .ok (.putfield 182, 3) := by decide +kernel
theorem dX6_takesParts_128 : decode cX6_takesParts 128 = .ok (.iconst 1, 1) := by decide +kernel
theorem dX6_takesParts_129 : decode cX6_takesParts 129 = .ok (.ireturn, 1) := by decide +kernel
theorem dX6_takesRule_0 : decode cX6_takesRule 0 = .ok (.aload_n 0, 1) := by decide +kernel
theorem dX6_takesRule_1 : decode cX6_takesRule 1 = .ok (.getfield 182, 3) := by decide +kernel
theorem dX6_takesRule_4 : decode cX6_takesRule 4 = .ok (.istore_n 1, 1) := by decide +kernel
theorem dX6_takesRule_5 : decode cX6_takesRule 5 = .ok (.aload_n 0, 1) := by decide +kernel
theorem dX6_takesRule_6 : decode cX6_takesRule 6 = .ok (.getfield 217, 3) := by decide +kernel
theorem dX6_takesRule_9 : decode cX6_takesRule 9 = .ok (.bipush 12, 2) := by decide +kernel
theorem dX6_takesRule_11 : decode cX6_takesRule 11 = .ok (.if_icmp .eq 14, 3) := by decide +kernel
theorem dX6_takesRule_14 : decode cX6_takesRule 14 = .ok (.aload_n 0, 1) := by decide +kernel
theorem dX6_takesRule_15 : decode cX6_takesRule 15 = .ok (.bipush 97, 2) := by decide +kernel
theorem dX6_takesRule_17 : decode cX6_takesRule 17 = .ok (.bipush 122, 2) := by decide +kernel
theorem dX6_takesRule_19 : decode cX6_takesRule 19 = .ok (.invokevirtual 185, 3) := by decide +kernel
theorem dX6_takesRule_22 : decode cX6_takesRule 22 = .ok (.ifCond .ne 9, 3) := by decide +kernel
theorem dX6_takesRule_25 : decode cX6_takesRule 25 = .ok (.aload_n 0, 1) := by decide +kernel
theorem dX6_takesRule_26 : decode cX6_takesRule 26 = .ok (.iload_n 1, 1) := by decide +kernel
theorem dX6_takesRule_27 : decode cX6_takesRule 27 = .ok (.invokevirtual 208, 3) := by decide +kernel
theorem dX6_takesRule_30 : decode cX6_takesRule 30 = .ok (.ireturn, 1) := by decide +kernel
theorem dX6_takesRule_31 : decode cX6_takesRule 31 = .ok (.aload_n 0, 1) := by decide +kernel
theorem dX6_takesRule_32 : decode cX6_takesRule 32 = .ok (.invokevirtual 223, 3) := by decide +kernel
theorem dX6_takesRule_35 : decode cX6_takesRule 35 = .ok (.invokestatic 227, 3) := by decide +kernel
theorem dX6_takesRule_38 : decode cX6_takesRule 38 = .ok (.istore_n 2, 1) := by decide +kernel
theorem dX6_takesRule_39 : decode cX6_takesRule 39 = .ok (.iload_n 2, 1) := by decide +kernel
theorem dX6_takesRule_40 : decode cX6_takesRule 40 = .ok (.iconst 0, 1) := by decide +kernel
theorem dX6_takesRule_41 : decode cX6_takesRule 41 = .ok (.iconst 2, 1) := by decide +kernel
theorem dX6_takesRule_42 : decode cX6_takesRule 42 = .ok (.invokestatic 39, 3) := by decide +kernel
theorem dX6_takesRule_45 : decode cX6_takesRule 45 = .ok (.ifCond .ne 9, 3) := by decide +kernel
theorem dX6_takesRule_48 : decode cX6_takesRule 48 = .ok (.aload_n 0, 1) := by decide +kernel
theorem dX6_takesRule_49 : decode cX6_takesRule 49 = .ok (.iload_n 1, 1) := by decide +kernel
theorem dX6_takesRule_50 : decode cX6_takesRule 50 = .ok (.invokevirtual 208, 3) := by decide +kernel
theorem dX6_takesRule_53 : decode cX6_takesRule 53 = .ok (.ireturn, 1) := by decide +kernel
theorem dX6_takesRule_54 : decode cX6_takesRule 54 = .ok (.aload_n 0, 1) := by decide +kernel
theorem dX6_takesRule_55 : decode cX6_takesRule 55 = .ok (.getfield 28, 3) := by decide +kernel
theorem dX6_takesRule_58 : decode cX6_takesRule 58 = .ok (.bipush 11, 2) := by decide +kernel
theorem dX6_takesRule_60 : decode cX6_takesRule 60 = .ok (.aload_n 0, 1) := by decide +kernel
theorem dX6_takesRule_61 : decode cX6_takesRule 61 = .ok (.getfield 217, 3) := by decide +kernel
theorem dX6_takesRule_64 : decode cX6_takesRule 64 = .ok (.imul, 1) := by decide +kernel
theorem dX6_takesRule_65 : decode cX6_takesRule 65 = .ok (.iload_n 2, 1) := by decide +kernel
theorem dX6_takesRule_66 : decode cX6_takesRule 66 = .ok (.invokestatic 60, 3) := by decide +kernel
theorem dX6_takesRule_69 : decode cX6_takesRule 69 = .ok (.aload_n 0, 1) := by decide +kernel
theorem dX6_takesRule_70 : decode cX6_takesRule 70 = .ok (.invokevirtual 234, 3) := by decide +kernel
theorem dX6_takesRule_73 : decode cX6_takesRule 73 = .ok (.ifCond .ne 5, 3) := by decide +kernel
theorem dX6_takesRule_76 : decode cX6_takesRule 76 = .ok (.iconst 0, 1) := by decide +kernel
theorem dX6_takesRule_77 : decode cX6_takesRule 77 = .ok (.ireturn, 1) := by decide +kernel
theorem dX6_takesRule_78 : decode cX6_takesRule 78 = .ok (.aload_n 0, 1) := by decide +kernel
theorem dX6_takesRule_79 : decode cX6_takesRule 79 = .ok (.dup, 1) := by decide +kernel
theorem dX6_takesRule_80 : decode cX6_takesRule 80 = .ok (.getfield 217, 3) := by decide +kernel
theorem dX6_takesRule_83 : decode cX6_takesRule 83 = .ok (.iconst 1, 1) := by decide +kernel
theorem dX6_takesRule_84 : decode cX6_takesRule 84 = .ok (.iadd, 1) := by decide +kernel
theorem dX6_takesRule_85 : decode cX6_takesRule 85 = .ok (.putfield 217, 3) := by decide +kernel
theorem dX6_takesRule_88 : decode cX6_takesRule 88 = .ok (.iconst 1, 1) := by decide +kernel
theorem dX6_takesRule_89 : decode cX6_takesRule 89 = .ok (.ireturn, 1) := by decide +kernel
theorem dX6_isRead_0 : decode cX6_isRead 0 = .ok (.aload_n 0, 1) := by decide +kernel
theorem dX6_isRead_1 : decode cX6_isRead 1 = .ok (.iconst 0, 1) := by decide +kernel
theorem dX6_isRead_2 : decode cX6_isRead 2 = .ok (.putfield 182, 3) := by decide +kernel
theorem dX6_isRead_5 : decode cX6_isRead 5 = .ok (.aload_n 0, 1) := by decide +kernel
theorem dX6_isRead_6 : decode cX6_isRead 6 = .ok (.iconst 0, 1) := by decide +kernel
theorem dX6_isRead_7 : decode cX6_isRead 7 = .ok (.putfield 217, 3) := by decide +kernel
theorem dX6_isRead_10 : decode cX6_isRead 10 = .ok (.aload_n 0, 1) := by decide +kernel
theorem dX6_isRead_11 : decode cX6_isRead 11 = .ok (.invokevirtual 205, 3) := by decide +kernel
theorem dX6_isRead_14 : decode cX6_isRead 14 = .ok (.iconst 1, 1) := by decide +kernel
theorem dX6_isRead_15 : decode cX6_isRead 15 = .ok (.istore_n 1, 1) := by decide +kernel
theorem dX6_isRead_16 : decode cX6_isRead 16 = .ok (.iload_n 1, 1) := by decide +kernel
theorem dX6_isRead_17 : decode cX6_isRead 17 = .ok (.ifCond .eq 26, 3) := by decide +kernel
theorem dX6_isRead_20 : decode cX6_isRead 20 = .ok (.aload_n 0, 1) := by decide +kernel
theorem dX6_isRead_21 : decode cX6_isRead 21 = .ok (.getfield 182, 3) := by decide +kernel
theorem dX6_isRead_24 : decode cX6_isRead 24 = .ok (.aload_n 0, 1) := by decide +kernel
theorem dX6_isRead_25 : decode cX6_isRead 25 = .ok (.getfield 179, 3) := by decide +kernel
theorem dX6_isRead_28 : decode cX6_isRead 28 = .ok (.if_icmp .ge 15, 3) := by decide +kernel
theorem dX6_isRead_31 : decode cX6_isRead 31 = .ok (.aload_n 0, 1) := by decide +kernel
theorem dX6_isRead_32 : decode cX6_isRead 32 = .ok (.invokevirtual 237, 3) := by decide +kernel
theorem dX6_isRead_35 : decode cX6_isRead 35 = .ok (.istore_n 1, 1) := by decide +kernel
theorem dX6_isRead_36 : decode cX6_isRead 36 = .ok (.aload_n 0, 1) := by decide +kernel
theorem dX6_isRead_37 : decode cX6_isRead 37 = .ok (.invokevirtual 205, 3) := by decide +kernel
theorem dX6_isRead_40 : decode cX6_isRead 40 = .ok (.goto (-24), 3) := by decide +kernel
theorem dX6_isRead_43 : decode cX6_isRead 43 = .ok (.iload_n 1, 1) := by decide +kernel
theorem dX6_isRead_44 : decode cX6_isRead 44 = .ok (.ireturn, 1) := by decide +kernel
theorem dX6_reads_0 : decode cX6_reads 0 = .ok (.aload_n 0, 1) := by decide +kernel
theorem dX6_reads_1 : decode cX6_reads 1 = .ok (.invokevirtual 240, 3) := by decide +kernel
theorem dX6_reads_4 : decode cX6_reads 4 = .ok (.ifCond .ne 11, 3) := by decide +kernel
theorem dX6_reads_7 : decode cX6_reads 7 = .ok (.bipush (-10), 2) := by decide +kernel
theorem dX6_reads_9 : decode cX6_reads 9 = .ok (.aload_n 0, 1) := by decide +kernel
theorem dX6_reads_10 : decode cX6_reads 10 = .ok (.getfield 188, 3) := by decide +kernel
theorem dX6_reads_13 : decode cX6_reads 13 = .ok (.isub, 1) := by decide +kernel
theorem dX6_reads_14 : decode cX6_reads 14 = .ok (.ireturn, 1) := by decide +kernel
theorem dX6_reads_15 : decode cX6_reads 15 = .ok (.aload_n 0, 1) := by decide +kernel
theorem dX6_reads_16 : decode cX6_reads 16 = .ok (.invokevirtual 50, 3) := by decide +kernel
theorem dX6_reads_19 : decode cX6_reads 19 = .ok (.aload_n 0, 1) := by decide +kernel
theorem dX6_reads_20 : decode cX6_reads 20 = .ok (.getfield 7, 3) := by decide +kernel
theorem dX6_reads_23 : decode cX6_reads 23 = .ok (.bipush 32, 2) := by decide +kernel
theorem dX6_reads_25 : decode cX6_reads 25 = .ok (.aload_n 0, 1) := by decide +kernel
theorem dX6_reads_26 : decode cX6_reads 26 = .ok (.getfield 217, 3) := by decide +kernel
theorem dX6_reads_29 : decode cX6_reads 29 = .ok (.iastore, 1) := by decide +kernel
theorem dX6_reads_30 : decode cX6_reads 30 = .ok (.iconst 0, 1) := by decide +kernel
theorem dX6_reads_31 : decode cX6_reads 31 = .ok (.istore_n 1, 1) := by decide +kernel
theorem dX6_reads_32 : decode cX6_reads 32 = .ok (.iload_n 1, 1) := by decide +kernel
theorem dX6_reads_33 : decode cX6_reads 33 = .ok (.bipush 11, 2) := by decide +kernel
theorem dX6_reads_35 : decode cX6_reads 35 = .ok (.aload_n 0, 1) := by decide +kernel
theorem dX6_reads_36 : decode cX6_reads 36 = .ok (.getfield 217, 3) := by decide +kernel
theorem dX6_reads_39 : decode cX6_reads 39 = .ok (.imul, 1) := by decide +kernel
theorem dX6_reads_40 : decode cX6_reads 40 = .ok (.if_icmp .ge 24, 3) := by decide +kernel
theorem dX6_reads_43 : decode cX6_reads 43 = .ok (.aload_n 0, 1) := by decide +kernel
theorem dX6_reads_44 : decode cX6_reads 44 = .ok (.getfield 7, 3) := by decide +kernel
theorem dX6_reads_47 : decode cX6_reads 47 = .ok (.bipush 33, 2) := by decide +kernel
theorem dX6_reads_49 : decode cX6_reads 49 = .ok (.iload_n 1, 1) := by decide +kernel
theorem dX6_reads_50 : decode cX6_reads 50 = .ok (.iadd, 1) := by decide +kernel
theorem dX6_reads_51 : decode cX6_reads 51 = .ok (.aload_n 0, 1) := by decide +kernel
theorem dX6_reads_52 : decode cX6_reads 52 = .ok (.getfield 28, 3) := by decide +kernel
theorem dX6_reads_55 : decode cX6_reads 55 = .ok (.iload_n 1, 1) := by decide +kernel
theorem dX6_reads_56 : decode cX6_reads 56 = .ok (.iaload, 1) := by decide +kernel
theorem dX6_reads_57 : decode cX6_reads 57 = .ok (.iastore, 1) := by decide +kernel
theorem dX6_reads_58 : decode cX6_reads 58 = .ok (.iinc 1 1, 3) := by decide +kernel
theorem dX6_reads_61 : decode cX6_reads 61 = .ok (.goto (-29), 3) := by decide +kernel
theorem dX6_reads_64 : decode cX6_reads 64 = .ok (.aload_n 0, 1) := by decide +kernel
theorem dX6_reads_65 : decode cX6_reads 65 = .ok (.getfield 217, 3) := by decide +kernel
theorem dX6_reads_68 : decode cX6_reads 68 = .ok (.ireturn, 1) := by decide +kernel
theorem dX6_toldOf_0 : decode cX6_toldOf 0 = .ok (.iload_n 1, 1) := by decide +kernel
theorem dX6_toldOf_1 : decode cX6_toldOf 1 = .ok (.iconst 3, 1) := by decide +kernel
theorem dX6_toldOf_2 : decode cX6_toldOf 2 = .ok (.if_icmp .ge 12, 3) := by decide +kernel
theorem dX6_toldOf_5 : decode cX6_toldOf 5 = .ok (.aload_n 0, 1) := by decide +kernel
theorem dX6_toldOf_6 : decode cX6_toldOf 6 = .ok (.getfield 16, 3) := by decide +kernel
theorem dX6_toldOf_9 : decode cX6_toldOf 9 = .ok (.iload_n 1, 1) := by decide +kernel
theorem dX6_toldOf_10 : decode cX6_toldOf 10 = .ok (.iaload, 1) := by decide +kernel
theorem dX6_toldOf_11 : decode cX6_toldOf 11 = .ok (.goto 19, 3) := by decide +kernel
theorem dX6_toldOf_14 : decode cX6_toldOf 14 = .ok (.iload_n 1, 1) := by decide +kernel
theorem dX6_toldOf_15 : decode cX6_toldOf 15 = .ok (.iconst 3, 1) := by decide +kernel
theorem dX6_toldOf_16 : decode cX6_toldOf 16 = .ok (.if_icmp .ne 10, 3) := by decide +kernel
theorem dX6_toldOf_19 : decode cX6_toldOf 19 = .ok (.aload_n 0, 1) := by decide +kernel
theorem dX6_toldOf_20 : decode cX6_toldOf 20 = .ok (.getfield 179, 3) := by decide +kernel
theorem dX6_toldOf_23 : decode cX6_toldOf 23 = .ok (.goto 7, 3) := by decide +kernel
theorem dX6_toldOf_26 : decode cX6_toldOf 26 = .ok (.aload_n 0, 1) := by decide +kernel
theorem dX6_toldOf_27 : decode cX6_toldOf 27 = .ok (.getfield 31, 3) := by decide +kernel
theorem dX6_toldOf_30 : decode cX6_toldOf 30 = .ok (.ireturn, 1) := by decide +kernel
theorem dX6_told_0 : decode cX6_told 0 = .ok (.iload_n 1, 1) := by decide +kernel
theorem dX6_told_1 : decode cX6_told 1 = .ok (.iconst 0, 1) := by decide +kernel
theorem dX6_told_2 : decode cX6_told 2 = .ok (.iconst 4, 1) := by decide +kernel
theorem dX6_told_3 : decode cX6_told 3 = .ok (.invokestatic 39, 3) := by decide +kernel
theorem dX6_told_6 : decode cX6_told 6 = .ok (.ifCond .eq 11, 3) := by decide +kernel
theorem dX6_told_9 : decode cX6_told 9 = .ok (.aload_n 0, 1) := by decide +kernel
theorem dX6_told_10 : decode cX6_told 10 = .ok (.iload_n 1, 1) := by decide +kernel
theorem dX6_told_11 : decode cX6_told 11 = .ok (.invokevirtual 243, 3) := by decide +kernel
theorem dX6_told_14 : decode cX6_told 14 = .ok (.goto 7, 3) := by decide +kernel
theorem dX6_told_17 : decode cX6_told 17 = .ok (.aload_n 0, 1) := by decide +kernel
theorem dX6_told_18 : decode cX6_told 18 = .ok (.invokevirtual 47, 3) := by decide +kernel
theorem dX6_told_21 : decode cX6_told 21 = .ok (.ireturn, 1) := by decide +kernel
theorem dX6_mix_0 : decode cX6_mix 0 = .ok (.aload_n 0, 1) := by decide +kernel
theorem dX6_mix_1 : decode cX6_mix 1 = .ok (.ldc2_w 246, 3) := by decide +kernel
theorem dX6_mix_4 : decode cX6_mix 4 = .ok (.aload_n 0, 1) := by decide +kernel
theorem dX6_mix_5 : decode cX6_mix 5 = .ok (.getfield 248, 3) := by decide +kernel
theorem dX6_mix_8 : decode cX6_mix 8 = .ok (.lmul, 1) := by decide +kernel
theorem dX6_mix_9 : decode cX6_mix 9 = .ok (.lload_n 1, 1) := by decide +kernel
theorem dX6_mix_10 : decode cX6_mix 10 = .ok (.ladd, 1) := by decide +kernel
theorem dX6_mix_11 : decode cX6_mix 11 = .ok (.putfield 248, 3) := by decide +kernel
theorem dX6_mix_14 : decode cX6_mix 14 = .ok (.return_, 1) := by decide +kernel
theorem dX6_digest_0 : decode cX6_digest 0 = .ok (.aload_n 0, 1) := by decide +kernel
theorem dX6_digest_1 : decode cX6_digest 1 = .ok (.ldc2_w 252, 3) := by decide +kernel
theorem dX6_digest_4 : decode cX6_digest 4 = .ok (.putfield 248, 3) := by decide +kernel
theorem dX6_digest_7 : decode cX6_digest 7 = .ok (.iconst 0, 1) := by decide +kernel
theorem dX6_digest_8 : decode cX6_digest 8 = .ok (.istore_n 1, 1) := by decide +kernel
theorem dX6_digest_9 : decode cX6_digest 9 = .ok (.iload_n 1, 1) := by decide +kernel
theorem dX6_digest_10 : decode cX6_digest 10 = .ok (.iconst 5, 1) := by decide +kernel
theorem dX6_digest_11 : decode cX6_digest 11 = .ok (.if_icmp .ge 19, 3) := by decide +kernel
theorem dX6_digest_14 : decode cX6_digest 14 = .ok (.aload_n 0, 1) := by decide +kernel
theorem dX6_digest_15 : decode cX6_digest 15 = .ok (.aload_n 0, 1) := by decide +kernel
theorem dX6_digest_16 : decode cX6_digest 16 = .ok (.iload_n 1, 1) := by decide +kernel
theorem dX6_digest_17 : decode cX6_digest 17 = .ok (.invokevirtual 243, 3) := by decide +kernel
theorem dX6_digest_20 : decode cX6_digest 20 = .ok (.i2l, 1) := by decide +kernel
theorem dX6_digest_21 : decode cX6_digest 21 = .ok (.invokevirtual 254, 3) := by decide +kernel
theorem dX6_digest_24 : decode cX6_digest 24 = .ok (.iinc 1 1, 3) := by decide +kernel
theorem dX6_digest_27 : decode cX6_digest 27 = .ok (.goto (-18), 3) := by decide +kernel
theorem dX6_digest_30 : decode cX6_digest 30 = .ok (.iconst 0, 1) := by decide +kernel
theorem dX6_digest_31 : decode cX6_digest 31 = .ok (.istore_n 1, 1) := by decide +kernel
theorem dX6_digest_32 : decode cX6_digest 32 = .ok (.iload_n 1, 1) := by decide +kernel
theorem dX6_digest_33 : decode cX6_digest 33 = .ok (.bipush 10, 2) := by decide +kernel
theorem dX6_digest_35 : decode cX6_digest 35 = .ok (.if_icmp .ge 19, 3) := by decide +kernel
theorem dX6_digest_38 : decode cX6_digest 38 = .ok (.aload_n 0, 1) := by decide +kernel
theorem dX6_digest_39 : decode cX6_digest 39 = .ok (.aload_n 0, 1) := by decide +kernel
theorem dX6_digest_40 : decode cX6_digest 40 = .ok (.iload_n 1, 1) := by decide +kernel
theorem dX6_digest_41 : decode cX6_digest 41 = .ok (.invokevirtual 176, 3) := by decide +kernel
theorem dX6_digest_44 : decode cX6_digest 44 = .ok (.i2l, 1) := by decide +kernel
theorem dX6_digest_45 : decode cX6_digest 45 = .ok (.invokevirtual 254, 3) := by decide +kernel
theorem dX6_digest_48 : decode cX6_digest 48 = .ok (.iinc 1 1, 3) := by decide +kernel
theorem dX6_digest_51 : decode cX6_digest 51 = .ok (.goto (-19), 3) := by decide +kernel
theorem dX6_digest_54 : decode cX6_digest 54 = .ok (.iconst 0, 1) := by decide +kernel
theorem dX6_digest_55 : decode cX6_digest 55 = .ok (.istore_n 1, 1) := by decide +kernel
theorem dX6_digest_56 : decode cX6_digest 56 = .ok (.iload_n 1, 1) := by decide +kernel
theorem dX6_digest_57 : decode cX6_digest 57 = .ok (.bipush 32, 2) := by decide +kernel
theorem dX6_digest_59 : decode cX6_digest 59 = .ok (.if_icmp .ge 22, 3) := by decide +kernel
theorem dX6_digest_62 : decode cX6_digest 62 = .ok (.aload_n 0, 1) := by decide +kernel
theorem dX6_digest_63 : decode cX6_digest 63 = .ok (.aload_n 0, 1) := by decide +kernel
theorem dX6_digest_64 : decode cX6_digest 64 = .ok (.getfield 7, 3) := by decide +kernel
theorem dX6_digest_67 : decode cX6_digest 67 = .ok (.iconst 0, 1) := by decide +kernel
theorem dX6_digest_68 : decode cX6_digest 68 = .ok (.iload_n 1, 1) := by decide +kernel
theorem dX6_digest_69 : decode cX6_digest 69 = .ok (.iadd, 1) := by decide +kernel
theorem dX6_digest_70 : decode cX6_digest 70 = .ok (.iaload, 1) := by decide +kernel
theorem dX6_digest_71 : decode cX6_digest 71 = .ok (.i2l, 1) := by decide +kernel
theorem dX6_digest_72 : decode cX6_digest 72 = .ok (.invokevirtual 254, 3) := by decide +kernel
theorem dX6_digest_75 : decode cX6_digest 75 = .ok (.iinc 1 1, 3) := by decide +kernel
theorem dX6_digest_78 : decode cX6_digest 78 = .ok (.goto (-22), 3) := by decide +kernel
theorem dX6_digest_81 : decode cX6_digest 81 = .ok (.iconst 0, 1) := by decide +kernel
theorem dX6_digest_82 : decode cX6_digest 82 = .ok (.istore_n 1, 1) := by decide +kernel
theorem dX6_digest_83 : decode cX6_digest 83 = .ok (.iload_n 1, 1) := by decide +kernel
theorem dX6_digest_84 : decode cX6_digest 84 = .ok (.bipush 11, 2) := by decide +kernel
theorem dX6_digest_86 : decode cX6_digest 86 = .ok (.aload_n 0, 1) := by decide +kernel
theorem dX6_digest_87 : decode cX6_digest 87 = .ok (.getfield 7, 3) := by decide +kernel
theorem dX6_digest_90 : decode cX6_digest 90 = .ok (.bipush 32, 2) := by decide +kernel
theorem dX6_digest_92 : decode cX6_digest 92 = .ok (.iaload, 1) := by decide +kernel
theorem dX6_digest_93 : decode cX6_digest 93 = .ok (.imul, 1) := by decide +kernel
theorem dX6_digest_94 : decode cX6_digest 94 = .ok (.if_icmp .ge 23, 3) := by decide +kernel
theorem dX6_digest_97 : decode cX6_digest 97 = .ok (.aload_n 0, 1) := by decide +kernel
theorem dX6_digest_98 : decode cX6_digest 98 = .ok (.aload_n 0, 1) := by decide +kernel
theorem dX6_digest_99 : decode cX6_digest 99 = .ok (.getfield 7, 3) := by decide +kernel
theorem dX6_digest_102 : decode cX6_digest 102 = .ok (.bipush 33, 2) := by decide +kernel
theorem dX6_digest_104 : decode cX6_digest 104 = .ok (.iload_n 1, 1) := by decide +kernel
theorem dX6_digest_105 : decode cX6_digest 105 = .ok (.iadd, 1) := by decide +kernel
theorem dX6_digest_106 : decode cX6_digest 106 = .ok (.iaload, 1) := by decide +kernel
theorem dX6_digest_107 : decode cX6_digest 107 = .ok (.i2l, 1) := by decide +kernel
theorem dX6_digest_108 : decode cX6_digest 108 = .ok (.invokevirtual 254, 3) := by decide +kernel
theorem dX6_digest_111 : decode cX6_digest 111 = .ok (.iinc 1 1, 3) := by decide +kernel
theorem dX6_digest_114 : decode cX6_digest 114 = .ok (.goto (-31), 3) := by decide +kernel
theorem dX6_digest_117 : decode cX6_digest 117 = .ok (.iconst 0, 1) := by decide +kernel
theorem dX6_digest_118 : decode cX6_digest 118 = .ok (.istore_n 1, 1) := by decide +kernel
theorem dX6_digest_119 : decode cX6_digest 119 = .ok (.iload_n 1, 1) := by decide +kernel
theorem dX6_digest_120 : decode cX6_digest 120 = .ok (.bipush 7, 2) := by decide +kernel
theorem dX6_digest_122 : decode cX6_digest 122 = .ok (.aload_n 0, 1) := by decide +kernel
theorem dX6_digest_123 : decode cX6_digest 123 = .ok (.getfield 7, 3) := by decide +kernel
theorem dX6_digest_126 : decode cX6_digest 126 = .ok (.sipush 298, 3) := by decide +kernel
theorem dX6_digest_129 : decode cX6_digest 129 = .ok (.iaload, 1) := by decide +kernel
theorem dX6_digest_130 : decode cX6_digest 130 = .ok (.imul, 1) := by decide +kernel
theorem dX6_digest_131 : decode cX6_digest 131 = .ok (.if_icmp .ge 24, 3) := by decide +kernel
theorem dX6_digest_134 : decode cX6_digest 134 = .ok (.aload_n 0, 1) := by decide +kernel
theorem dX6_digest_135 : decode cX6_digest 135 = .ok (.aload_n 0, 1) := by decide +kernel
theorem dX6_digest_136 : decode cX6_digest 136 = .ok (.getfield 7, 3) := by decide +kernel
theorem dX6_digest_139 : decode cX6_digest 139 = .ok (.sipush 299, 3) := by decide +kernel
theorem dX6_digest_142 : decode cX6_digest 142 = .ok (.iload_n 1, 1) := by decide +kernel
theorem dX6_digest_143 : decode cX6_digest 143 = .ok (.iadd, 1) := by decide +kernel
theorem dX6_digest_144 : decode cX6_digest 144 = .ok (.iaload, 1) := by decide +kernel
theorem dX6_digest_145 : decode cX6_digest 145 = .ok (.i2l, 1) := by decide +kernel
theorem dX6_digest_146 : decode cX6_digest 146 = .ok (.invokevirtual 254, 3) := by decide +kernel
theorem dX6_digest_149 : decode cX6_digest 149 = .ok (.iinc 1 1, 3) := by decide +kernel
theorem dX6_digest_152 : decode cX6_digest 152 = .ok (.goto (-33), 3) := by decide +kernel
theorem dX6_digest_155 : decode cX6_digest 155 = .ok (.iconst 1, 1) := by decide +kernel
theorem dX6_digest_156 : decode cX6_digest 156 = .ok (.istore_n 1, 1) := by decide +kernel
theorem dX6_digest_157 : decode cX6_digest 157 = .ok (.iload_n 1, 1) := by decide +kernel
theorem dX6_digest_158 : decode cX6_digest 158 = .ok (.bipush 8, 2) := by decide +kernel
theorem dX6_digest_160 : decode cX6_digest 160 = .ok (.if_icmp .ge 24, 3) := by decide +kernel
theorem dX6_digest_163 : decode cX6_digest 163 = .ok (.aload_n 0, 1) := by decide +kernel
theorem dX6_digest_164 : decode cX6_digest 164 = .ok (.aload_n 0, 1) := by decide +kernel
theorem dX6_digest_165 : decode cX6_digest 165 = .ok (.getfield 7, 3) := by decide +kernel
theorem dX6_digest_168 : decode cX6_digest 168 = .ok (.sipush 386, 3) := by decide +kernel
theorem dX6_digest_171 : decode cX6_digest 171 = .ok (.iload_n 1, 1) := by decide +kernel
theorem dX6_digest_172 : decode cX6_digest 172 = .ok (.iadd, 1) := by decide +kernel
theorem dX6_digest_173 : decode cX6_digest 173 = .ok (.iaload, 1) := by decide +kernel
theorem dX6_digest_174 : decode cX6_digest 174 = .ok (.i2l, 1) := by decide +kernel
theorem dX6_digest_175 : decode cX6_digest 175 = .ok (.invokevirtual 254, 3) := by decide +kernel
theorem dX6_digest_178 : decode cX6_digest 178 = .ok (.iinc 1 1, 3) := by decide +kernel
theorem dX6_digest_181 : decode cX6_digest 181 = .ok (.goto (-24), 3) := by decide +kernel
theorem dX6_digest_184 : decode cX6_digest 184 = .ok (.aload_n 0, 1) := by decide +kernel
theorem dX6_digest_185 : decode cX6_digest 185 = .ok (.getfield 248, 3) := by decide +kernel
theorem dX6_digest_188 : decode cX6_digest 188 = .ok (.lreturn, 1) := by decide +kernel
theorem dJ6_bitCount_0f7a4_0 : decode cJ6_bitCount_0f7a4 0 = .ok (.iload_n 0, 1) := by decide +kernel
theorem dJ6_bitCount_0f7a4_1 : decode cJ6_bitCount_0f7a4 1 = .ok (.iload_n 0, 1) := by decide +kernel
theorem dJ6_bitCount_0f7a4_2 : decode cJ6_bitCount_0f7a4 2 = .ok (.iconst 1, 1) := by decide +kernel
theorem dJ6_bitCount_0f7a4_3 : decode cJ6_bitCount_0f7a4 3 = .ok (.iushr, 1) := by decide +kernel
theorem dJ6_bitCount_0f7a4_4 : decode cJ6_bitCount_0f7a4 4 = .ok (.ldc_w 265, 3) := by decide +kernel
theorem dJ6_bitCount_0f7a4_7 : decode cJ6_bitCount_0f7a4 7 = .ok (.iand, 1) := by decide +kernel
theorem dJ6_bitCount_0f7a4_8 : decode cJ6_bitCount_0f7a4 8 = .ok (.isub, 1) := by decide +kernel
theorem dJ6_bitCount_0f7a4_9 : decode cJ6_bitCount_0f7a4 9 = .ok (.istore_n 0, 1) := by decide +kernel
theorem dJ6_bitCount_0f7a4_10 : decode cJ6_bitCount_0f7a4 10 = .ok (.iload_n 0, 1) := by decide +kernel
theorem dJ6_bitCount_0f7a4_11 : decode cJ6_bitCount_0f7a4 11 = .ok (.ldc_w 266, 3) := by decide +kernel
theorem dJ6_bitCount_0f7a4_14 : decode cJ6_bitCount_0f7a4 14 = .ok (.iand, 1) := by decide +kernel
theorem dJ6_bitCount_0f7a4_15 : decode cJ6_bitCount_0f7a4 15 = .ok (.iload_n 0, 1) := by decide +kernel
theorem dJ6_bitCount_0f7a4_16 : decode cJ6_bitCount_0f7a4 16 = .ok (.iconst 2, 1) := by decide +kernel
theorem dJ6_bitCount_0f7a4_17 : decode cJ6_bitCount_0f7a4 17 = .ok (.iushr, 1) := by decide +kernel
theorem dJ6_bitCount_0f7a4_18 : decode cJ6_bitCount_0f7a4 18 = .ok (.ldc_w 266, 3) := by decide +kernel
theorem dJ6_bitCount_0f7a4_21 : decode cJ6_bitCount_0f7a4 21 = .ok (.iand, 1) := by decide +kernel
theorem dJ6_bitCount_0f7a4_22 : decode cJ6_bitCount_0f7a4 22 = .ok (.iadd, 1) := by decide +kernel
theorem dJ6_bitCount_0f7a4_23 : decode cJ6_bitCount_0f7a4 23 = .ok (.istore_n 0, 1) := by decide +kernel
theorem dJ6_bitCount_0f7a4_24 : decode cJ6_bitCount_0f7a4 24 = .ok (.iload_n 0, 1) := by decide +kernel
theorem dJ6_bitCount_0f7a4_25 : decode cJ6_bitCount_0f7a4 25 = .ok (.iload_n 0, 1) := by decide +kernel
theorem dJ6_bitCount_0f7a4_26 : decode cJ6_bitCount_0f7a4 26 = .ok (.iconst 4, 1) := by decide +kernel
theorem dJ6_bitCount_0f7a4_27 : decode cJ6_bitCount_0f7a4 27 = .ok (.iushr, 1) := by decide +kernel
theorem dJ6_bitCount_0f7a4_28 : decode cJ6_bitCount_0f7a4 28 = .ok (.iadd, 1) := by decide +kernel
theorem dJ6_bitCount_0f7a4_29 : decode cJ6_bitCount_0f7a4 29 = .ok (.ldc_w 267, 3) := by decide +kernel
theorem dJ6_bitCount_0f7a4_32 : decode cJ6_bitCount_0f7a4 32 = .ok (.iand, 1) := by decide +kernel
theorem dJ6_bitCount_0f7a4_33 : decode cJ6_bitCount_0f7a4 33 = .ok (.istore_n 0, 1) := by decide +kernel
theorem dJ6_bitCount_0f7a4_34 : decode cJ6_bitCount_0f7a4 34 = .ok (.iload_n 0, 1) := by decide +kernel
theorem dJ6_bitCount_0f7a4_35 : decode cJ6_bitCount_0f7a4 35 = .ok (.iload_n 0, 1) := by decide +kernel
theorem dJ6_bitCount_0f7a4_36 : decode cJ6_bitCount_0f7a4 36 = .ok (.bipush 8, 2) := by decide +kernel
theorem dJ6_bitCount_0f7a4_38 : decode cJ6_bitCount_0f7a4 38 = .ok (.iushr, 1) := by decide +kernel
theorem dJ6_bitCount_0f7a4_39 : decode cJ6_bitCount_0f7a4 39 = .ok (.iadd, 1) := by decide +kernel
theorem dJ6_bitCount_0f7a4_40 : decode cJ6_bitCount_0f7a4 40 = .ok (.istore_n 0, 1) := by decide +kernel
theorem dJ6_bitCount_0f7a4_41 : decode cJ6_bitCount_0f7a4 41 = .ok (.iload_n 0, 1) := by decide +kernel
theorem dJ6_bitCount_0f7a4_42 : decode cJ6_bitCount_0f7a4 42 = .ok (.iload_n 0, 1) := by decide +kernel
theorem dJ6_bitCount_0f7a4_43 : decode cJ6_bitCount_0f7a4 43 = .ok (.bipush 16, 2) := by decide +kernel
theorem dJ6_bitCount_0f7a4_45 : decode cJ6_bitCount_0f7a4 45 = .ok (.iushr, 1) := by decide +kernel
theorem dJ6_bitCount_0f7a4_46 : decode cJ6_bitCount_0f7a4 46 = .ok (.iadd, 1) := by decide +kernel
theorem dJ6_bitCount_0f7a4_47 : decode cJ6_bitCount_0f7a4 47 = .ok (.istore_n 0, 1) := by decide +kernel
theorem dJ6_bitCount_0f7a4_48 : decode cJ6_bitCount_0f7a4 48 = .ok (.iload_n 0, 1) := by decide +kernel
theorem dJ6_bitCount_0f7a4_49 : decode cJ6_bitCount_0f7a4 49 = .ok (.bipush 63, 2) := by decide +kernel
theorem dJ6_bitCount_0f7a4_51 : decode cJ6_bitCount_0f7a4 51 = .ok (.iand, 1) := by decide +kernel
theorem dJ6_bitCount_0f7a4_52 : decode cJ6_bitCount_0f7a4 52 = .ok (.ireturn, 1) := by decide +kernel
theorem dJ9_max_7cf53_0 : decode cJ9_max_7cf53 0 = .ok (.iload_n 0, 1) := by decide +kernel
theorem dJ9_max_7cf53_1 : decode cJ9_max_7cf53 1 = .ok (.iload_n 1, 1) := by decide +kernel
theorem dJ9_max_7cf53_2 : decode cJ9_max_7cf53 2 = .ok (.if_icmp .lt 7, 3) := by decide +kernel
theorem dJ9_max_7cf53_5 : decode cJ9_max_7cf53 5 = .ok (.iload_n 0, 1) := by decide +kernel
theorem dJ9_max_7cf53_6 : decode cJ9_max_7cf53 6 = .ok (.goto 4, 3) := by decide +kernel
theorem dJ9_max_7cf53_9 : decode cJ9_max_7cf53 9 = .ok (.iload_n 1, 1) := by decide +kernel
theorem dJ9_max_7cf53_10 : decode cJ9_max_7cf53 10 = .ok (.ireturn, 1) := by decide +kernel
theorem dJ9_min_7cf53_0 : decode cJ9_min_7cf53 0 = .ok (.iload_n 0, 1) := by decide +kernel
theorem dJ9_min_7cf53_1 : decode cJ9_min_7cf53 1 = .ok (.iload_n 1, 1) := by decide +kernel
theorem dJ9_min_7cf53_2 : decode cJ9_min_7cf53 2 = .ok (.if_icmp .gt 7, 3) := by decide +kernel
theorem dJ9_min_7cf53_5 : decode cJ9_min_7cf53 5 = .ok (.iload_n 0, 1) := by decide +kernel
theorem dJ9_min_7cf53_6 : decode cJ9_min_7cf53 6 = .ok (.goto 4, 3) := by decide +kernel
theorem dJ9_min_7cf53_9 : decode cJ9_min_7cf53 9 = .ok (.iload_n 1, 1) := by decide +kernel
theorem dJ9_min_7cf53_10 : decode cJ9_min_7cf53 10 = .ok (.ireturn, 1) := by decide +kernel
theorem dJ0_length_8abf5_0 : decode cJ0_length_8abf5 0 = .ok (.aload_n 0, 1) := by decide +kernel
theorem dJ0_length_8abf5_1 : decode cJ0_length_8abf5 1 = .ok (.getfield 9, 3) := by decide +kernel
theorem dJ0_length_8abf5_4 : decode cJ0_length_8abf5 4 = .ok (.arraylength, 1) := by decide +kernel
theorem dJ0_length_8abf5_5 : decode cJ0_length_8abf5 5 = .ok (.aload_n 0, 1) := by decide +kernel
theorem dJ0_length_8abf5_6 : decode cJ0_length_8abf5 6 = .ok (.invokevirtual 335, 3) := by decide +kernel
theorem dJ0_length_8abf5_9 : decode cJ0_length_8abf5 9 = .ok (.ishr, 1) := by decide +kernel
theorem dJ0_length_8abf5_10 : decode cJ0_length_8abf5 10 = .ok (.ireturn, 1) := by decide +kernel
theorem dJ0_charAt_5068e_0 : decode cJ0_charAt_5068e 0 = .ok (.aload_n 0, 1) := by decide +kernel
theorem dJ0_charAt_5068e_1 : decode cJ0_charAt_5068e 1 = .ok (.invokevirtual 492, 3) := by decide +kernel
theorem dJ0_charAt_5068e_4 : decode cJ0_charAt_5068e 4 = .ok (.ifCond .eq 12, 3) := by decide +kernel
theorem dJ0_charAt_5068e_7 : decode cJ0_charAt_5068e 7 = .ok (.aload_n 0, 1) := by decide +kernel
theorem dJ0_charAt_5068e_8 : decode cJ0_charAt_5068e 8 = .ok (.getfield 9, 3) := by decide +kernel
theorem dJ0_charAt_5068e_11 : decode cJ0_charAt_5068e 11 = .ok (.iload_n 1, 1) := by decide +kernel
theorem dJ0_charAt_5068e_12 : decode cJ0_charAt_5068e 12 = .ok (.invokestatic 495, 3) := by decide +kernel
theorem dJ0_charAt_5068e_15 : decode cJ0_charAt_5068e 15 = .ok (.ireturn, 1) := by decide +kernel
theorem dJ0_charAt_5068e_16 : decode cJ0_charAt_5068e 16 = .ok (.aload_n 0, 1) := by decide +kernel
theorem dJ0_charAt_5068e_17 : decode cJ0_charAt_5068e 17 = .ok (.getfield 9, 3) := by decide +kernel
theorem dJ0_charAt_5068e_20 : decode cJ0_charAt_5068e 20 = .ok (.iload_n 1, 1) := by decide +kernel
theorem dJ0_charAt_5068e_21 : decode cJ0_charAt_5068e 21 = .ok (.invokestatic 498, 3) := by decide +kernel
theorem dJ0_charAt_5068e_24 : decode cJ0_charAt_5068e 24 = .ok (.ireturn, 1) := by decide +kernel
theorem dJ0_coder_7d493_0 : decode cJ0_coder_7d493 0 = .ok (.getstatic 38, 3) := by decide +kernel
theorem dJ0_coder_7d493_3 : decode cJ0_coder_7d493 3 = .ok (.ifCond .eq 10, 3) := by decide +kernel
theorem dJ0_coder_7d493_6 : decode cJ0_coder_7d493 6 = .ok (.aload_n 0, 1) := by decide +kernel
theorem dJ0_coder_7d493_7 : decode cJ0_coder_7d493 7 = .ok (.getfield 15, 3) := by decide +kernel
theorem dJ0_coder_7d493_10 : decode cJ0_coder_7d493 10 = .ok (.goto 4, 3) := by decide +kernel
theorem dJ0_coder_7d493_13 : decode cJ0_coder_7d493 13 = .ok (.iconst 1, 1) := by decide +kernel
theorem dJ0_coder_7d493_14 : decode cJ0_coder_7d493 14 = .ok (.ireturn, 1) := by decide +kernel
theorem dJ0_isLatin1_aae02_0 : decode cJ0_isLatin1_aae02 0 = .ok (.getstatic 38, 3) := by decide +kernel
theorem dJ0_isLatin1_aae02_3 : decode cJ0_isLatin1_aae02 3 = .ok (.ifCond .eq 14, 3) := by decide +kernel
theorem dJ0_isLatin1_aae02_6 : decode cJ0_isLatin1_aae02 6 = .ok (.aload_n 0, 1) := by decide +kernel
theorem dJ0_isLatin1_aae02_7 : decode cJ0_isLatin1_aae02 7 = .ok (.getfield 15, 3) := by decide +kernel
theorem dJ0_isLatin1_aae02_10 : decode cJ0_isLatin1_aae02 10 = .ok (.ifCond .ne 7, 3) := by decide +kernel
theorem dJ0_isLatin1_aae02_13 : decode cJ0_isLatin1_aae02 13 = .ok (.iconst 1, 1) := by decide +kernel
theorem dJ0_isLatin1_aae02_14 : decode cJ0_isLatin1_aae02 14 = .ok (.goto 4, 3) := by decide +kernel
theorem dJ0_isLatin1_aae02_17 : decode cJ0_isLatin1_aae02 17 = .ok (.iconst 0, 1) := by decide +kernel
theorem dJ0_isLatin1_aae02_18 : decode cJ0_isLatin1_aae02 18 = .ok (.ireturn, 1) := by decide +kernel
theorem dJ0_checkIndex_df160_0 : decode cJ0_checkIndex_df160 0 = .ok (.iload_n 0, 1) := by decide +kernel
theorem dJ0_checkIndex_df160_1 : decode cJ0_checkIndex_df160 1 = .ok (.iload_n 1, 1) := by decide +kernel
theorem dJ0_checkIndex_df160_2 : decode cJ0_checkIndex_df160 2 = .ok (.getstatic 1053, 3) := by decide +kernel
theorem dJ0_checkIndex_df160_5 : decode cJ0_checkIndex_df160 5 = .ok (.invokestatic 1059, 3) := by decide +kernel
theorem dJ0_checkIndex_df160_8 : decode cJ0_checkIndex_df160 8 = .ok (.pop, 1) := by decide +kernel
theorem dJ0_checkIndex_df160_9 : decode cJ0_checkIndex_df160 9 = .ok (.return_, 1) := by decide +kernel
theorem dJ1_charAt_3b067_0 : decode cJ1_charAt_3b067 0 = .ok (.iload_n 1, 1) := by decide +kernel
theorem dJ1_charAt_3b067_1 : decode cJ1_charAt_3b067 1 = .ok (.aload_n 0, 1) := by decide +kernel
theorem dJ1_charAt_3b067_2 : decode cJ1_charAt_3b067 2 = .ok (.arraylength, 1) := by decide +kernel
theorem dJ1_charAt_3b067_3 : decode cJ1_charAt_3b067 3 = .ok (.invokestatic 9, 3) := by decide +kernel
theorem dJ1_charAt_3b067_6 : decode cJ1_charAt_3b067 6 = .ok (.aload_n 0, 1) := by decide +kernel
theorem dJ1_charAt_3b067_7 : decode cJ1_charAt_3b067 7 = .ok (.iload_n 1, 1) := by decide +kernel
theorem dJ1_charAt_3b067_8 : decode cJ1_charAt_3b067 8 = .ok (.baload, 1) := by decide +kernel
theorem dJ1_charAt_3b067_9 : decode cJ1_charAt_3b067 9 = .ok (.sipush 255, 3) := by decide +kernel
theorem dJ1_charAt_3b067_12 : decode cJ1_charAt_3b067 12 = .ok (.iand, 1) := by decide +kernel
theorem dJ1_charAt_3b067_13 : decode cJ1_charAt_3b067 13 = .ok (.i2c, 1) := by decide +kernel
theorem dJ1_charAt_3b067_14 : decode cJ1_charAt_3b067 14 = .ok (.ireturn, 1) := by decide +kernel
theorem dJ2_getChar_3b067_0 : decode cJ2_getChar_3b067 0 = .ok (.getstatic 44, 3) := by decide +kernel
theorem dJ2_getChar_3b067_3 : decode cJ2_getChar_3b067 3 = .ok (.ifCond .ne 25, 3) := by decide +kernel
theorem dJ2_getChar_3b067_6 : decode cJ2_getChar_3b067 6 = .ok (.iload_n 1, 1) := by decide +kernel
theorem dJ2_getChar_3b067_7 : decode cJ2_getChar_3b067 7 = .ok (.ifCond .lt 11, 3) := by decide +kernel
theorem dJ2_getChar_3b067_10 : decode cJ2_getChar_3b067 10 = .ok (.iload_n 1, 1) := by decide +kernel
theorem dJ2_getChar_3b067_11 : decode cJ2_getChar_3b067 11 = .ok (.aload_n 0, 1) := by decide +kernel
theorem dJ2_getChar_3b067_12 : decode cJ2_getChar_3b067 12 = .ok (.invokestatic 48, 3) := by decide +kernel
theorem dJ2_getChar_3b067_15 : decode cJ2_getChar_3b067 15 = .ok (.if_icmp .lt 13, 3) := by decide +kernel
theorem dJ2_getChar_3b067_18 : decode cJ2_getChar_3b067 18 = .ok (.new 52, 3) := by decide +kernel
theorem dJ2_getChar_3b067_21 : decode cJ2_getChar_3b067 21 = .ok (.dup, 1) := by decide +kernel
theorem dJ2_getChar_3b067_22 : decode cJ2_getChar_3b067 22 = .ok (.ldc 54, 2) := by decide +kernel
theorem dJ2_getChar_3b067_24 : decode cJ2_getChar_3b067 24 = .ok (.invokespecial 56, 3) := by decide +kernel
theorem dJ2_getChar_3b067_27 : decode cJ2_getChar_3b067 27 = .ok (.athrow, 1) := by decide +kernel
theorem dJ2_getChar_3b067_28 : decode cJ2_getChar_3b067 28 = .ok (.iload_n 1, 1) := by decide +kernel
theorem dJ2_getChar_3b067_29 : decode cJ2_getChar_3b067 29 = .ok (.iconst 1, 1) := by decide +kernel
theorem dJ2_getChar_3b067_30 : decode cJ2_getChar_3b067 30 = .ok (.ishl, 1) := by decide +kernel
theorem dJ2_getChar_3b067_31 : decode cJ2_getChar_3b067 31 = .ok (.istore_n 1, 1) := by decide +kernel
theorem dJ2_getChar_3b067_32 : decode cJ2_getChar_3b067 32 = .ok (.aload_n 0, 1) := by decide +kernel
theorem dJ2_getChar_3b067_33 : decode cJ2_getChar_3b067 33 = .ok (.iload_n 1, 1) := by decide +kernel
theorem dJ2_getChar_3b067_34 : decode cJ2_getChar_3b067 34 = .ok (.iinc 1 1, 3) := by decide +kernel
theorem dJ2_getChar_3b067_37 : decode cJ2_getChar_3b067 37 = .ok (.baload, 1) := by decide +kernel
theorem dJ2_getChar_3b067_38 : decode cJ2_getChar_3b067 38 = .ok (.sipush 255, 3) := by decide +kernel
theorem dJ2_getChar_3b067_41 : decode cJ2_getChar_3b067 41 = .ok (.iand, 1) := by decide +kernel
theorem dJ2_getChar_3b067_42 : decode cJ2_getChar_3b067 42 = .ok (.getstatic 59, 3) := by decide +kernel
theorem dJ2_getChar_3b067_45 : decode cJ2_getChar_3b067 45 = .ok (.ishl, 1) := by decide +kernel
theorem dJ2_getChar_3b067_46 : decode cJ2_getChar_3b067 46 = .ok (.aload_n 0, 1) := by decide +kernel
theorem dJ2_getChar_3b067_47 : decode cJ2_getChar_3b067 47 = .ok (.iload_n 1, 1) := by decide +kernel
theorem dJ2_getChar_3b067_48 : decode cJ2_getChar_3b067 48 = .ok (.baload, 1) := by decide +kernel
theorem dJ2_getChar_3b067_49 : decode cJ2_getChar_3b067 49 = .ok (.sipush 255, 3) := by decide +kernel
theorem dJ2_getChar_3b067_52 : decode cJ2_getChar_3b067 52 = .ok (.iand, 1) := by decide +kernel
theorem dJ2_getChar_3b067_53 : decode cJ2_getChar_3b067 53 = .ok (.getstatic 63, 3) := by decide +kernel
theorem dJ2_getChar_3b067_56 : decode cJ2_getChar_3b067 56 = .ok (.ishl, 1) := by decide +kernel
theorem dJ2_getChar_3b067_57 : decode cJ2_getChar_3b067 57 = .ok (.ior, 1) := by decide +kernel
theorem dJ2_getChar_3b067_58 : decode cJ2_getChar_3b067 58 = .ok (.i2c, 1) := by decide +kernel
theorem dJ2_getChar_3b067_59 : decode cJ2_getChar_3b067 59 = .ok (.ireturn, 1) := by decide +kernel
theorem dJ2_length_9d52b_0 : decode cJ2_length_9d52b 0 = .ok (.aload_n 0, 1) := by decide +kernel
theorem dJ2_length_9d52b_1 : decode cJ2_length_9d52b 1 = .ok (.arraylength, 1) := by decide +kernel
theorem dJ2_length_9d52b_2 : decode cJ2_length_9d52b 2 = .ok (.iconst 1, 1) := by decide +kernel
theorem dJ2_length_9d52b_3 : decode cJ2_length_9d52b 3 = .ok (.ishr, 1) := by decide +kernel
theorem dJ2_length_9d52b_4 : decode cJ2_length_9d52b 4 = .ok (.ireturn, 1) := by decide +kernel
theorem dJ2_charAt_3b067_0 : decode cJ2_charAt_3b067 0 = .ok (.iload_n 1, 1) := by decide +kernel
theorem dJ2_charAt_3b067_1 : decode cJ2_charAt_3b067 1 = .ok (.aload_n 0, 1) := by decide +kernel
theorem dJ2_charAt_3b067_2 : decode cJ2_charAt_3b067 2 = .ok (.invokestatic 67, 3) := by decide +kernel
theorem dJ2_charAt_3b067_5 : decode cJ2_charAt_3b067 5 = .ok (.aload_n 0, 1) := by decide +kernel
theorem dJ2_charAt_3b067_6 : decode cJ2_charAt_3b067 6 = .ok (.iload_n 1, 1) := by decide +kernel
theorem dJ2_charAt_3b067_7 : decode cJ2_charAt_3b067 7 = .ok (.invokestatic 71, 3) := by decide +kernel
theorem dJ2_charAt_3b067_10 : decode cJ2_charAt_3b067 10 = .ok (.ireturn, 1) := by decide +kernel
theorem dJ2_checkIndex_2214a_0 : decode cJ2_checkIndex_2214a 0 = .ok (.iload_n 0, 1) := by decide +kernel
theorem dJ2_checkIndex_2214a_1 : decode cJ2_checkIndex_2214a 1 = .ok (.aload_n 1, 1) := by decide +kernel
theorem dJ2_checkIndex_2214a_2 : decode cJ2_checkIndex_2214a 2 = .ok (.invokestatic 48, 3) := by decide +kernel
theorem dJ2_checkIndex_2214a_5 : decode cJ2_checkIndex_2214a 5 = .ok (.invokestatic 414, 3) := by decide +kernel
theorem dJ2_checkIndex_2214a_8 : decode cJ2_checkIndex_2214a 8 = .ok (.return_, 1) := by decide +kernel
theorem dJ3_checkIndex_8e157_0 : decode cJ3_checkIndex_8e157 0 = .ok (.iload_n 0, 1) := by decide +kernel
theorem dJ3_checkIndex_8e157_1 : decode cJ3_checkIndex_8e157 1 = .ok (.ifCond .lt 8, 3) := by decide +kernel
theorem dJ3_checkIndex_8e157_4 : decode cJ3_checkIndex_8e157 4 = .ok (.iload_n 0, 1) := by decide +kernel
theorem dJ3_checkIndex_8e157_5 : decode cJ3_checkIndex_8e157 5 = .ok (.iload_n 1, 1) := by decide +kernel
theorem dJ3_checkIndex_8e157_6 : decode cJ3_checkIndex_8e157 6 = .ok (.if_icmp .lt 10, 3) := by decide +kernel
theorem dJ3_checkIndex_8e157_9 : decode cJ3_checkIndex_8e157 9 = .ok (.aload_n 2, 1) := by decide +kernel
theorem dJ3_checkIndex_8e157_10 : decode cJ3_checkIndex_8e157 10 = .ok (.iload_n 0, 1) := by decide +kernel
theorem dJ3_checkIndex_8e157_11 : decode cJ3_checkIndex_8e157 11 = .ok (.iload_n 1, 1) := by decide +kernel
theorem dJ3_checkIndex_8e157_12 : decode cJ3_checkIndex_8e157 12 = .ok (.invokestatic 95, 3) := by decide +kernel
theorem dJ3_checkIndex_8e157_15 : decode cJ3_checkIndex_8e157 15 = .ok (.athrow, 1) := by decide +kernel
theorem dJ3_checkIndex_8e157_16 : decode cJ3_checkIndex_8e157 16 = .ok (.iload_n 0, 1) := by decide +kernel
theorem dJ3_checkIndex_8e157_17 : decode cJ3_checkIndex_8e157 17 = .ok (.ireturn, 1) := by decide +kernel
theorem dL_law_0 : decode cL_law 0 = .ok (.new 7, 3) := by decide +kernel
theorem dL_law_3 : decode cL_law 3 = .ok (.dup, 1) := by decide +kernel
theorem dL_law_4 : decode cL_law 4 = .ok (.invokespecial 9, 3) := by decide +kernel
theorem dL_law_7 : decode cL_law 7 = .ok (.astore_n 1, 1) := by decide +kernel
theorem dL_law_8 : decode cL_law 8 = .ok (.new 10, 3) := by decide +kernel
theorem dL_law_11 : decode cL_law 11 = .ok (.dup, 1) := by decide +kernel
theorem dL_law_12 : decode cL_law 12 = .ok (.invokespecial 12, 3) := by decide +kernel
theorem dL_law_15 : decode cL_law 15 = .ok (.astore_n 2, 1) := by decide +kernel
theorem dL_law_16 : decode cL_law 16 = .ok (.iconst 0, 1) := by decide +kernel
theorem dL_law_17 : decode cL_law 17 = .ok (.istore_n 3, 1) := by decide +kernel
theorem dL_law_18 : decode cL_law 18 = .ok (.iload_n 3, 1) := by decide +kernel
theorem dL_law_19 : decode cL_law 19 = .ok (.aload_n 0, 1) := by decide +kernel
theorem dL_law_20 : decode cL_law 20 = .ok (.arraylength, 1) := by decide +kernel
theorem dL_law_21 : decode cL_law 21 = .ok (.bipush 6, 2) := by decide +kernel
theorem dL_law_23 : decode cL_law 23 = .ok (.isub, 1) := by decide +kernel
theorem dL_law_24 : decode cL_law 24 = .ok (.if_icmp .gt 927, 3) := by decide +kernel
theorem dL_law_27 : decode cL_law 27 = .ok (.aload_n 0, 1) := by decide +kernel
theorem dL_law_28 : decode cL_law 28 = .ok (.iload_n 3, 1) := by decide +kernel
theorem dL_law_29 : decode cL_law 29 = .ok (.iaload, 1) := by decide +kernel
theorem dL_law_30 : decode cL_law 30 = .ok (.bipush 31, 2) := by decide +kernel
theorem dL_law_32 : decode cL_law 32 = .ok (.iand, 1) := by decide +kernel
theorem dL_law_33 : decode cL_law 33 = .ok (.tableswitch 912 0 27 #[127, 170, 193, 226, 269, 292, 325, 358, 371, 384, 437, 470, 503, 536, 559, 582, 645, 688, 711, 744, 757, 790, 813, 836, 849, 862, 875, 898], 127) := by decide +kernel
theorem dL_law_160 : decode cL_law 160 = .ok (.aload_n 1, 1) := by decide +kernel
theorem dL_law_161 : decode cL_law 161 = .ok (.aload_n 0, 1) := by decide +kernel
theorem dL_law_162 : decode cL_law 162 = .ok (.iload_n 3, 1) := by decide +kernel
theorem dL_law_163 : decode cL_law 163 = .ok (.iconst 1, 1) := by decide +kernel
theorem dL_law_164 : decode cL_law 164 = .ok (.iadd, 1) := by decide +kernel
theorem dL_law_165 : decode cL_law 165 = .ok (.iaload, 1) := by decide +kernel
theorem dL_law_166 : decode cL_law 166 = .ok (.aload_n 0, 1) := by decide +kernel
theorem dL_law_167 : decode cL_law 167 = .ok (.iload_n 3, 1) := by decide +kernel
theorem dL_law_168 : decode cL_law 168 = .ok (.iconst 2, 1) := by decide +kernel
theorem dL_law_169 : decode cL_law 169 = .ok (.iadd, 1) := by decide +kernel
theorem dL_law_170 : decode cL_law 170 = .ok (.iaload, 1) := by decide +kernel
theorem dL_law_171 : decode cL_law 171 = .ok (.aload_n 0, 1) := by decide +kernel
theorem dL_law_172 : decode cL_law 172 = .ok (.iload_n 3, 1) := by decide +kernel
theorem dL_law_173 : decode cL_law 173 = .ok (.iconst 3, 1) := by decide +kernel
theorem dL_law_174 : decode cL_law 174 = .ok (.iadd, 1) := by decide +kernel
theorem dL_law_175 : decode cL_law 175 = .ok (.iaload, 1) := by decide +kernel
theorem dL_law_176 : decode cL_law 176 = .ok (.invokevirtual 13, 3) := by decide +kernel
theorem dL_law_179 : decode cL_law 179 = .ok (.aload_n 2, 1) := by decide +kernel
theorem dL_law_180 : decode cL_law 180 = .ok (.aload_n 0, 1) := by decide +kernel
theorem dL_law_181 : decode cL_law 181 = .ok (.iload_n 3, 1) := by decide +kernel
theorem dL_law_182 : decode cL_law 182 = .ok (.iconst 1, 1) := by decide +kernel
theorem dL_law_183 : decode cL_law 183 = .ok (.iadd, 1) := by decide +kernel
theorem dL_law_184 : decode cL_law 184 = .ok (.iaload, 1) := by decide +kernel
theorem dL_law_185 : decode cL_law 185 = .ok (.aload_n 0, 1) := by decide +kernel
theorem dL_law_186 : decode cL_law 186 = .ok (.iload_n 3, 1) := by decide +kernel
theorem dL_law_187 : decode cL_law 187 = .ok (.iconst 2, 1) := by decide +kernel
theorem dL_law_188 : decode cL_law 188 = .ok (.iadd, 1) := by decide +kernel
theorem dL_law_189 : decode cL_law 189 = .ok (.iaload, 1) := by decide +kernel
theorem dL_law_190 : decode cL_law 190 = .ok (.aload_n 0, 1) := by decide +kernel
theorem dL_law_191 : decode cL_law 191 = .ok (.iload_n 3, 1) := by decide +kernel
theorem dL_law_192 : decode cL_law 192 = .ok (.iconst 3, 1) := by decide +kernel
theorem dL_law_193 : decode cL_law 193 = .ok (.iadd, 1) := by decide +kernel
theorem dL_law_194 : decode cL_law 194 = .ok (.iaload, 1) := by decide +kernel
theorem dL_law_195 : decode cL_law 195 = .ok (.invokevirtual 17, 3) := by decide +kernel
theorem dL_law_198 : decode cL_law 198 = .ok (.if_icmp .eq 747, 3) := by decide +kernel
theorem dL_law_201 : decode cL_law 201 = .ok (.iconst 0, 1) := by decide +kernel
theorem dL_law_202 : decode cL_law 202 = .ok (.ireturn, 1) := by decide +kernel
theorem dL_law_203 : decode cL_law 203 = .ok (.aload_n 1, 1) := by decide +kernel
theorem dL_law_204 : decode cL_law 204 = .ok (.aload_n 0, 1) := by decide +kernel
theorem dL_law_205 : decode cL_law 205 = .ok (.iload_n 3, 1) := by decide +kernel
theorem dL_law_206 : decode cL_law 206 = .ok (.iconst 1, 1) := by decide +kernel
theorem dL_law_207 : decode cL_law 207 = .ok (.iadd, 1) := by decide +kernel
theorem dL_law_208 : decode cL_law 208 = .ok (.iaload, 1) := by decide +kernel
theorem dL_law_209 : decode cL_law 209 = .ok (.invokevirtual 18, 3) := by decide +kernel
theorem dL_law_212 : decode cL_law 212 = .ok (.aload_n 2, 1) := by decide +kernel
theorem dL_law_213 : decode cL_law 213 = .ok (.aload_n 0, 1) := by decide +kernel
theorem dL_law_214 : decode cL_law 214 = .ok (.iload_n 3, 1) := by decide +kernel
theorem dL_law_215 : decode cL_law 215 = .ok (.iconst 1, 1) := by decide +kernel
theorem dL_law_216 : decode cL_law 216 = .ok (.iadd, 1) := by decide +kernel
theorem dL_law_217 : decode cL_law 217 = .ok (.iaload, 1) := by decide +kernel
theorem dL_law_218 : decode cL_law 218 = .ok (.invokevirtual 22, 3) := by decide +kernel
theorem dL_law_221 : decode cL_law 221 = .ok (.if_icmp .eq 724, 3) := by decide +kernel
theorem dL_law_224 : decode cL_law 224 = .ok (.iconst 0, 1) := by decide +kernel
theorem dL_law_225 : decode cL_law 225 = .ok (.ireturn, 1) := by decide +kernel
theorem dL_law_226 : decode cL_law 226 = .ok (.aload_n 1, 1) := by decide +kernel
theorem dL_law_227 : decode cL_law 227 = .ok (.aload_n 0, 1) := by decide +kernel
theorem dL_law_228 : decode cL_law 228 = .ok (.iload_n 3, 1) := by decide +kernel
theorem dL_law_229 : decode cL_law 229 = .ok (.iconst 1, 1) := by decide +kernel
theorem dL_law_230 : decode cL_law 230 = .ok (.iadd, 1) := by decide +kernel
theorem dL_law_231 : decode cL_law 231 = .ok (.iaload, 1) := by decide +kernel
theorem dL_law_232 : decode cL_law 232 = .ok (.aload_n 0, 1) := by decide +kernel
theorem dL_law_233 : decode cL_law 233 = .ok (.iload_n 3, 1) := by decide +kernel
theorem dL_law_234 : decode cL_law 234 = .ok (.iconst 2, 1) := by decide +kernel
theorem dL_law_235 : decode cL_law 235 = .ok (.iadd, 1) := by decide +kernel
theorem dL_law_236 : decode cL_law 236 = .ok (.iaload, 1) := by decide +kernel
theorem dL_law_237 : decode cL_law 237 = .ok (.invokevirtual 23, 3) := by decide +kernel
theorem dL_law_240 : decode cL_law 240 = .ok (.aload_n 2, 1) := by decide +kernel
theorem dL_law_241 : decode cL_law 241 = .ok (.aload_n 0, 1) := by decide +kernel
theorem dL_law_242 : decode cL_law 242 = .ok (.iload_n 3, 1) := by decide +kernel
theorem dL_law_243 : decode cL_law 243 = .ok (.iconst 1, 1) := by decide +kernel
theorem dL_law_244 : decode cL_law 244 = .ok (.iadd, 1) := by decide +kernel
theorem dL_law_245 : decode cL_law 245 = .ok (.iaload, 1) := by decide +kernel
theorem dL_law_246 : decode cL_law 246 = .ok (.aload_n 0, 1) := by decide +kernel
theorem dL_law_247 : decode cL_law 247 = .ok (.iload_n 3, 1) := by decide +kernel
theorem dL_law_248 : decode cL_law 248 = .ok (.iconst 2, 1) := by decide +kernel
theorem dL_law_249 : decode cL_law 249 = .ok (.iadd, 1) := by decide +kernel
theorem dL_law_250 : decode cL_law 250 = .ok (.iaload, 1) := by decide +kernel
theorem dL_law_251 : decode cL_law 251 = .ok (.invokevirtual 27, 3) := by decide +kernel
theorem dL_law_254 : decode cL_law 254 = .ok (.if_icmp .eq 691, 3) := by decide +kernel
theorem dL_law_257 : decode cL_law 257 = .ok (.iconst 0, 1) := by decide +kernel
theorem dL_law_258 : decode cL_law 258 = .ok (.ireturn, 1) := by decide +kernel
theorem dL_law_259 : decode cL_law 259 = .ok (.aload_n 1, 1) := by decide +kernel
theorem dL_law_260 : decode cL_law 260 = .ok (.aload_n 0, 1) := by decide +kernel
theorem dL_law_261 : decode cL_law 261 = .ok (.iload_n 3, 1) := by decide +kernel
theorem dL_law_262 : decode cL_law 262 = .ok (.iconst 1, 1) := by decide +kernel
theorem dL_law_263 : decode cL_law 263 = .ok (.iadd, 1) := by decide +kernel
theorem dL_law_264 : decode cL_law 264 = .ok (.iaload, 1) := by decide +kernel
theorem dL_law_265 : decode cL_law 265 = .ok (.aload_n 0, 1) := by decide +kernel
theorem dL_law_266 : decode cL_law 266 = .ok (.iload_n 3, 1) := by decide +kernel
theorem dL_law_267 : decode cL_law 267 = .ok (.iconst 2, 1) := by decide +kernel
theorem dL_law_268 : decode cL_law 268 = .ok (.iadd, 1) := by decide +kernel
theorem dL_law_269 : decode cL_law 269 = .ok (.iaload, 1) := by decide +kernel
theorem dL_law_270 : decode cL_law 270 = .ok (.aload_n 0, 1) := by decide +kernel
theorem dL_law_271 : decode cL_law 271 = .ok (.iload_n 3, 1) := by decide +kernel
theorem dL_law_272 : decode cL_law 272 = .ok (.iconst 3, 1) := by decide +kernel
theorem dL_law_273 : decode cL_law 273 = .ok (.iadd, 1) := by decide +kernel
theorem dL_law_274 : decode cL_law 274 = .ok (.iaload, 1) := by decide +kernel
theorem dL_law_275 : decode cL_law 275 = .ok (.invokevirtual 28, 3) := by decide +kernel
theorem dL_law_278 : decode cL_law 278 = .ok (.aload_n 2, 1) := by decide +kernel
theorem dL_law_279 : decode cL_law 279 = .ok (.aload_n 0, 1) := by decide +kernel
theorem dL_law_280 : decode cL_law 280 = .ok (.iload_n 3, 1) := by decide +kernel
theorem dL_law_281 : decode cL_law 281 = .ok (.iconst 1, 1) := by decide +kernel
theorem dL_law_282 : decode cL_law 282 = .ok (.iadd, 1) := by decide +kernel
theorem dL_law_283 : decode cL_law 283 = .ok (.iaload, 1) := by decide +kernel
theorem dL_law_284 : decode cL_law 284 = .ok (.aload_n 0, 1) := by decide +kernel
theorem dL_law_285 : decode cL_law 285 = .ok (.iload_n 3, 1) := by decide +kernel
theorem dL_law_286 : decode cL_law 286 = .ok (.iconst 2, 1) := by decide +kernel
theorem dL_law_287 : decode cL_law 287 = .ok (.iadd, 1) := by decide +kernel
theorem dL_law_288 : decode cL_law 288 = .ok (.iaload, 1) := by decide +kernel
theorem dL_law_289 : decode cL_law 289 = .ok (.aload_n 0, 1) := by decide +kernel
theorem dL_law_290 : decode cL_law 290 = .ok (.iload_n 3, 1) := by decide +kernel
theorem dL_law_291 : decode cL_law 291 = .ok (.iconst 3, 1) := by decide +kernel
theorem dL_law_292 : decode cL_law 292 = .ok (.iadd, 1) := by decide +kernel
theorem dL_law_293 : decode cL_law 293 = .ok (.iaload, 1) := by decide +kernel
theorem dL_law_294 : decode cL_law 294 = .ok (.invokevirtual 31, 3) := by decide +kernel
theorem dL_law_297 : decode cL_law 297 = .ok (.if_icmp .eq 648, 3) := by decide +kernel
theorem dL_law_300 : decode cL_law 300 = .ok (.iconst 0, 1) := by decide +kernel
theorem dL_law_301 : decode cL_law 301 = .ok (.ireturn, 1) := by decide +kernel
theorem dL_law_302 : decode cL_law 302 = .ok (.aload_n 1, 1) := by decide +kernel
theorem dL_law_303 : decode cL_law 303 = .ok (.aload_n 0, 1) := by decide +kernel
theorem dL_law_304 : decode cL_law 304 = .ok (.iload_n 3, 1) := by decide +kernel
theorem dL_law_305 : decode cL_law 305 = .ok (.iconst 1, 1) := by decide +kernel
theorem dL_law_306 : decode cL_law 306 = .ok (.iadd, 1) := by decide +kernel
theorem dL_law_307 : decode cL_law 307 = .ok (.iaload, 1) := by decide +kernel
theorem dL_law_308 : decode cL_law 308 = .ok (.invokevirtual 32, 3) := by decide +kernel
theorem dL_law_311 : decode cL_law 311 = .ok (.aload_n 2, 1) := by decide +kernel
theorem dL_law_312 : decode cL_law 312 = .ok (.aload_n 0, 1) := by decide +kernel
theorem dL_law_313 : decode cL_law 313 = .ok (.iload_n 3, 1) := by decide +kernel
theorem dL_law_314 : decode cL_law 314 = .ok (.iconst 1, 1) := by decide +kernel
theorem dL_law_315 : decode cL_law 315 = .ok (.iadd, 1) := by decide +kernel
theorem dL_law_316 : decode cL_law 316 = .ok (.iaload, 1) := by decide +kernel
theorem dL_law_317 : decode cL_law 317 = .ok (.invokevirtual 35, 3) := by decide +kernel
theorem dL_law_320 : decode cL_law 320 = .ok (.if_icmp .eq 625, 3) := by decide +kernel
theorem dL_law_323 : decode cL_law 323 = .ok (.iconst 0, 1) := by decide +kernel
theorem dL_law_324 : decode cL_law 324 = .ok (.ireturn, 1) := by decide +kernel
theorem dL_law_325 : decode cL_law 325 = .ok (.aload_n 1, 1) := by decide +kernel
theorem dL_law_326 : decode cL_law 326 = .ok (.aload_n 0, 1) := by decide +kernel
theorem dL_law_327 : decode cL_law 327 = .ok (.iload_n 3, 1) := by decide +kernel
theorem dL_law_328 : decode cL_law 328 = .ok (.iconst 1, 1) := by decide +kernel
theorem dL_law_329 : decode cL_law 329 = .ok (.iadd, 1) := by decide +kernel
theorem dL_law_330 : decode cL_law 330 = .ok (.iaload, 1) := by decide +kernel
theorem dL_law_331 : decode cL_law 331 = .ok (.aload_n 0, 1) := by decide +kernel
theorem dL_law_332 : decode cL_law 332 = .ok (.iload_n 3, 1) := by decide +kernel
theorem dL_law_333 : decode cL_law 333 = .ok (.iconst 2, 1) := by decide +kernel
theorem dL_law_334 : decode cL_law 334 = .ok (.iadd, 1) := by decide +kernel
theorem dL_law_335 : decode cL_law 335 = .ok (.iaload, 1) := by decide +kernel
theorem dL_law_336 : decode cL_law 336 = .ok (.invokevirtual 36, 3) := by decide +kernel
theorem dL_law_339 : decode cL_law 339 = .ok (.aload_n 2, 1) := by decide +kernel
theorem dL_law_340 : decode cL_law 340 = .ok (.aload_n 0, 1) := by decide +kernel
theorem dL_law_341 : decode cL_law 341 = .ok (.iload_n 3, 1) := by decide +kernel
theorem dL_law_342 : decode cL_law 342 = .ok (.iconst 1, 1) := by decide +kernel
theorem dL_law_343 : decode cL_law 343 = .ok (.iadd, 1) := by decide +kernel
theorem dL_law_344 : decode cL_law 344 = .ok (.iaload, 1) := by decide +kernel
theorem dL_law_345 : decode cL_law 345 = .ok (.aload_n 0, 1) := by decide +kernel
theorem dL_law_346 : decode cL_law 346 = .ok (.iload_n 3, 1) := by decide +kernel
theorem dL_law_347 : decode cL_law 347 = .ok (.iconst 2, 1) := by decide +kernel
theorem dL_law_348 : decode cL_law 348 = .ok (.iadd, 1) := by decide +kernel
theorem dL_law_349 : decode cL_law 349 = .ok (.iaload, 1) := by decide +kernel
theorem dL_law_350 : decode cL_law 350 = .ok (.invokevirtual 39, 3) := by decide +kernel
theorem dL_law_353 : decode cL_law 353 = .ok (.if_icmp .eq 592, 3) := by decide +kernel
theorem dL_law_356 : decode cL_law 356 = .ok (.iconst 0, 1) := by decide +kernel
theorem dL_law_357 : decode cL_law 357 = .ok (.ireturn, 1) := by decide +kernel
theorem dL_law_358 : decode cL_law 358 = .ok (.aload_n 1, 1) := by decide +kernel
theorem dL_law_359 : decode cL_law 359 = .ok (.aload_n 0, 1) := by decide +kernel
theorem dL_law_360 : decode cL_law 360 = .ok (.iload_n 3, 1) := by decide +kernel
theorem dL_law_361 : decode cL_law 361 = .ok (.iconst 1, 1) := by decide +kernel
theorem dL_law_362 : decode cL_law 362 = .ok (.iadd, 1) := by decide +kernel
theorem dL_law_363 : decode cL_law 363 = .ok (.iaload, 1) := by decide +kernel
theorem dL_law_364 : decode cL_law 364 = .ok (.aload_n 0, 1) := by decide +kernel
theorem dL_law_365 : decode cL_law 365 = .ok (.iload_n 3, 1) := by decide +kernel
theorem dL_law_366 : decode cL_law 366 = .ok (.iconst 2, 1) := by decide +kernel
theorem dL_law_367 : decode cL_law 367 = .ok (.iadd, 1) := by decide +kernel
theorem dL_law_368 : decode cL_law 368 = .ok (.iaload, 1) := by decide +kernel
theorem dL_law_369 : decode cL_law 369 = .ok (.invokevirtual 40, 3) := by decide +kernel
theorem dL_law_372 : decode cL_law 372 = .ok (.aload_n 2, 1) := by decide +kernel
theorem dL_law_373 : decode cL_law 373 = .ok (.aload_n 0, 1) := by decide +kernel
theorem dL_law_374 : decode cL_law 374 = .ok (.iload_n 3, 1) := by decide +kernel
theorem dL_law_375 : decode cL_law 375 = .ok (.iconst 1, 1) := by decide +kernel
theorem dL_law_376 : decode cL_law 376 = .ok (.iadd, 1) := by decide +kernel
theorem dL_law_377 : decode cL_law 377 = .ok (.iaload, 1) := by decide +kernel
theorem dL_law_378 : decode cL_law 378 = .ok (.aload_n 0, 1) := by decide +kernel
theorem dL_law_379 : decode cL_law 379 = .ok (.iload_n 3, 1) := by decide +kernel
theorem dL_law_380 : decode cL_law 380 = .ok (.iconst 2, 1) := by decide +kernel
theorem dL_law_381 : decode cL_law 381 = .ok (.iadd, 1) := by decide +kernel
theorem dL_law_382 : decode cL_law 382 = .ok (.iaload, 1) := by decide +kernel
theorem dL_law_383 : decode cL_law 383 = .ok (.invokevirtual 43, 3) := by decide +kernel
theorem dL_law_386 : decode cL_law 386 = .ok (.if_icmp .eq 559, 3) := by decide +kernel
theorem dL_law_389 : decode cL_law 389 = .ok (.iconst 0, 1) := by decide +kernel
theorem dL_law_390 : decode cL_law 390 = .ok (.ireturn, 1) := by decide +kernel
theorem dL_law_391 : decode cL_law 391 = .ok (.aload_n 1, 1) := by decide +kernel
theorem dL_law_392 : decode cL_law 392 = .ok (.invokevirtual 44, 3) := by decide +kernel
theorem dL_law_395 : decode cL_law 395 = .ok (.aload_n 2, 1) := by decide +kernel
theorem dL_law_396 : decode cL_law 396 = .ok (.invokevirtual 48, 3) := by decide +kernel
theorem dL_law_399 : decode cL_law 399 = .ok (.if_icmp .eq 546, 3) := by decide +kernel
theorem dL_law_402 : decode cL_law 402 = .ok (.iconst 0, 1) := by decide +kernel
theorem dL_law_403 : decode cL_law 403 = .ok (.ireturn, 1) := by decide +kernel
theorem dL_law_404 : decode cL_law 404 = .ok (.aload_n 1, 1) := by decide +kernel
theorem dL_law_405 : decode cL_law 405 = .ok (.invokevirtual 49, 3) := by decide +kernel
theorem dL_law_408 : decode cL_law 408 = .ok (.aload_n 2, 1) := by decide +kernel
theorem dL_law_409 : decode cL_law 409 = .ok (.invokevirtual 52, 3) := by decide +kernel
theorem dL_law_412 : decode cL_law 412 = .ok (.if_icmp .eq 533, 3) := by decide +kernel
theorem dL_law_415 : decode cL_law 415 = .ok (.iconst 0, 1) := by decide +kernel
theorem dL_law_416 : decode cL_law 416 = .ok (.ireturn, 1) := by decide +kernel
theorem dL_law_417 : decode cL_law 417 = .ok (.aload_n 1, 1) := by decide +kernel
theorem dL_law_418 : decode cL_law 418 = .ok (.aload_n 0, 1) := by decide +kernel
theorem dL_law_419 : decode cL_law 419 = .ok (.iload_n 3, 1) := by decide +kernel
theorem dL_law_420 : decode cL_law 420 = .ok (.iconst 1, 1) := by decide +kernel
theorem dL_law_421 : decode cL_law 421 = .ok (.iadd, 1) := by decide +kernel
theorem dL_law_422 : decode cL_law 422 = .ok (.iaload, 1) := by decide +kernel
theorem dL_law_423 : decode cL_law 423 = .ok (.aload_n 0, 1) := by decide +kernel
theorem dL_law_424 : decode cL_law 424 = .ok (.iload_n 3, 1) := by decide +kernel
theorem dL_law_425 : decode cL_law 425 = .ok (.iconst 2, 1) := by decide +kernel
theorem dL_law_426 : decode cL_law 426 = .ok (.iadd, 1) := by decide +kernel
theorem dL_law_427 : decode cL_law 427 = .ok (.iaload, 1) := by decide +kernel
theorem dL_law_428 : decode cL_law 428 = .ok (.aload_n 0, 1) := by decide +kernel
theorem dL_law_429 : decode cL_law 429 = .ok (.iload_n 3, 1) := by decide +kernel
theorem dL_law_430 : decode cL_law 430 = .ok (.iconst 3, 1) := by decide +kernel
theorem dL_law_431 : decode cL_law 431 = .ok (.iadd, 1) := by decide +kernel
theorem dL_law_432 : decode cL_law 432 = .ok (.iaload, 1) := by decide +kernel
theorem dL_law_433 : decode cL_law 433 = .ok (.aload_n 0, 1) := by decide +kernel
theorem dL_law_434 : decode cL_law 434 = .ok (.iload_n 3, 1) := by decide +kernel
theorem dL_law_435 : decode cL_law 435 = .ok (.iconst 4, 1) := by decide +kernel
theorem dL_law_436 : decode cL_law 436 = .ok (.iadd, 1) := by decide +kernel
theorem dL_law_437 : decode cL_law 437 = .ok (.iaload, 1) := by decide +kernel
theorem dL_law_438 : decode cL_law 438 = .ok (.invokevirtual 53, 3) := by decide +kernel
theorem dL_law_441 : decode cL_law 441 = .ok (.aload_n 2, 1) := by decide +kernel
theorem dL_law_442 : decode cL_law 442 = .ok (.aload_n 0, 1) := by decide +kernel
theorem dL_law_443 : decode cL_law 443 = .ok (.iload_n 3, 1) := by decide +kernel
theorem dL_law_444 : decode cL_law 444 = .ok (.iconst 1, 1) := by decide +kernel
theorem dL_law_445 : decode cL_law 445 = .ok (.iadd, 1) := by decide +kernel
theorem dL_law_446 : decode cL_law 446 = .ok (.iaload, 1) := by decide +kernel
theorem dL_law_447 : decode cL_law 447 = .ok (.aload_n 0, 1) := by decide +kernel
theorem dL_law_448 : decode cL_law 448 = .ok (.iload_n 3, 1) := by decide +kernel
theorem dL_law_449 : decode cL_law 449 = .ok (.iconst 2, 1) := by decide +kernel
theorem dL_law_450 : decode cL_law 450 = .ok (.iadd, 1) := by decide +kernel
theorem dL_law_451 : decode cL_law 451 = .ok (.iaload, 1) := by decide +kernel
theorem dL_law_452 : decode cL_law 452 = .ok (.aload_n 0, 1) := by decide +kernel
theorem dL_law_453 : decode cL_law 453 = .ok (.iload_n 3, 1) := by decide +kernel
theorem dL_law_454 : decode cL_law 454 = .ok (.iconst 3, 1) := by decide +kernel
theorem dL_law_455 : decode cL_law 455 = .ok (.iadd, 1) := by decide +kernel
theorem dL_law_456 : decode cL_law 456 = .ok (.iaload, 1) := by decide +kernel
theorem dL_law_457 : decode cL_law 457 = .ok (.aload_n 0, 1) := by decide +kernel
theorem dL_law_458 : decode cL_law 458 = .ok (.iload_n 3, 1) := by decide +kernel
theorem dL_law_459 : decode cL_law 459 = .ok (.iconst 4, 1) := by decide +kernel
theorem dL_law_460 : decode cL_law 460 = .ok (.iadd, 1) := by decide +kernel
theorem dL_law_461 : decode cL_law 461 = .ok (.iaload, 1) := by decide +kernel
theorem dL_law_462 : decode cL_law 462 = .ok (.invokevirtual 57, 3) := by decide +kernel
theorem dL_law_465 : decode cL_law 465 = .ok (.if_icmp .eq 480, 3) := by decide +kernel
theorem dL_law_468 : decode cL_law 468 = .ok (.iconst 0, 1) := by decide +kernel
theorem dL_law_469 : decode cL_law 469 = .ok (.ireturn, 1) := by decide +kernel
theorem dL_law_470 : decode cL_law 470 = .ok (.aload_n 1, 1) := by decide +kernel
theorem dL_law_471 : decode cL_law 471 = .ok (.aload_n 0, 1) := by decide +kernel
theorem dL_law_472 : decode cL_law 472 = .ok (.iload_n 3, 1) := by decide +kernel
theorem dL_law_473 : decode cL_law 473 = .ok (.iconst 1, 1) := by decide +kernel
theorem dL_law_474 : decode cL_law 474 = .ok (.iadd, 1) := by decide +kernel
theorem dL_law_475 : decode cL_law 475 = .ok (.iaload, 1) := by decide +kernel
theorem dL_law_476 : decode cL_law 476 = .ok (.aload_n 0, 1) := by decide +kernel
theorem dL_law_477 : decode cL_law 477 = .ok (.iload_n 3, 1) := by decide +kernel
theorem dL_law_478 : decode cL_law 478 = .ok (.iconst 2, 1) := by decide +kernel
theorem dL_law_479 : decode cL_law 479 = .ok (.iadd, 1) := by decide +kernel
theorem dL_law_480 : decode cL_law 480 = .ok (.iaload, 1) := by decide +kernel
theorem dL_law_481 : decode cL_law 481 = .ok (.invokevirtual 58, 3) := by decide +kernel
theorem dL_law_484 : decode cL_law 484 = .ok (.aload_n 2, 1) := by decide +kernel
theorem dL_law_485 : decode cL_law 485 = .ok (.aload_n 0, 1) := by decide +kernel
theorem dL_law_486 : decode cL_law 486 = .ok (.iload_n 3, 1) := by decide +kernel
theorem dL_law_487 : decode cL_law 487 = .ok (.iconst 1, 1) := by decide +kernel
theorem dL_law_488 : decode cL_law 488 = .ok (.iadd, 1) := by decide +kernel
theorem dL_law_489 : decode cL_law 489 = .ok (.iaload, 1) := by decide +kernel
theorem dL_law_490 : decode cL_law 490 = .ok (.aload_n 0, 1) := by decide +kernel
theorem dL_law_491 : decode cL_law 491 = .ok (.iload_n 3, 1) := by decide +kernel
theorem dL_law_492 : decode cL_law 492 = .ok (.iconst 2, 1) := by decide +kernel
theorem dL_law_493 : decode cL_law 493 = .ok (.iadd, 1) := by decide +kernel
theorem dL_law_494 : decode cL_law 494 = .ok (.iaload, 1) := by decide +kernel
theorem dL_law_495 : decode cL_law 495 = .ok (.invokevirtual 61, 3) := by decide +kernel
theorem dL_law_498 : decode cL_law 498 = .ok (.if_icmp .eq 447, 3) := by decide +kernel
theorem dL_law_501 : decode cL_law 501 = .ok (.iconst 0, 1) := by decide +kernel
theorem dL_law_502 : decode cL_law 502 = .ok (.ireturn, 1) := by decide +kernel
theorem dL_law_503 : decode cL_law 503 = .ok (.aload_n 1, 1) := by decide +kernel
theorem dL_law_504 : decode cL_law 504 = .ok (.aload_n 0, 1) := by decide +kernel
theorem dL_law_505 : decode cL_law 505 = .ok (.iload_n 3, 1) := by decide +kernel
theorem dL_law_506 : decode cL_law 506 = .ok (.iconst 1, 1) := by decide +kernel
theorem dL_law_507 : decode cL_law 507 = .ok (.iadd, 1) := by decide +kernel
theorem dL_law_508 : decode cL_law 508 = .ok (.iaload, 1) := by decide +kernel
theorem dL_law_509 : decode cL_law 509 = .ok (.aload_n 0, 1) := by decide +kernel
theorem dL_law_510 : decode cL_law 510 = .ok (.iload_n 3, 1) := by decide +kernel
theorem dL_law_511 : decode cL_law 511 = .ok (.iconst 2, 1) := by decide +kernel
theorem dL_law_512 : decode cL_law 512 = .ok (.iadd, 1) := by decide +kernel
theorem dL_law_513 : decode cL_law 513 = .ok (.iaload, 1) := by decide +kernel
theorem dL_law_514 : decode cL_law 514 = .ok (.invokevirtual 62, 3) := by decide +kernel
theorem dL_law_517 : decode cL_law 517 = .ok (.aload_n 2, 1) := by decide +kernel
theorem dL_law_518 : decode cL_law 518 = .ok (.aload_n 0, 1) := by decide +kernel
theorem dL_law_519 : decode cL_law 519 = .ok (.iload_n 3, 1) := by decide +kernel
theorem dL_law_520 : decode cL_law 520 = .ok (.iconst 1, 1) := by decide +kernel
theorem dL_law_521 : decode cL_law 521 = .ok (.iadd, 1) := by decide +kernel
theorem dL_law_522 : decode cL_law 522 = .ok (.iaload, 1) := by decide +kernel
theorem dL_law_523 : decode cL_law 523 = .ok (.aload_n 0, 1) := by decide +kernel
theorem dL_law_524 : decode cL_law 524 = .ok (.iload_n 3, 1) := by decide +kernel
theorem dL_law_525 : decode cL_law 525 = .ok (.iconst 2, 1) := by decide +kernel
theorem dL_law_526 : decode cL_law 526 = .ok (.iadd, 1) := by decide +kernel
theorem dL_law_527 : decode cL_law 527 = .ok (.iaload, 1) := by decide +kernel
theorem dL_law_528 : decode cL_law 528 = .ok (.invokevirtual 65, 3) := by decide +kernel
theorem dL_law_531 : decode cL_law 531 = .ok (.if_icmp .eq 414, 3) := by decide +kernel
theorem dL_law_534 : decode cL_law 534 = .ok (.iconst 0, 1) := by decide +kernel
theorem dL_law_535 : decode cL_law 535 = .ok (.ireturn, 1) := by decide +kernel
theorem dL_law_536 : decode cL_law 536 = .ok (.aload_n 1, 1) := by decide +kernel
theorem dL_law_537 : decode cL_law 537 = .ok (.aload_n 0, 1) := by decide +kernel
theorem dL_law_538 : decode cL_law 538 = .ok (.iload_n 3, 1) := by decide +kernel
theorem dL_law_539 : decode cL_law 539 = .ok (.iconst 1, 1) := by decide +kernel
theorem dL_law_540 : decode cL_law 540 = .ok (.iadd, 1) := by decide +kernel
theorem dL_law_541 : decode cL_law 541 = .ok (.iaload, 1) := by decide +kernel
theorem dL_law_542 : decode cL_law 542 = .ok (.aload_n 0, 1) := by decide +kernel
theorem dL_law_543 : decode cL_law 543 = .ok (.iload_n 3, 1) := by decide +kernel
theorem dL_law_544 : decode cL_law 544 = .ok (.iconst 2, 1) := by decide +kernel
theorem dL_law_545 : decode cL_law 545 = .ok (.iadd, 1) := by decide +kernel
theorem dL_law_546 : decode cL_law 546 = .ok (.iaload, 1) := by decide +kernel
theorem dL_law_547 : decode cL_law 547 = .ok (.invokevirtual 66, 3) := by decide +kernel
theorem dL_law_550 : decode cL_law 550 = .ok (.aload_n 2, 1) := by decide +kernel
theorem dL_law_551 : decode cL_law 551 = .ok (.aload_n 0, 1) := by decide +kernel
theorem dL_law_552 : decode cL_law 552 = .ok (.iload_n 3, 1) := by decide +kernel
theorem dL_law_553 : decode cL_law 553 = .ok (.iconst 1, 1) := by decide +kernel
theorem dL_law_554 : decode cL_law 554 = .ok (.iadd, 1) := by decide +kernel
theorem dL_law_555 : decode cL_law 555 = .ok (.iaload, 1) := by decide +kernel
theorem dL_law_556 : decode cL_law 556 = .ok (.aload_n 0, 1) := by decide +kernel
theorem dL_law_557 : decode cL_law 557 = .ok (.iload_n 3, 1) := by decide +kernel
theorem dL_law_558 : decode cL_law 558 = .ok (.iconst 2, 1) := by decide +kernel
theorem dL_law_559 : decode cL_law 559 = .ok (.iadd, 1) := by decide +kernel
theorem dL_law_560 : decode cL_law 560 = .ok (.iaload, 1) := by decide +kernel
theorem dL_law_561 : decode cL_law 561 = .ok (.invokevirtual 69, 3) := by decide +kernel
theorem dL_law_564 : decode cL_law 564 = .ok (.if_icmp .eq 381, 3) := by decide +kernel
theorem dL_law_567 : decode cL_law 567 = .ok (.iconst 0, 1) := by decide +kernel
theorem dL_law_568 : decode cL_law 568 = .ok (.ireturn, 1) := by decide +kernel
theorem dL_law_569 : decode cL_law 569 = .ok (.aload_n 1, 1) := by decide +kernel
theorem dL_law_570 : decode cL_law 570 = .ok (.aload_n 0, 1) := by decide +kernel
theorem dL_law_571 : decode cL_law 571 = .ok (.iload_n 3, 1) := by decide +kernel
theorem dL_law_572 : decode cL_law 572 = .ok (.iconst 1, 1) := by decide +kernel
theorem dL_law_573 : decode cL_law 573 = .ok (.iadd, 1) := by decide +kernel
theorem dL_law_574 : decode cL_law 574 = .ok (.iaload, 1) := by decide +kernel
theorem dL_law_575 : decode cL_law 575 = .ok (.invokevirtual 70, 3) := by decide +kernel
theorem dL_law_578 : decode cL_law 578 = .ok (.aload_n 2, 1) := by decide +kernel
theorem dL_law_579 : decode cL_law 579 = .ok (.aload_n 0, 1) := by decide +kernel
theorem dL_law_580 : decode cL_law 580 = .ok (.iload_n 3, 1) := by decide +kernel
