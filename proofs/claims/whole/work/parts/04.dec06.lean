theorem dX6_goesOn_28 : decode cX6_goesOn 28 = .ok (.iload_n 2, 1) := by decide +kernel
theorem dX6_goesOn_29 : decode cX6_goesOn 29 = .ok (.aload_n 0, 1) := by decide +kernel
theorem dX6_goesOn_30 : decode cX6_goesOn 30 = .ok (.getfield 7, 3) := by decide +kernel
theorem dX6_goesOn_33 : decode cX6_goesOn 33 = .ok (.iload 4, 2) := by decide +kernel
theorem dX6_goesOn_35 : decode cX6_goesOn 35 = .ok (.bipush 6, 2) := by decide +kernel
theorem dX6_goesOn_37 : decode cX6_goesOn 37 = .ok (.iadd, 1) := by decide +kernel
theorem dX6_goesOn_38 : decode cX6_goesOn 38 = .ok (.iaload, 1) := by decide +kernel
theorem dX6_goesOn_39 : decode cX6_goesOn 39 = .ok (.iload_n 3, 1) := by decide +kernel
theorem dX6_goesOn_40 : decode cX6_goesOn 40 = .ok (.invokestatic 143, 3) := by decide +kernel
theorem dX6_goesOn_43 : decode cX6_goesOn 43 = .ok (.istore 5, 2) := by decide +kernel
theorem dX6_goesOn_45 : decode cX6_goesOn 45 = .ok (.iload 5, 2) := by decide +kernel
theorem dX6_goesOn_47 : decode cX6_goesOn 47 = .ok (.iconst (-1), 1) := by decide +kernel
theorem dX6_goesOn_48 : decode cX6_goesOn 48 = .ok (.if_icmp .ne 5, 3) := by decide +kernel
theorem dX6_goesOn_51 : decode cX6_goesOn 51 = .ok (.iconst 3, 1) := by decide +kernel
theorem dX6_goesOn_52 : decode cX6_goesOn 52 = .ok (.ireturn, 1) := by decide +kernel
theorem dX6_goesOn_53 : decode cX6_goesOn 53 = .ok (.aload_n 0, 1) := by decide +kernel
theorem dX6_goesOn_54 : decode cX6_goesOn 54 = .ok (.getfield 7, 3) := by decide +kernel
theorem dX6_goesOn_57 : decode cX6_goesOn 57 = .ok (.iload 4, 2) := by decide +kernel
theorem dX6_goesOn_59 : decode cX6_goesOn 59 = .ok (.bipush 6, 2) := by decide +kernel
theorem dX6_goesOn_61 : decode cX6_goesOn 61 = .ok (.iadd, 1) := by decide +kernel
theorem dX6_goesOn_62 : decode cX6_goesOn 62 = .ok (.aload_n 0, 1) := by decide +kernel
theorem dX6_goesOn_63 : decode cX6_goesOn 63 = .ok (.getfield 7, 3) := by decide +kernel
theorem dX6_goesOn_66 : decode cX6_goesOn 66 = .ok (.iload 4, 2) := by decide +kernel
theorem dX6_goesOn_68 : decode cX6_goesOn 68 = .ok (.iconst 4, 1) := by decide +kernel
theorem dX6_goesOn_69 : decode cX6_goesOn 69 = .ok (.iadd, 1) := by decide +kernel
theorem dX6_goesOn_70 : decode cX6_goesOn 70 = .ok (.iaload, 1) := by decide +kernel
theorem dX6_goesOn_71 : decode cX6_goesOn 71 = .ok (.iconst 3, 1) := by decide +kernel
theorem dX6_goesOn_72 : decode cX6_goesOn 72 = .ok (.if_icmp .ne 13, 3) := by decide +kernel
theorem dX6_goesOn_75 : decode cX6_goesOn 75 = .ok (.iload 5, 2) := by decide +kernel
theorem dX6_goesOn_77 : decode cX6_goesOn 77 = .ok (.iconst 4, 1) := by decide +kernel
theorem dX6_goesOn_78 : decode cX6_goesOn 78 = .ok (.if_icmp .ne 7, 3) := by decide +kernel
theorem dX6_goesOn_81 : decode cX6_goesOn 81 = .ok (.iload_n 2, 1) := by decide +kernel
theorem dX6_goesOn_82 : decode cX6_goesOn 82 = .ok (.goto 13, 3) := by decide +kernel
theorem dX6_goesOn_85 : decode cX6_goesOn 85 = .ok (.aload_n 0, 1) := by decide +kernel
theorem dX6_goesOn_86 : decode cX6_goesOn 86 = .ok (.getfield 7, 3) := by decide +kernel
theorem dX6_goesOn_89 : decode cX6_goesOn 89 = .ok (.iload 4, 2) := by decide +kernel
theorem dX6_goesOn_91 : decode cX6_goesOn 91 = .ok (.bipush 6, 2) := by decide +kernel
theorem dX6_goesOn_93 : decode cX6_goesOn 93 = .ok (.iadd, 1) := by decide +kernel
theorem dX6_goesOn_94 : decode cX6_goesOn 94 = .ok (.iaload, 1) := by decide +kernel
theorem dX6_goesOn_95 : decode cX6_goesOn 95 = .ok (.iastore, 1) := by decide +kernel
theorem dX6_goesOn_96 : decode cX6_goesOn 96 = .ok (.aload_n 0, 1) := by decide +kernel
theorem dX6_goesOn_97 : decode cX6_goesOn 97 = .ok (.iload 4, 2) := by decide +kernel
theorem dX6_goesOn_99 : decode cX6_goesOn 99 = .ok (.iload 5, 2) := by decide +kernel
theorem dX6_goesOn_101 : decode cX6_goesOn 101 = .ok (.invokevirtual 146, 3) := by decide +kernel
theorem dX6_goesOn_104 : decode cX6_goesOn 104 = .ok (.iconst 1, 1) := by decide +kernel
theorem dX6_goesOn_105 : decode cX6_goesOn 105 = .ok (.ireturn, 1) := by decide +kernel
theorem dX6_hasRoom_0 : decode cX6_hasRoom 0 = .ok (.aload_n 0, 1) := by decide +kernel
theorem dX6_hasRoom_1 : decode cX6_hasRoom 1 = .ok (.getfield 7, 3) := by decide +kernel
theorem dX6_hasRoom_4 : decode cX6_hasRoom 4 = .ok (.sipush 298, 3) := by decide +kernel
theorem dX6_hasRoom_7 : decode cX6_hasRoom 7 = .ok (.iaload, 1) := by decide +kernel
theorem dX6_hasRoom_8 : decode cX6_hasRoom 8 = .ok (.bipush 8, 2) := by decide +kernel
theorem dX6_hasRoom_10 : decode cX6_hasRoom 10 = .ok (.if_icmp .ge 5, 3) := by decide +kernel
theorem dX6_hasRoom_13 : decode cX6_hasRoom 13 = .ok (.iconst 1, 1) := by decide +kernel
theorem dX6_hasRoom_14 : decode cX6_hasRoom 14 = .ok (.ireturn, 1) := by decide +kernel
theorem dX6_hasRoom_15 : decode cX6_hasRoom 15 = .ok (.iconst (-1), 1) := by decide +kernel
theorem dX6_hasRoom_16 : decode cX6_hasRoom 16 = .ok (.istore_n 1, 1) := by decide +kernel
theorem dX6_hasRoom_17 : decode cX6_hasRoom 17 = .ok (.iconst 0, 1) := by decide +kernel
theorem dX6_hasRoom_18 : decode cX6_hasRoom 18 = .ok (.istore_n 2, 1) := by decide +kernel
theorem dX6_hasRoom_19 : decode cX6_hasRoom 19 = .ok (.iload_n 2, 1) := by decide +kernel
theorem dX6_hasRoom_20 : decode cX6_hasRoom 20 = .ok (.bipush 8, 2) := by decide +kernel
theorem dX6_hasRoom_22 : decode cX6_hasRoom 22 = .ok (.if_icmp .ge 85, 3) := by decide +kernel
theorem dX6_hasRoom_25 : decode cX6_hasRoom 25 = .ok (.aload_n 0, 1) := by decide +kernel
theorem dX6_hasRoom_26 : decode cX6_hasRoom 26 = .ok (.iload_n 2, 1) := by decide +kernel
theorem dX6_hasRoom_27 : decode cX6_hasRoom 27 = .ok (.invokevirtual 133, 3) := by decide +kernel
theorem dX6_hasRoom_30 : decode cX6_hasRoom 30 = .ok (.istore_n 3, 1) := by decide +kernel
theorem dX6_hasRoom_31 : decode cX6_hasRoom 31 = .ok (.aload_n 0, 1) := by decide +kernel
theorem dX6_hasRoom_32 : decode cX6_hasRoom 32 = .ok (.getfield 7, 3) := by decide +kernel
theorem dX6_hasRoom_35 : decode cX6_hasRoom 35 = .ok (.iload_n 3, 1) := by decide +kernel
theorem dX6_hasRoom_36 : decode cX6_hasRoom 36 = .ok (.iconst 4, 1) := by decide +kernel
theorem dX6_hasRoom_37 : decode cX6_hasRoom 37 = .ok (.iadd, 1) := by decide +kernel
theorem dX6_hasRoom_38 : decode cX6_hasRoom 38 = .ok (.iaload, 1) := by decide +kernel
theorem dX6_hasRoom_39 : decode cX6_hasRoom 39 = .ok (.iconst 1, 1) := by decide +kernel
theorem dX6_hasRoom_40 : decode cX6_hasRoom 40 = .ok (.if_icmp .eq 16, 3) := by decide +kernel
theorem dX6_hasRoom_43 : decode cX6_hasRoom 43 = .ok (.aload_n 0, 1) := by decide +kernel
theorem dX6_hasRoom_44 : decode cX6_hasRoom 44 = .ok (.getfield 7, 3) := by decide +kernel
theorem dX6_hasRoom_47 : decode cX6_hasRoom 47 = .ok (.iload_n 3, 1) := by decide +kernel
theorem dX6_hasRoom_48 : decode cX6_hasRoom 48 = .ok (.iconst 4, 1) := by decide +kernel
theorem dX6_hasRoom_49 : decode cX6_hasRoom 49 = .ok (.iadd, 1) := by decide +kernel
theorem dX6_hasRoom_50 : decode cX6_hasRoom 50 = .ok (.iaload, 1) := by decide +kernel
theorem dX6_hasRoom_51 : decode cX6_hasRoom 51 = .ok (.bipush 6, 2) := by decide +kernel
theorem dX6_hasRoom_53 : decode cX6_hasRoom 53 = .ok (.if_icmp .ne 7, 3) := by decide +kernel
theorem dX6_hasRoom_56 : decode cX6_hasRoom 56 = .ok (.iconst 1, 1) := by decide +kernel
theorem dX6_hasRoom_57 : decode cX6_hasRoom 57 = .ok (.goto 4, 3) := by decide +kernel
theorem dX6_hasRoom_60 : decode cX6_hasRoom 60 = .ok (.iconst 0, 1) := by decide +kernel
theorem dX6_hasRoom_61 : decode cX6_hasRoom 61 = .ok (.istore 4, 2) := by decide +kernel
theorem dX6_hasRoom_63 : decode cX6_hasRoom 63 = .ok (.iload 4, 2) := by decide +kernel
theorem dX6_hasRoom_65 : decode cX6_hasRoom 65 = .ok (.ifCond .eq 34, 3) := by decide +kernel
theorem dX6_hasRoom_68 : decode cX6_hasRoom 68 = .ok (.iload_n 1, 1) := by decide +kernel
theorem dX6_hasRoom_69 : decode cX6_hasRoom 69 = .ok (.ifCond .lt 26, 3) := by decide +kernel
theorem dX6_hasRoom_72 : decode cX6_hasRoom 72 = .ok (.aload_n 0, 1) := by decide +kernel
theorem dX6_hasRoom_73 : decode cX6_hasRoom 73 = .ok (.getfield 7, 3) := by decide +kernel
theorem dX6_hasRoom_76 : decode cX6_hasRoom 76 = .ok (.iload_n 3, 1) := by decide +kernel
theorem dX6_hasRoom_77 : decode cX6_hasRoom 77 = .ok (.iconst 5, 1) := by decide +kernel
theorem dX6_hasRoom_78 : decode cX6_hasRoom 78 = .ok (.iadd, 1) := by decide +kernel
theorem dX6_hasRoom_79 : decode cX6_hasRoom 79 = .ok (.iaload, 1) := by decide +kernel
theorem dX6_hasRoom_80 : decode cX6_hasRoom 80 = .ok (.aload_n 0, 1) := by decide +kernel
theorem dX6_hasRoom_81 : decode cX6_hasRoom 81 = .ok (.getfield 7, 3) := by decide +kernel
theorem dX6_hasRoom_84 : decode cX6_hasRoom 84 = .ok (.aload_n 0, 1) := by decide +kernel
theorem dX6_hasRoom_85 : decode cX6_hasRoom 85 = .ok (.iload_n 1, 1) := by decide +kernel
theorem dX6_hasRoom_86 : decode cX6_hasRoom 86 = .ok (.invokevirtual 133, 3) := by decide +kernel
theorem dX6_hasRoom_89 : decode cX6_hasRoom 89 = .ok (.iconst 5, 1) := by decide +kernel
theorem dX6_hasRoom_90 : decode cX6_hasRoom 90 = .ok (.iadd, 1) := by decide +kernel
theorem dX6_hasRoom_91 : decode cX6_hasRoom 91 = .ok (.iaload, 1) := by decide +kernel
theorem dX6_hasRoom_92 : decode cX6_hasRoom 92 = .ok (.if_icmp .ge 7, 3) := by decide +kernel
theorem dX6_hasRoom_95 : decode cX6_hasRoom 95 = .ok (.iload_n 2, 1) := by decide +kernel
theorem dX6_hasRoom_96 : decode cX6_hasRoom 96 = .ok (.goto 4, 3) := by decide +kernel
theorem dX6_hasRoom_99 : decode cX6_hasRoom 99 = .ok (.iload_n 1, 1) := by decide +kernel
theorem dX6_hasRoom_100 : decode cX6_hasRoom 100 = .ok (.istore_n 1, 1) := by decide +kernel
theorem dX6_hasRoom_101 : decode cX6_hasRoom 101 = .ok (.iinc 2 1, 3) := by decide +kernel
theorem dX6_hasRoom_104 : decode cX6_hasRoom 104 = .ok (.goto (-85), 3) := by decide +kernel
theorem dX6_hasRoom_107 : decode cX6_hasRoom 107 = .ok (.iload_n 1, 1) := by decide +kernel
theorem dX6_hasRoom_108 : decode cX6_hasRoom 108 = .ok (.ifCond .lt 8, 3) := by decide +kernel
theorem dX6_hasRoom_111 : decode cX6_hasRoom 111 = .ok (.aload_n 0, 1) := by decide +kernel
theorem dX6_hasRoom_112 : decode cX6_hasRoom 112 = .ok (.iload_n 1, 1) := by decide +kernel
theorem dX6_hasRoom_113 : decode cX6_hasRoom 113 = .ok (.invokevirtual 140, 3) := by decide +kernel
theorem dX6_hasRoom_116 : decode cX6_hasRoom 116 = .ok (.iload_n 1, 1) := by decide +kernel
theorem dX6_hasRoom_117 : decode cX6_hasRoom 117 = .ok (.ifCond .lt 7, 3) := by decide +kernel
theorem dX6_hasRoom_120 : decode cX6_hasRoom 120 = .ok (.iconst 1, 1) := by decide +kernel
theorem dX6_hasRoom_121 : decode cX6_hasRoom 121 = .ok (.goto 4, 3) := by decide +kernel
theorem dX6_hasRoom_124 : decode cX6_hasRoom 124 = .ok (.iconst 0, 1) := by decide +kernel
theorem dX6_hasRoom_125 : decode cX6_hasRoom 125 = .ok (.ireturn, 1) := by decide +kernel
theorem dX6_asks_0 : decode cX6_asks 0 = .ok (.aload_n 0, 1) := by decide +kernel
theorem dX6_asks_1 : decode cX6_asks 1 = .ok (.invokevirtual 105, 3) := by decide +kernel
theorem dX6_asks_4 : decode cX6_asks 4 = .ok (.aload_n 0, 1) := by decide +kernel
theorem dX6_asks_5 : decode cX6_asks 5 = .ok (.iconst 0, 1) := by decide +kernel
theorem dX6_asks_6 : decode cX6_asks 6 = .ok (.iload_n 1, 1) := by decide +kernel
theorem dX6_asks_7 : decode cX6_asks 7 = .ok (.iload_n 2, 1) := by decide +kernel
theorem dX6_asks_8 : decode cX6_asks 8 = .ok (.iload_n 3, 1) := by decide +kernel
theorem dX6_asks_9 : decode cX6_asks 9 = .ok (.iload 4, 2) := by decide +kernel
theorem dX6_asks_11 : decode cX6_asks 11 = .ok (.invokestatic 108, 3) := by decide +kernel
theorem dX6_asks_14 : decode cX6_asks 14 = .ok (.invokevirtual 112, 3) := by decide +kernel
theorem dX6_asks_17 : decode cX6_asks 17 = .ok (.invokestatic 98, 3) := by decide +kernel
theorem dX6_asks_20 : decode cX6_asks 20 = .ok (.istore 5, 2) := by decide +kernel
theorem dX6_asks_22 : decode cX6_asks 22 = .ok (.iload 5, 2) := by decide +kernel
theorem dX6_asks_24 : decode cX6_asks 24 = .ok (.ifCond .ge 5, 3) := by decide +kernel
theorem dX6_asks_27 : decode cX6_asks 27 = .ok (.iconst 0, 1) := by decide +kernel
theorem dX6_asks_28 : decode cX6_asks 28 = .ok (.ireturn, 1) := by decide +kernel
theorem dX6_asks_29 : decode cX6_asks 29 = .ok (.aload_n 0, 1) := by decide +kernel
theorem dX6_asks_30 : decode cX6_asks 30 = .ok (.getfield 7, 3) := by decide +kernel
theorem dX6_asks_33 : decode cX6_asks 33 = .ok (.bipush 33, 2) := by decide +kernel
theorem dX6_asks_35 : decode cX6_asks 35 = .ok (.bipush 11, 2) := by decide +kernel
theorem dX6_asks_37 : decode cX6_asks 37 = .ok (.iload 5, 2) := by decide +kernel
theorem dX6_asks_39 : decode cX6_asks 39 = .ok (.imul, 1) := by decide +kernel
theorem dX6_asks_40 : decode cX6_asks 40 = .ok (.iadd, 1) := by decide +kernel
theorem dX6_asks_41 : decode cX6_asks 41 = .ok (.bipush 10, 2) := by decide +kernel
theorem dX6_asks_43 : decode cX6_asks 43 = .ok (.iadd, 1) := by decide +kernel
theorem dX6_asks_44 : decode cX6_asks 44 = .ok (.dup2, 1) := by decide +kernel
theorem dX6_asks_45 : decode cX6_asks 45 = .ok (.iaload, 1) := by decide +kernel
theorem dX6_asks_46 : decode cX6_asks 46 = .ok (.iconst 1, 1) := by decide +kernel
theorem dX6_asks_47 : decode cX6_asks 47 = .ok (.iadd, 1) := by decide +kernel
theorem dX6_asks_48 : decode cX6_asks 48 = .ok (.iastore, 1) := by decide +kernel
theorem dX6_asks_49 : decode cX6_asks 49 = .ok (.aload_n 0, 1) := by decide +kernel
theorem dX6_asks_50 : decode cX6_asks 50 = .ok (.getfield 7, 3) := by decide +kernel
theorem dX6_asks_53 : decode cX6_asks 53 = .ok (.bipush 33, 2) := by decide +kernel
theorem dX6_asks_55 : decode cX6_asks 55 = .ok (.bipush 11, 2) := by decide +kernel
theorem dX6_asks_57 : decode cX6_asks 57 = .ok (.iload 5, 2) := by decide +kernel
theorem dX6_asks_59 : decode cX6_asks 59 = .ok (.imul, 1) := by decide +kernel
theorem dX6_asks_60 : decode cX6_asks 60 = .ok (.iadd, 1) := by decide +kernel
theorem dX6_asks_61 : decode cX6_asks 61 = .ok (.bipush 9, 2) := by decide +kernel
theorem dX6_asks_63 : decode cX6_asks 63 = .ok (.iadd, 1) := by decide +kernel
theorem dX6_asks_64 : decode cX6_asks 64 = .ok (.iaload, 1) := by decide +kernel
theorem dX6_asks_65 : decode cX6_asks 65 = .ok (.ireturn, 1) := by decide +kernel
theorem dX6_opens_0 : decode cX6_opens 0 = .ok (.aload_n 0, 1) := by decide +kernel
theorem dX6_opens_1 : decode cX6_opens 1 = .ok (.iload_n 1, 1) := by decide +kernel
theorem dX6_opens_2 : decode cX6_opens 2 = .ok (.iload_n 2, 1) := by decide +kernel
theorem dX6_opens_3 : decode cX6_opens 3 = .ok (.iload_n 3, 1) := by decide +kernel
theorem dX6_opens_4 : decode cX6_opens 4 = .ok (.iload 4, 2) := by decide +kernel
theorem dX6_opens_6 : decode cX6_opens 6 = .ok (.invokevirtual 149, 3) := by decide +kernel
theorem dX6_opens_9 : decode cX6_opens 9 = .ok (.istore 5, 2) := by decide +kernel
theorem dX6_opens_11 : decode cX6_opens 11 = .ok (.iload 5, 2) := by decide +kernel
theorem dX6_opens_13 : decode cX6_opens 13 = .ok (.ifCond .lt 9, 3) := by decide +kernel
theorem dX6_opens_16 : decode cX6_opens 16 = .ok (.aload_n 0, 1) := by decide +kernel
theorem dX6_opens_17 : decode cX6_opens 17 = .ok (.iload 5, 2) := by decide +kernel
theorem dX6_opens_19 : decode cX6_opens 19 = .ok (.invokevirtual 152, 3) := by decide +kernel
theorem dX6_opens_22 : decode cX6_opens 22 = .ok (.iload 5, 2) := by decide +kernel
theorem dX6_opens_24 : decode cX6_opens 24 = .ok (.ifCond .lt 7, 3) := by decide +kernel
theorem dX6_opens_27 : decode cX6_opens 27 = .ok (.iconst 1, 1) := by decide +kernel
theorem dX6_opens_28 : decode cX6_opens 28 = .ok (.goto 12, 3) := by decide +kernel
theorem dX6_opens_31 : decode cX6_opens 31 = .ok (.aload_n 0, 1) := by decide +kernel
theorem dX6_opens_32 : decode cX6_opens 32 = .ok (.iload_n 1, 1) := by decide +kernel
theorem dX6_opens_33 : decode cX6_opens 33 = .ok (.iload_n 2, 1) := by decide +kernel
theorem dX6_opens_34 : decode cX6_opens 34 = .ok (.iload_n 3, 1) := by decide +kernel
theorem dX6_opens_35 : decode cX6_opens 35 = .ok (.iload 4, 2) := by decide +kernel
theorem dX6_opens_37 : decode cX6_opens 37 = .ok (.invokevirtual 155, 3) := by decide +kernel
theorem dX6_opens_40 : decode cX6_opens 40 = .ok (.istore 6, 2) := by decide +kernel
theorem dX6_opens_42 : decode cX6_opens 42 = .ok (.iload 6, 2) := by decide +kernel
theorem dX6_opens_44 : decode cX6_opens 44 = .ok (.iconst 1, 1) := by decide +kernel
theorem dX6_opens_45 : decode cX6_opens 45 = .ok (.if_icmp .eq 14, 3) := by decide +kernel
theorem dX6_opens_48 : decode cX6_opens 48 = .ok (.iload 6, 2) := by decide +kernel
theorem dX6_opens_50 : decode cX6_opens 50 = .ok (.ifCond .ne 7, 3) := by decide +kernel
theorem dX6_opens_53 : decode cX6_opens 53 = .ok (.iconst 0, 1) := by decide +kernel
theorem dX6_opens_54 : decode cX6_opens 54 = .ok (.goto 4, 3) := by decide +kernel
theorem dX6_opens_57 : decode cX6_opens 57 = .ok (.iconst 2, 1) := by decide +kernel
theorem dX6_opens_58 : decode cX6_opens 58 = .ok (.ireturn, 1) := by decide +kernel
theorem dX6_opens_59 : decode cX6_opens 59 = .ok (.aload_n 0, 1) := by decide +kernel
theorem dX6_opens_60 : decode cX6_opens 60 = .ok (.invokevirtual 158, 3) := by decide +kernel
theorem dX6_opens_63 : decode cX6_opens 63 = .ok (.ifCond .ne 5, 3) := by decide +kernel
theorem dX6_opens_66 : decode cX6_opens 66 = .ok (.iconst 4, 1) := by decide +kernel
theorem dX6_opens_67 : decode cX6_opens 67 = .ok (.ireturn, 1) := by decide +kernel
theorem dX6_opens_68 : decode cX6_opens 68 = .ok (.aload_n 0, 1) := by decide +kernel
theorem dX6_opens_69 : decode cX6_opens 69 = .ok (.aload_n 0, 1) := by decide +kernel
theorem dX6_opens_70 : decode cX6_opens 70 = .ok (.getfield 7, 3) := by decide +kernel
theorem dX6_opens_73 : decode cX6_opens 73 = .ok (.sipush 298, 3) := by decide +kernel
theorem dX6_opens_76 : decode cX6_opens 76 = .ok (.iaload, 1) := by decide +kernel
theorem dX6_opens_77 : decode cX6_opens 77 = .ok (.invokevirtual 133, 3) := by decide +kernel
theorem dX6_opens_80 : decode cX6_opens 80 = .ok (.istore 7, 2) := by decide +kernel
theorem dX6_opens_82 : decode cX6_opens 82 = .ok (.aload_n 0, 1) := by decide +kernel
theorem dX6_opens_83 : decode cX6_opens 83 = .ok (.getfield 7, 3) := by decide +kernel
theorem dX6_opens_86 : decode cX6_opens 86 = .ok (.iload 7, 2) := by decide +kernel
theorem dX6_opens_88 : decode cX6_opens 88 = .ok (.iload_n 1, 1) := by decide +kernel
theorem dX6_opens_89 : decode cX6_opens 89 = .ok (.iastore, 1) := by decide +kernel
theorem dX6_opens_90 : decode cX6_opens 90 = .ok (.aload_n 0, 1) := by decide +kernel
theorem dX6_opens_91 : decode cX6_opens 91 = .ok (.getfield 7, 3) := by decide +kernel
theorem dX6_opens_94 : decode cX6_opens 94 = .ok (.iload 7, 2) := by decide +kernel
theorem dX6_opens_96 : decode cX6_opens 96 = .ok (.iconst 1, 1) := by decide +kernel
theorem dX6_opens_97 : decode cX6_opens 97 = .ok (.iadd, 1) := by decide +kernel
theorem dX6_opens_98 : decode cX6_opens 98 = .ok (.iload_n 2, 1) := by decide +kernel
theorem dX6_opens_99 : decode cX6_opens 99 = .ok (.iastore, 1) := by decide +kernel
theorem dX6_opens_100 : decode cX6_opens 100 = .ok (.aload_n 0, 1) := by decide +kernel
theorem dX6_opens_101 : decode cX6_opens 101 = .ok (.getfield 7, 3) := by decide +kernel
theorem dX6_opens_104 : decode cX6_opens 104 = .ok (.iload 7, 2) := by decide +kernel
theorem dX6_opens_106 : decode cX6_opens 106 = .ok (.iconst 2, 1) := by decide +kernel
theorem dX6_opens_107 : decode cX6_opens 107 = .ok (.iadd, 1) := by decide +kernel
theorem dX6_opens_108 : decode cX6_opens 108 = .ok (.iload_n 3, 1) := by decide +kernel
theorem dX6_opens_109 : decode cX6_opens 109 = .ok (.iastore, 1) := by decide +kernel
theorem dX6_opens_110 : decode cX6_opens 110 = .ok (.aload_n 0, 1) := by decide +kernel
theorem dX6_opens_111 : decode cX6_opens 111 = .ok (.getfield 7, 3) := by decide +kernel
theorem dX6_opens_114 : decode cX6_opens 114 = .ok (.iload 7, 2) := by decide +kernel
theorem dX6_opens_116 : decode cX6_opens 116 = .ok (.iconst 3, 1) := by decide +kernel
theorem dX6_opens_117 : decode cX6_opens 117 = .ok (.iadd, 1) := by decide +kernel
theorem dX6_opens_118 : decode cX6_opens 118 = .ok (.iload 4, 2) := by decide +kernel
theorem dX6_opens_120 : decode cX6_opens 120 = .ok (.iastore, 1) := by decide +kernel
theorem dX6_opens_121 : decode cX6_opens 121 = .ok (.aload_n 0, 1) := by decide +kernel
theorem dX6_opens_122 : decode cX6_opens 122 = .ok (.getfield 7, 3) := by decide +kernel
theorem dX6_opens_125 : decode cX6_opens 125 = .ok (.iload 7, 2) := by decide +kernel
theorem dX6_opens_127 : decode cX6_opens 127 = .ok (.bipush 6, 2) := by decide +kernel
theorem dX6_opens_129 : decode cX6_opens 129 = .ok (.iadd, 1) := by decide +kernel
theorem dX6_opens_130 : decode cX6_opens 130 = .ok (.iconst (-1), 1) := by decide +kernel
theorem dX6_opens_131 : decode cX6_opens 131 = .ok (.iastore, 1) := by decide +kernel
theorem dX6_opens_132 : decode cX6_opens 132 = .ok (.aload_n 0, 1) := by decide +kernel
theorem dX6_opens_133 : decode cX6_opens 133 = .ok (.iload 7, 2) := by decide +kernel
theorem dX6_opens_135 : decode cX6_opens 135 = .ok (.iload 4, 2) := by decide +kernel
theorem dX6_opens_137 : decode cX6_opens 137 = .ok (.ifCond .ne 7, 3) := by decide +kernel
theorem dX6_opens_140 : decode cX6_opens 140 = .ok (.iconst 1, 1) := by decide +kernel
theorem dX6_opens_141 : decode cX6_opens 141 = .ok (.goto 5, 3) := by decide +kernel
theorem dX6_opens_144 : decode cX6_opens 144 = .ok (.bipush 6, 2) := by decide +kernel
theorem dX6_opens_146 : decode cX6_opens 146 = .ok (.invokevirtual 146, 3) := by decide +kernel
theorem dX6_opens_149 : decode cX6_opens 149 = .ok (.aload_n 0, 1) := by decide +kernel
theorem dX6_opens_150 : decode cX6_opens 150 = .ok (.getfield 7, 3) := by decide +kernel
theorem dX6_opens_153 : decode cX6_opens 153 = .ok (.sipush 298, 3) := by decide +kernel
theorem dX6_opens_156 : decode cX6_opens 156 = .ok (.dup2, 1) := by decide +kernel
theorem dX6_opens_157 : decode cX6_opens 157 = .ok (.iaload, 1) := by decide +kernel
theorem dX6_opens_158 : decode cX6_opens 158 = .ok (.iconst 1, 1) := by decide +kernel
theorem dX6_opens_159 : decode cX6_opens 159 = .ok (.iadd, 1) := by decide +kernel
theorem dX6_opens_160 : decode cX6_opens 160 = .ok (.iastore, 1) := by decide +kernel
theorem dX6_opens_161 : decode cX6_opens 161 = .ok (.iconst 1, 1) := by decide +kernel
theorem dX6_opens_162 : decode cX6_opens 162 = .ok (.ireturn, 1) := by decide +kernel
theorem dX6_goes_0 : decode cX6_goes 0 = .ok (.aload_n 0, 1) := by decide +kernel
theorem dX6_goes_1 : decode cX6_goes 1 = .ok (.iload_n 1, 1) := by decide +kernel
theorem dX6_goes_2 : decode cX6_goes 2 = .ok (.iload_n 2, 1) := by decide +kernel
theorem dX6_goes_3 : decode cX6_goes 3 = .ok (.iload_n 3, 1) := by decide +kernel
theorem dX6_goes_4 : decode cX6_goes 4 = .ok (.iload 4, 2) := by decide +kernel
theorem dX6_goes_6 : decode cX6_goes 6 = .ok (.invokevirtual 162, 3) := by decide +kernel
theorem dX6_goes_9 : decode cX6_goes 9 = .ok (.istore 6, 2) := by decide +kernel
theorem dX6_goes_11 : decode cX6_goes 11 = .ok (.iload 6, 2) := by decide +kernel
theorem dX6_goes_13 : decode cX6_goes 13 = .ok (.ifCond .lt 32, 3) := by decide +kernel
theorem dX6_goes_16 : decode cX6_goes 16 = .ok (.aload_n 0, 1) := by decide +kernel
theorem dX6_goes_17 : decode cX6_goes 17 = .ok (.iload 6, 2) := by decide +kernel
theorem dX6_goes_19 : decode cX6_goes 19 = .ok (.aload_n 0, 1) := by decide +kernel
theorem dX6_goes_20 : decode cX6_goes 20 = .ok (.getfield 7, 3) := by decide +kernel
theorem dX6_goes_23 : decode cX6_goes 23 = .ok (.aload_n 0, 1) := by decide +kernel
theorem dX6_goes_24 : decode cX6_goes 24 = .ok (.iload 6, 2) := by decide +kernel
theorem dX6_goes_26 : decode cX6_goes 26 = .ok (.invokevirtual 133, 3) := by decide +kernel
theorem dX6_goes_29 : decode cX6_goes 29 = .ok (.iaload, 1) := by decide +kernel
theorem dX6_goes_30 : decode cX6_goes 30 = .ok (.iload_n 1, 1) := by decide +kernel
theorem dX6_goes_31 : decode cX6_goes 31 = .ok (.if_icmp .ne 7, 3) := by decide +kernel
theorem dX6_goes_34 : decode cX6_goes 34 = .ok (.iconst 0, 1) := by decide +kernel
theorem dX6_goes_35 : decode cX6_goes 35 = .ok (.goto 4, 3) := by decide +kernel
theorem dX6_goes_38 : decode cX6_goes 38 = .ok (.iconst 1, 1) := by decide +kernel
theorem dX6_goes_39 : decode cX6_goes 39 = .ok (.iload 5, 2) := by decide +kernel
theorem dX6_goes_41 : decode cX6_goes 41 = .ok (.invokevirtual 165, 3) := by decide +kernel
theorem dX6_goes_44 : decode cX6_goes 44 = .ok (.ireturn, 1) := by decide +kernel
theorem dX6_goes_45 : decode cX6_goes 45 = .ok (.iload 5, 2) := by decide +kernel
theorem dX6_goes_47 : decode cX6_goes 47 = .ok (.iload 4, 2) := by decide +kernel
theorem dX6_goes_49 : decode cX6_goes 49 = .ok (.ifCond .ne 7, 3) := by decide +kernel
theorem dX6_goes_52 : decode cX6_goes 52 = .ok (.iconst 0, 1) := by decide +kernel
theorem dX6_goes_53 : decode cX6_goes 53 = .ok (.goto 4, 3) := by decide +kernel
theorem dX6_goes_56 : decode cX6_goes 56 = .ok (.iconst 2, 1) := by decide +kernel
theorem dX6_goes_57 : decode cX6_goes 57 = .ok (.if_icmp .ne 15, 3) := by decide +kernel
theorem dX6_goes_60 : decode cX6_goes 60 = .ok (.aload_n 0, 1) := by decide +kernel
theorem dX6_goes_61 : decode cX6_goes 61 = .ok (.iload_n 1, 1) := by decide +kernel
theorem dX6_goes_62 : decode cX6_goes 62 = .ok (.iload_n 2, 1) := by decide +kernel
theorem dX6_goes_63 : decode cX6_goes 63 = .ok (.iload_n 3, 1) := by decide +kernel
theorem dX6_goes_64 : decode cX6_goes 64 = .ok (.iload 4, 2) := by decide +kernel
theorem dX6_goes_66 : decode cX6_goes 66 = .ok (.invokevirtual 169, 3) := by decide +kernel
theorem dX6_goes_69 : decode cX6_goes 69 = .ok (.goto 4, 3) := by decide +kernel
theorem dX6_goes_72 : decode cX6_goes 72 = .ok (.iconst 3, 1) := by decide +kernel
theorem dX6_goes_73 : decode cX6_goes 73 = .ok (.ireturn, 1) := by decide +kernel
theorem dX6_letter_0 : decode cX6_letter 0 = .ok (.iload_n 1, 1) := by decide +kernel
theorem dX6_letter_1 : decode cX6_letter 1 = .ok (.iload_n 2, 1) := by decide +kernel
theorem dX6_letter_2 : decode cX6_letter 2 = .ok (.iload_n 3, 1) := by decide +kernel
theorem dX6_letter_3 : decode cX6_letter 3 = .ok (.iload 4, 2) := by decide +kernel
theorem dX6_letter_5 : decode cX6_letter 5 = .ok (.invokestatic 101, 3) := by decide +kernel
theorem dX6_letter_8 : decode cX6_letter 8 = .ok (.ifCond .eq 13, 3) := by decide +kernel
theorem dX6_letter_11 : decode cX6_letter 11 = .ok (.iload 5, 2) := by decide +kernel
theorem dX6_letter_13 : decode cX6_letter 13 = .ok (.iconst 0, 1) := by decide +kernel
theorem dX6_letter_14 : decode cX6_letter 14 = .ok (.iconst 4, 1) := by decide +kernel
theorem dX6_letter_15 : decode cX6_letter 15 = .ok (.invokestatic 39, 3) := by decide +kernel
theorem dX6_letter_18 : decode cX6_letter 18 = .ok (.ifCond .ne 8, 3) := by decide +kernel
theorem dX6_letter_21 : decode cX6_letter 21 = .ok (.aload_n 0, 1) := by decide +kernel
theorem dX6_letter_22 : decode cX6_letter 22 = .ok (.invokevirtual 47, 3) := by decide +kernel
theorem dX6_letter_25 : decode cX6_letter 25 = .ok (.ireturn, 1) := by decide +kernel
theorem dX6_letter_26 : decode cX6_letter 26 = .ok (.aload_n 0, 1) := by decide +kernel
theorem dX6_letter_27 : decode cX6_letter 27 = .ok (.invokevirtual 50, 3) := by decide +kernel
theorem dX6_letter_30 : decode cX6_letter 30 = .ok (.aload_n 0, 1) := by decide +kernel
theorem dX6_letter_31 : decode cX6_letter 31 = .ok (.iload_n 1, 1) := by decide +kernel
theorem dX6_letter_32 : decode cX6_letter 32 = .ok (.iload_n 2, 1) := by decide +kernel
theorem dX6_letter_33 : decode cX6_letter 33 = .ok (.iload_n 3, 1) := by decide +kernel
theorem dX6_letter_34 : decode cX6_letter 34 = .ok (.iload 4, 2) := by decide +kernel
theorem dX6_letter_36 : decode cX6_letter 36 = .ok (.iload 5, 2) := by decide +kernel
theorem dX6_letter_38 : decode cX6_letter 38 = .ok (.invokevirtual 172, 3) := by decide +kernel
theorem dX6_letter_41 : decode cX6_letter 41 = .ok (.istore 6, 2) := by decide +kernel
theorem dX6_letter_43 : decode cX6_letter 43 = .ok (.aload_n 0, 1) := by decide +kernel
theorem dX6_letter_44 : decode cX6_letter 44 = .ok (.getfield 7, 3) := by decide +kernel
theorem dX6_letter_47 : decode cX6_letter 47 = .ok (.sipush 395, 3) := by decide +kernel
theorem dX6_letter_50 : decode cX6_letter 50 = .ok (.iload 6, 2) := by decide +kernel
theorem dX6_letter_52 : decode cX6_letter 52 = .ok (.iconst 1, 1) := by decide +kernel
theorem dX6_letter_53 : decode cX6_letter 53 = .ok (.if_icmp .ne 7, 3) := by decide +kernel
theorem dX6_letter_56 : decode cX6_letter 56 = .ok (.iconst 0, 1) := by decide +kernel
theorem dX6_letter_57 : decode cX6_letter 57 = .ok (.goto 14, 3) := by decide +kernel
theorem dX6_letter_60 : decode cX6_letter 60 = .ok (.iload 6, 2) := by decide +kernel
theorem dX6_letter_62 : decode cX6_letter 62 = .ok (.ifCond .ne 7, 3) := by decide +kernel
theorem dX6_letter_65 : decode cX6_letter 65 = .ok (.iconst 1, 1) := by decide +kernel
theorem dX6_letter_66 : decode cX6_letter 66 = .ok (.goto 5, 3) := by decide +kernel
theorem dX6_letter_69 : decode cX6_letter 69 = .ok (.iload 6, 2) := by decide +kernel
theorem dX6_letter_71 : decode cX6_letter 71 = .ok (.iadd, 1) := by decide +kernel
theorem dX6_letter_72 : decode cX6_letter 72 = .ok (.dup2, 1) := by decide +kernel
theorem dX6_letter_73 : decode cX6_letter 73 = .ok (.iaload, 1) := by decide +kernel
theorem dX6_letter_74 : decode cX6_letter 74 = .ok (.iconst 1, 1) := by decide +kernel
theorem dX6_letter_75 : decode cX6_letter 75 = .ok (.iadd, 1) := by decide +kernel
theorem dX6_letter_76 : decode cX6_letter 76 = .ok (.iastore, 1) := by decide +kernel
theorem dX6_letter_77 : decode cX6_letter 77 = .ok (.iload 6, 2) := by decide +kernel
theorem dX6_letter_79 : decode cX6_letter 79 = .ok (.ireturn, 1) := by decide +kernel
theorem dX6_announces_0 : decode cX6_announces 0 = .ok (.iload_n 1, 1) := by decide +kernel
theorem dX6_announces_1 : decode cX6_announces 1 = .ok (.iconst 0, 1) := by decide +kernel
theorem dX6_announces_2 : decode cX6_announces 2 = .ok (.aload_n 0, 1) := by decide +kernel
theorem dX6_announces_3 : decode cX6_announces 3 = .ok (.getfield 7, 3) := by decide +kernel
theorem dX6_announces_6 : decode cX6_announces 6 = .ok (.sipush 298, 3) := by decide +kernel
theorem dX6_announces_9 : decode cX6_announces 9 = .ok (.iaload, 1) := by decide +kernel
theorem dX6_announces_10 : decode cX6_announces 10 = .ok (.iconst 1, 1) := by decide +kernel
theorem dX6_announces_11 : decode cX6_announces 11 = .ok (.isub, 1) := by decide +kernel
theorem dX6_announces_12 : decode cX6_announces 12 = .ok (.invokestatic 39, 3) := by decide +kernel
theorem dX6_announces_15 : decode cX6_announces 15 = .ok (.ifCond .eq 22, 3) := by decide +kernel
theorem dX6_announces_18 : decode cX6_announces 18 = .ok (.iload_n 2, 1) := by decide +kernel
theorem dX6_announces_19 : decode cX6_announces 19 = .ok (.iconst 0, 1) := by decide +kernel
theorem dX6_announces_20 : decode cX6_announces 20 = .ok (.iconst 1, 1) := by decide +kernel
theorem dX6_announces_21 : decode cX6_announces 21 = .ok (.invokestatic 39, 3) := by decide +kernel
theorem dX6_announces_24 : decode cX6_announces 24 = .ok (.ifCond .eq 13, 3) := by decide +kernel
theorem dX6_announces_27 : decode cX6_announces 27 = .ok (.iload_n 3, 1) := by decide +kernel
theorem dX6_announces_28 : decode cX6_announces 28 = .ok (.iconst 0, 1) := by decide +kernel
theorem dX6_announces_29 : decode cX6_announces 29 = .ok (.bipush 15, 2) := by decide +kernel
theorem dX6_announces_31 : decode cX6_announces 31 = .ok (.invokestatic 39, 3) := by decide +kernel
theorem dX6_announces_34 : decode cX6_announces 34 = .ok (.ifCond .ne 8, 3) := by decide +kernel
theorem dX6_announces_37 : decode cX6_announces 37 = .ok (.aload_n 0, 1) := by decide +kernel
theorem dX6_announces_38 : decode cX6_announces 38 = .ok (.invokevirtual 47, 3) := by decide +kernel
theorem dX6_announces_41 : decode cX6_announces 41 = .ok (.ireturn, 1) := by decide +kernel
theorem dX6_announces_42 : decode cX6_announces 42 = .ok (.aload_n 0, 1) := by decide +kernel
theorem dX6_announces_43 : decode cX6_announces 43 = .ok (.iload_n 1, 1) := by decide +kernel
theorem dX6_announces_44 : decode cX6_announces 44 = .ok (.invokevirtual 133, 3) := by decide +kernel
theorem dX6_announces_47 : decode cX6_announces 47 = .ok (.istore 4, 2) := by decide +kernel
theorem dX6_announces_49 : decode cX6_announces 49 = .ok (.aload_n 0, 1) := by decide +kernel
theorem dX6_announces_50 : decode cX6_announces 50 = .ok (.getfield 7, 3) := by decide +kernel
theorem dX6_announces_53 : decode cX6_announces 53 = .ok (.iload 4, 2) := by decide +kernel
theorem dX6_announces_55 : decode cX6_announces 55 = .ok (.iconst 4, 1) := by decide +kernel
theorem dX6_announces_56 : decode cX6_announces 56 = .ok (.iadd, 1) := by decide +kernel
theorem dX6_announces_57 : decode cX6_announces 57 = .ok (.iaload, 1) := by decide +kernel
theorem dX6_announces_58 : decode cX6_announces 58 = .ok (.iconst 3, 1) := by decide +kernel
theorem dX6_announces_59 : decode cX6_announces 59 = .ok (.if_icmp .eq 22, 3) := by decide +kernel
theorem dX6_announces_62 : decode cX6_announces 62 = .ok (.aload_n 0, 1) := by decide +kernel
theorem dX6_announces_63 : decode cX6_announces 63 = .ok (.getfield 7, 3) := by decide +kernel
theorem dX6_announces_66 : decode cX6_announces 66 = .ok (.iload 4, 2) := by decide +kernel
theorem dX6_announces_68 : decode cX6_announces 68 = .ok (.iconst 4, 1) := by decide +kernel
theorem dX6_announces_69 : decode cX6_announces 69 = .ok (.iadd, 1) := by decide +kernel
theorem dX6_announces_70 : decode cX6_announces 70 = .ok (.iaload, 1) := by decide +kernel
theorem dX6_announces_71 : decode cX6_announces 71 = .ok (.bipush 7, 2) := by decide +kernel
theorem dX6_announces_73 : decode cX6_announces 73 = .ok (.if_icmp .eq 8, 3) := by decide +kernel
theorem dX6_announces_76 : decode cX6_announces 76 = .ok (.aload_n 0, 1) := by decide +kernel
theorem dX6_announces_77 : decode cX6_announces 77 = .ok (.invokevirtual 35, 3) := by decide +kernel
theorem dX6_announces_80 : decode cX6_announces 80 = .ok (.ireturn, 1) := by decide +kernel
theorem dX6_announces_81 : decode cX6_announces 81 = .ok (.aload_n 0, 1) := by decide +kernel
theorem dX6_announces_82 : decode cX6_announces 82 = .ok (.getfield 7, 3) := by decide +kernel
theorem dX6_announces_85 : decode cX6_announces 85 = .ok (.sipush 355, 3) := by decide +kernel
theorem dX6_announces_88 : decode cX6_announces 88 = .ok (.iaload, 1) := by decide +kernel
theorem dX6_announces_89 : decode cX6_announces 89 = .ok (.bipush 6, 2) := by decide +kernel
theorem dX6_announces_91 : decode cX6_announces 91 = .ok (.if_icmp .ne 8, 3) := by decide +kernel
theorem dX6_announces_94 : decode cX6_announces 94 = .ok (.aload_n 0, 1) := by decide +kernel
theorem dX6_announces_95 : decode cX6_announces 95 = .ok (.invokevirtual 53, 3) := by decide +kernel
theorem dX6_announces_98 : decode cX6_announces 98 = .ok (.ireturn, 1) := by decide +kernel
theorem dX6_announces_99 : decode cX6_announces 99 = .ok (.aload_n 0, 1) := by decide +kernel
theorem dX6_announces_100 : decode cX6_announces 100 = .ok (.invokevirtual 50, 3) := by decide +kernel
theorem dX6_announces_103 : decode cX6_announces 103 = .ok (.sipush 356, 3) := by decide +kernel
theorem dX6_announces_106 : decode cX6_announces 106 = .ok (.iconst 5, 1) := by decide +kernel
theorem dX6_announces_107 : decode cX6_announces 107 = .ok (.aload_n 0, 1) := by decide +kernel
theorem dX6_announces_108 : decode cX6_announces 108 = .ok (.getfield 7, 3) := by decide +kernel
theorem dX6_announces_111 : decode cX6_announces 111 = .ok (.sipush 355, 3) := by decide +kernel
theorem dX6_announces_114 : decode cX6_announces 114 = .ok (.iaload, 1) := by decide +kernel
theorem dX6_announces_115 : decode cX6_announces 115 = .ok (.imul, 1) := by decide +kernel
theorem dX6_announces_116 : decode cX6_announces 116 = .ok (.iadd, 1) := by decide +kernel
theorem dX6_announces_117 : decode cX6_announces 117 = .ok (.istore 5, 2) := by decide +kernel
theorem dX6_announces_119 : decode cX6_announces 119 = .ok (.aload_n 0, 1) := by decide +kernel
theorem dX6_announces_120 : decode cX6_announces 120 = .ok (.getfield 7, 3) := by decide +kernel
theorem dX6_announces_123 : decode cX6_announces 123 = .ok (.iload 5, 2) := by decide +kernel
theorem dX6_announces_125 : decode cX6_announces 125 = .ok (.aload_n 0, 1) := by decide +kernel
theorem dX6_announces_126 : decode cX6_announces 126 = .ok (.getfield 7, 3) := by decide +kernel
theorem dX6_announces_129 : decode cX6_announces 129 = .ok (.iload 4, 2) := by decide +kernel
theorem dX6_announces_131 : decode cX6_announces 131 = .ok (.iconst 1, 1) := by decide +kernel
theorem dX6_announces_132 : decode cX6_announces 132 = .ok (.iadd, 1) := by decide +kernel
theorem dX6_announces_133 : decode cX6_announces 133 = .ok (.iload_n 2, 1) := by decide +kernel
theorem dX6_announces_134 : decode cX6_announces 134 = .ok (.isub, 1) := by decide +kernel
theorem dX6_announces_135 : decode cX6_announces 135 = .ok (.iaload, 1) := by decide +kernel
theorem dX6_announces_136 : decode cX6_announces 136 = .ok (.iastore, 1) := by decide +kernel
theorem dX6_announces_137 : decode cX6_announces 137 = .ok (.aload_n 0, 1) := by decide +kernel
theorem dX6_announces_138 : decode cX6_announces 138 = .ok (.getfield 7, 3) := by decide +kernel
theorem dX6_announces_141 : decode cX6_announces 141 = .ok (.iload 5, 2) := by decide +kernel
theorem dX6_announces_143 : decode cX6_announces 143 = .ok (.iconst 1, 1) := by decide +kernel
theorem dX6_announces_144 : decode cX6_announces 144 = .ok (.iadd, 1) := by decide +kernel
theorem dX6_announces_145 : decode cX6_announces 145 = .ok (.aload_n 0, 1) := by decide +kernel
theorem dX6_announces_146 : decode cX6_announces 146 = .ok (.getfield 7, 3) := by decide +kernel
theorem dX6_announces_149 : decode cX6_announces 149 = .ok (.iload 4, 2) := by decide +kernel
theorem dX6_announces_151 : decode cX6_announces 151 = .ok (.iload_n 2, 1) := by decide +kernel
theorem dX6_announces_152 : decode cX6_announces 152 = .ok (.iadd, 1) := by decide +kernel
theorem dX6_announces_153 : decode cX6_announces 153 = .ok (.iaload, 1) := by decide +kernel
theorem dX6_announces_154 : decode cX6_announces 154 = .ok (.iastore, 1) := by decide +kernel
theorem dX6_announces_155 : decode cX6_announces 155 = .ok (.aload_n 0, 1) := by decide +kernel
theorem dX6_announces_156 : decode cX6_announces 156 = .ok (.getfield 7, 3) := by decide +kernel
theorem dX6_announces_159 : decode cX6_announces 159 = .ok (.iload 5, 2) := by decide +kernel
theorem dX6_announces_161 : decode cX6_announces 161 = .ok (.iconst 2, 1) := by decide +kernel
theorem dX6_announces_162 : decode cX6_announces 162 = .ok (.iadd, 1) := by decide +kernel
theorem dX6_announces_163 : decode cX6_announces 163 = .ok (.iload_n 3, 1) := by decide +kernel
theorem dX6_announces_164 : decode cX6_announces 164 = .ok (.iastore, 1) := by decide +kernel
theorem dX6_announces_165 : decode cX6_announces 165 = .ok (.aload_n 0, 1) := by decide +kernel
theorem dX6_announces_166 : decode cX6_announces 166 = .ok (.getfield 7, 3) := by decide +kernel
theorem dX6_announces_169 : decode cX6_announces 169 = .ok (.iload 5, 2) := by decide +kernel
theorem dX6_announces_171 : decode cX6_announces 171 = .ok (.iconst 3, 1) := by decide +kernel
theorem dX6_announces_172 : decode cX6_announces 172 = .ok (.iadd, 1) := by decide +kernel
theorem dX6_announces_173 : decode cX6_announces 173 = .ok (.aload_n 0, 1) := by decide +kernel
theorem dX6_announces_174 : decode cX6_announces 174 = .ok (.getfield 7, 3) := by decide +kernel
theorem dX6_announces_177 : decode cX6_announces 177 = .ok (.iload 4, 2) := by decide +kernel
theorem dX6_announces_179 : decode cX6_announces 179 = .ok (.iconst 3, 1) := by decide +kernel
theorem dX6_announces_180 : decode cX6_announces 180 = .ok (.iadd, 1) := by decide +kernel
theorem dX6_announces_181 : decode cX6_announces 181 = .ok (.iaload, 1) := by decide +kernel
theorem dX6_announces_182 : decode cX6_announces 182 = .ok (.iastore, 1) := by decide +kernel
theorem dX6_announces_183 : decode cX6_announces 183 = .ok (.aload_n 0, 1) := by decide +kernel
theorem dX6_announces_184 : decode cX6_announces 184 = .ok (.getfield 7, 3) := by decide +kernel
theorem dX6_announces_187 : decode cX6_announces 187 = .ok (.iload 5, 2) := by decide +kernel
theorem dX6_announces_189 : decode cX6_announces 189 = .ok (.iconst 4, 1) := by decide +kernel
theorem dX6_announces_190 : decode cX6_announces 190 = .ok (.iadd, 1) := by decide +kernel
theorem dX6_announces_191 : decode cX6_announces 191 = .ok (.aload_n 0, 1) := by decide +kernel
theorem dX6_announces_192 : decode cX6_announces 192 = .ok (.getfield 7, 3) := by decide +kernel
theorem dX6_announces_195 : decode cX6_announces 195 = .ok (.sipush 394, 3) := by decide +kernel
theorem dX6_announces_198 : decode cX6_announces 198 = .ok (.iaload, 1) := by decide +kernel
theorem dX6_announces_199 : decode cX6_announces 199 = .ok (.bipush 10, 2) := by decide +kernel
theorem dX6_announces_201 : decode cX6_announces 201 = .ok (.iadd, 1) := by decide +kernel
theorem dX6_announces_202 : decode cX6_announces 202 = .ok (.iastore, 1) := by decide +kernel
theorem dX6_announces_203 : decode cX6_announces 203 = .ok (.aload_n 0, 1) := by decide +kernel
theorem dX6_announces_204 : decode cX6_announces 204 = .ok (.getfield 7, 3) := by decide +kernel
theorem dX6_announces_207 : decode cX6_announces 207 = .ok (.sipush 355, 3) := by decide +kernel
theorem dX6_announces_210 : decode cX6_announces 210 = .ok (.dup2, 1) := by decide +kernel
theorem dX6_announces_211 : decode cX6_announces 211 = .ok (.iaload, 1) := by decide +kernel
theorem dX6_announces_212 : decode cX6_announces 212 = .ok (.iconst 1, 1) := by decide +kernel
theorem dX6_announces_213 : decode cX6_announces 213 = .ok (.iadd, 1) := by decide +kernel
theorem dX6_announces_214 : decode cX6_announces 214 = .ok (.iastore, 1) := by decide +kernel
theorem dX6_announces_215 : decode cX6_announces 215 = .ok (.aload_n 0, 1) := by decide +kernel
theorem dX6_announces_216 : decode cX6_announces 216 = .ok (.getfield 7, 3) := by decide +kernel
theorem dX6_announces_219 : decode cX6_announces 219 = .ok (.sipush 355, 3) := by decide +kernel
theorem dX6_announces_222 : decode cX6_announces 222 = .ok (.iaload, 1) := by decide +kernel
theorem dX6_announces_223 : decode cX6_announces 223 = .ok (.ireturn, 1) := by decide +kernel
theorem dX6_ticks_0 : decode cX6_ticks 0 = .ok (.iload_n 1, 1) := by decide +kernel
theorem dX6_ticks_1 : decode cX6_ticks 1 = .ok (.iconst 1, 1) := by decide +kernel
theorem dX6_ticks_2 : decode cX6_ticks 2 = .ok (.bipush 100, 2) := by decide +kernel
theorem dX6_ticks_4 : decode cX6_ticks 4 = .ok (.invokestatic 39, 3) := by decide +kernel
theorem dX6_ticks_7 : decode cX6_ticks 7 = .ok (.ifCond .ne 8, 3) := by decide +kernel
theorem dX6_ticks_10 : decode cX6_ticks 10 = .ok (.aload_n 0, 1) := by decide +kernel
theorem dX6_ticks_11 : decode cX6_ticks 11 = .ok (.invokevirtual 47, 3) := by decide +kernel
theorem dX6_ticks_14 : decode cX6_ticks 14 = .ok (.ireturn, 1) := by decide +kernel
theorem dX6_ticks_15 : decode cX6_ticks 15 = .ok (.aload_n 0, 1) := by decide +kernel
theorem dX6_ticks_16 : decode cX6_ticks 16 = .ok (.invokevirtual 50, 3) := by decide +kernel
theorem dX6_ticks_19 : decode cX6_ticks 19 = .ok (.aload_n 0, 1) := by decide +kernel
theorem dX6_ticks_20 : decode cX6_ticks 20 = .ok (.getfield 7, 3) := by decide +kernel
theorem dX6_ticks_23 : decode cX6_ticks 23 = .ok (.sipush 394, 3) := by decide +kernel
theorem dX6_ticks_26 : decode cX6_ticks 26 = .ok (.dup2, 1) := by decide +kernel
theorem dX6_ticks_27 : decode cX6_ticks 27 = .ok (.iaload, 1) := by decide +kernel
theorem dX6_ticks_28 : decode cX6_ticks 28 = .ok (.iload_n 1, 1) := by decide +kernel
theorem dX6_ticks_29 : decode cX6_ticks 29 = .ok (.iadd, 1) := by decide +kernel
theorem dX6_ticks_30 : decode cX6_ticks 30 = .ok (.iastore, 1) := by decide +kernel
theorem dX6_ticks_31 : decode cX6_ticks 31 = .ok (.aload_n 0, 1) := by decide +kernel
theorem dX6_ticks_32 : decode cX6_ticks 32 = .ok (.getfield 7, 3) := by decide +kernel
theorem dX6_ticks_35 : decode cX6_ticks 35 = .ok (.sipush 298, 3) := by decide +kernel
theorem dX6_ticks_38 : decode cX6_ticks 38 = .ok (.iaload, 1) := by decide +kernel
theorem dX6_ticks_39 : decode cX6_ticks 39 = .ok (.iconst 1, 1) := by decide +kernel
theorem dX6_ticks_40 : decode cX6_ticks 40 = .ok (.isub, 1) := by decide +kernel
theorem dX6_ticks_41 : decode cX6_ticks 41 = .ok (.istore_n 2, 1) := by decide +kernel
theorem dX6_ticks_42 : decode cX6_ticks 42 = .ok (.iload_n 2, 1) := by decide +kernel
theorem dX6_ticks_43 : decode cX6_ticks 43 = .ok (.ifCond .lt 49, 3) := by decide +kernel
theorem dX6_ticks_46 : decode cX6_ticks 46 = .ok (.aload_n 0, 1) := by decide +kernel
theorem dX6_ticks_47 : decode cX6_ticks 47 = .ok (.getfield 7, 3) := by decide +kernel
theorem dX6_ticks_50 : decode cX6_ticks 50 = .ok (.aload_n 0, 1) := by decide +kernel
theorem dX6_ticks_51 : decode cX6_ticks 51 = .ok (.iload_n 2, 1) := by decide +kernel
theorem dX6_ticks_52 : decode cX6_ticks 52 = .ok (.invokevirtual 133, 3) := by decide +kernel
theorem dX6_ticks_55 : decode cX6_ticks 55 = .ok (.iconst 5, 1) := by decide +kernel
theorem dX6_ticks_56 : decode cX6_ticks 56 = .ok (.iadd, 1) := by decide +kernel
theorem dX6_ticks_57 : decode cX6_ticks 57 = .ok (.iaload, 1) := by decide +kernel
theorem dX6_ticks_58 : decode cX6_ticks 58 = .ok (.aload_n 0, 1) := by decide +kernel
theorem dX6_ticks_59 : decode cX6_ticks 59 = .ok (.getfield 7, 3) := by decide +kernel
theorem dX6_ticks_62 : decode cX6_ticks 62 = .ok (.sipush 394, 3) := by decide +kernel
theorem dX6_ticks_65 : decode cX6_ticks 65 = .ok (.iaload, 1) := by decide +kernel
theorem dX6_ticks_66 : decode cX6_ticks 66 = .ok (.if_icmp .gt 20, 3) := by decide +kernel
theorem dX6_ticks_69 : decode cX6_ticks 69 = .ok (.aload_n 0, 1) := by decide +kernel
theorem dX6_ticks_70 : decode cX6_ticks 70 = .ok (.iload_n 2, 1) := by decide +kernel
theorem dX6_ticks_71 : decode cX6_ticks 71 = .ok (.invokevirtual 140, 3) := by decide +kernel
theorem dX6_ticks_74 : decode cX6_ticks 74 = .ok (.aload_n 0, 1) := by decide +kernel
theorem dX6_ticks_75 : decode cX6_ticks 75 = .ok (.getfield 7, 3) := by decide +kernel
theorem dX6_ticks_78 : decode cX6_ticks 78 = .ok (.sipush 400, 3) := by decide +kernel
theorem dX6_ticks_81 : decode cX6_ticks 81 = .ok (.dup2, 1) := by decide +kernel
theorem dX6_ticks_82 : decode cX6_ticks 82 = .ok (.iaload, 1) := by decide +kernel
theorem dX6_ticks_83 : decode cX6_ticks 83 = .ok (.iconst 1, 1) := by decide +kernel
theorem dX6_ticks_84 : decode cX6_ticks 84 = .ok (.iadd, 1) := by decide +kernel
theorem dX6_ticks_85 : decode cX6_ticks 85 = .ok (.iastore, 1) := by decide +kernel
theorem dX6_ticks_86 : decode cX6_ticks 86 = .ok (.iinc 2 (-1), 3) := by decide +kernel
theorem dX6_ticks_89 : decode cX6_ticks 89 = .ok (.goto (-47), 3) := by decide +kernel
theorem dX6_ticks_92 : decode cX6_ticks 92 = .ok (.aload_n 0, 1) := by decide +kernel
theorem dX6_ticks_93 : decode cX6_ticks 93 = .ok (.getfield 7, 3) := by decide +kernel
theorem dX6_ticks_96 : decode cX6_ticks 96 = .ok (.sipush 355, 3) := by decide +kernel
theorem dX6_ticks_99 : decode cX6_ticks 99 = .ok (.iaload, 1) := by decide +kernel
theorem dX6_ticks_100 : decode cX6_ticks 100 = .ok (.iconst 1, 1) := by decide +kernel
theorem dX6_ticks_101 : decode cX6_ticks 101 = .ok (.isub, 1) := by decide +kernel
theorem dX6_ticks_102 : decode cX6_ticks 102 = .ok (.istore_n 2, 1) := by decide +kernel
theorem dX6_ticks_103 : decode cX6_ticks 103 = .ok (.iload_n 2, 1) := by decide +kernel
theorem dX6_ticks_104 : decode cX6_ticks 104 = .ok (.ifCond .lt 39, 3) := by decide +kernel
theorem dX6_ticks_107 : decode cX6_ticks 107 = .ok (.aload_n 0, 1) := by decide +kernel
theorem dX6_ticks_108 : decode cX6_ticks 108 = .ok (.getfield 7, 3) := by decide +kernel
theorem dX6_ticks_111 : decode cX6_ticks 111 = .ok (.sipush 356, 3) := by decide +kernel
theorem dX6_ticks_114 : decode cX6_ticks 114 = .ok (.iconst 5, 1) := by decide +kernel
theorem dX6_ticks_115 : decode cX6_ticks 115 = .ok (.iload_n 2, 1) := by decide +kernel
theorem dX6_ticks_116 : decode cX6_ticks 116 = .ok (.imul, 1) := by decide +kernel
theorem dX6_ticks_117 : decode cX6_ticks 117 = .ok (.iadd, 1) := by decide +kernel
theorem dX6_ticks_118 : decode cX6_ticks 118 = .ok (.iconst 4, 1) := by decide +kernel
theorem dX6_ticks_119 : decode cX6_ticks 119 = .ok (.iadd, 1) := by decide +kernel
theorem dX6_ticks_120 : decode cX6_ticks 120 = .ok (.iaload, 1) := by decide +kernel
theorem dX6_ticks_121 : decode cX6_ticks 121 = .ok (.aload_n 0, 1) := by decide +kernel
theorem dX6_ticks_122 : decode cX6_ticks 122 = .ok (.getfield 7, 3) := by decide +kernel
theorem dX6_ticks_125 : decode cX6_ticks 125 = .ok (.sipush 394, 3) := by decide +kernel
theorem dX6_ticks_128 : decode cX6_ticks 128 = .ok (.iaload, 1) := by decide +kernel
theorem dX6_ticks_129 : decode cX6_ticks 129 = .ok (.if_icmp .gt 8, 3) := by decide +kernel
theorem dX6_ticks_132 : decode cX6_ticks 132 = .ok (.aload_n 0, 1) := by decide +kernel
theorem dX6_ticks_133 : decode cX6_ticks 133 = .ok (.iload_n 2, 1) := by decide +kernel
theorem dX6_ticks_134 : decode cX6_ticks 134 = .ok (.invokevirtual 152, 3) := by decide +kernel
theorem dX6_ticks_137 : decode cX6_ticks 137 = .ok (.iinc 2 (-1), 3) := by decide +kernel
theorem dX6_ticks_140 : decode cX6_ticks 140 = .ok (.goto (-37), 3) := by decide +kernel
theorem dX6_ticks_143 : decode cX6_ticks 143 = .ok (.aload_n 0, 1) := by decide +kernel
theorem dX6_ticks_144 : decode cX6_ticks 144 = .ok (.getfield 7, 3) := by decide +kernel
theorem dX6_ticks_147 : decode cX6_ticks 147 = .ok (.sipush 298, 3) := by decide +kernel
theorem dX6_ticks_150 : decode cX6_ticks 150 = .ok (.iaload, 1) := by decide +kernel
theorem dX6_ticks_151 : decode cX6_ticks 151 = .ok (.ireturn, 1) := by decide +kernel
theorem dX6_span_0 : decode cX6_span 0 = .ok (.iload_n 1, 1) := by decide +kernel
theorem dX6_span_1 : decode cX6_span 1 = .ok (.iconst 1, 1) := by decide +kernel
theorem dX6_span_2 : decode cX6_span 2 = .ok (.bipush 7, 2) := by decide +kernel
theorem dX6_span_4 : decode cX6_span 4 = .ok (.invokestatic 39, 3) := by decide +kernel
theorem dX6_span_7 : decode cX6_span 7 = .ok (.ifCond .eq 13, 3) := by decide +kernel
theorem dX6_span_10 : decode cX6_span 10 = .ok (.iload_n 2, 1) := by decide +kernel
theorem dX6_span_11 : decode cX6_span 11 = .ok (.iconst 1, 1) := by decide +kernel
theorem dX6_span_12 : decode cX6_span 12 = .ok (.bipush 100, 2) := by decide +kernel
theorem dX6_span_14 : decode cX6_span 14 = .ok (.invokestatic 39, 3) := by decide +kernel
theorem dX6_span_17 : decode cX6_span 17 = .ok (.ifCond .ne 8, 3) := by decide +kernel
theorem dX6_span_20 : decode cX6_span 20 = .ok (.aload_n 0, 1) := by decide +kernel
theorem dX6_span_21 : decode cX6_span 21 = .ok (.invokevirtual 47, 3) := by decide +kernel
theorem dX6_span_24 : decode cX6_span 24 = .ok (.ireturn, 1) := by decide +kernel
theorem dX6_span_25 : decode cX6_span 25 = .ok (.aload_n 0, 1) := by decide +kernel
theorem dX6_span_26 : decode cX6_span 26 = .ok (.invokevirtual 50, 3) := by decide +kernel
theorem dX6_span_29 : decode cX6_span 29 = .ok (.aload_n 0, 1) := by decide +kernel
theorem dX6_span_30 : decode cX6_span 30 = .ok (.getfield 7, 3) := by decide +kernel
theorem dX6_span_33 : decode cX6_span 33 = .ok (.sipush 386, 3) := by decide +kernel
theorem dX6_span_36 : decode cX6_span 36 = .ok (.iload_n 1, 1) := by decide +kernel
theorem dX6_span_37 : decode cX6_span 37 = .ok (.iadd, 1) := by decide +kernel
theorem dX6_span_38 : decode cX6_span 38 = .ok (.iaload, 1) := by decide +kernel
theorem dX6_span_39 : decode cX6_span 39 = .ok (.istore_n 3, 1) := by decide +kernel
theorem dX6_span_40 : decode cX6_span 40 = .ok (.aload_n 0, 1) := by decide +kernel
theorem dX6_span_41 : decode cX6_span 41 = .ok (.getfield 7, 3) := by decide +kernel
theorem dX6_span_44 : decode cX6_span 44 = .ok (.sipush 386, 3) := by decide +kernel
theorem dX6_span_47 : decode cX6_span 47 = .ok (.iload_n 1, 1) := by decide +kernel
theorem dX6_span_48 : decode cX6_span 48 = .ok (.iadd, 1) := by decide +kernel
theorem dX6_span_49 : decode cX6_span 49 = .ok (.iload_n 2, 1) := by decide +kernel
theorem dX6_span_50 : decode cX6_span 50 = .ok (.iastore, 1) := by decide +kernel
theorem dX6_span_51 : decode cX6_span 51 = .ok (.iload_n 3, 1) := by decide +kernel
theorem dX6_span_52 : decode cX6_span 52 = .ok (.ireturn, 1) := by decide +kernel
theorem dX6_cuts_0 : decode cX6_cuts 0 = .ok (.aload_n 0, 1) := by decide +kernel
theorem dX6_cuts_1 : decode cX6_cuts 1 = .ok (.invokevirtual 50, 3) := by decide +kernel
theorem dX6_cuts_4 : decode cX6_cuts 4 = .ok (.aload_n 0, 1) := by decide +kernel
theorem dX6_cuts_5 : decode cX6_cuts 5 = .ok (.invokevirtual 105, 3) := by decide +kernel
theorem dX6_cuts_8 : decode cX6_cuts 8 = .ok (.aload_n 0, 1) := by decide +kernel
theorem dX6_cuts_9 : decode cX6_cuts 9 = .ok (.getfield 7, 3) := by decide +kernel
theorem dX6_cuts_12 : decode cX6_cuts 12 = .ok (.sipush 298, 3) := by decide +kernel
theorem dX6_cuts_15 : decode cX6_cuts 15 = .ok (.iaload, 1) := by decide +kernel
theorem dX6_cuts_16 : decode cX6_cuts 16 = .ok (.istore_n 1, 1) := by decide +kernel
theorem dX6_cuts_17 : decode cX6_cuts 17 = .ok (.iload_n 1, 1) := by decide +kernel
theorem dX6_cuts_18 : decode cX6_cuts 18 = .ok (.iconst 1, 1) := by decide +kernel
theorem dX6_cuts_19 : decode cX6_cuts 19 = .ok (.isub, 1) := by decide +kernel
theorem dX6_cuts_20 : decode cX6_cuts 20 = .ok (.istore_n 2, 1) := by decide +kernel
theorem dX6_cuts_21 : decode cX6_cuts 21 = .ok (.iload_n 2, 1) := by decide +kernel
theorem dX6_cuts_22 : decode cX6_cuts 22 = .ok (.ifCond .lt 72, 3) := by decide +kernel
theorem dX6_cuts_25 : decode cX6_cuts 25 = .ok (.aload_n 0, 1) := by decide +kernel
theorem dX6_cuts_26 : decode cX6_cuts 26 = .ok (.iload_n 2, 1) := by decide +kernel
theorem dX6_cuts_27 : decode cX6_cuts 27 = .ok (.invokevirtual 133, 3) := by decide +kernel
theorem dX6_cuts_30 : decode cX6_cuts 30 = .ok (.istore_n 3, 1) := by decide +kernel
theorem dX6_cuts_31 : decode cX6_cuts 31 = .ok (.aload_n 0, 1) := by decide +kernel
theorem dX6_cuts_32 : decode cX6_cuts 32 = .ok (.getfield 7, 3) := by decide +kernel
theorem dX6_cuts_35 : decode cX6_cuts 35 = .ok (.iload_n 3, 1) := by decide +kernel
theorem dX6_cuts_36 : decode cX6_cuts 36 = .ok (.iaload, 1) := by decide +kernel
theorem dX6_cuts_37 : decode cX6_cuts 37 = .ok (.aload_n 0, 1) := by decide +kernel
theorem dX6_cuts_38 : decode cX6_cuts 38 = .ok (.getfield 7, 3) := by decide +kernel
theorem dX6_cuts_41 : decode cX6_cuts 41 = .ok (.iload_n 3, 1) := by decide +kernel
theorem dX6_cuts_42 : decode cX6_cuts 42 = .ok (.iconst 1, 1) := by decide +kernel
theorem dX6_cuts_43 : decode cX6_cuts 43 = .ok (.iadd, 1) := by decide +kernel
theorem dX6_cuts_44 : decode cX6_cuts 44 = .ok (.iaload, 1) := by decide +kernel
theorem dX6_cuts_45 : decode cX6_cuts 45 = .ok (.aload_n 0, 1) := by decide +kernel
theorem dX6_cuts_46 : decode cX6_cuts 46 = .ok (.getfield 7, 3) := by decide +kernel
theorem dX6_cuts_49 : decode cX6_cuts 49 = .ok (.iload_n 3, 1) := by decide +kernel
theorem dX6_cuts_50 : decode cX6_cuts 50 = .ok (.iconst 2, 1) := by decide +kernel
theorem dX6_cuts_51 : decode cX6_cuts 51 = .ok (.iadd, 1) := by decide +kernel
theorem dX6_cuts_52 : decode cX6_cuts 52 = .ok (.iaload, 1) := by decide +kernel
theorem dX6_cuts_53 : decode cX6_cuts 53 = .ok (.aload_n 0, 1) := by decide +kernel
theorem dX6_cuts_54 : decode cX6_cuts 54 = .ok (.getfield 7, 3) := by decide +kernel
theorem dX6_cuts_57 : decode cX6_cuts 57 = .ok (.iload_n 3, 1) := by decide +kernel
theorem dX6_cuts_58 : decode cX6_cuts 58 = .ok (.iconst 3, 1) := by decide +kernel
theorem dX6_cuts_59 : decode cX6_cuts 59 = .ok (.iadd, 1) := by decide +kernel
theorem dX6_cuts_60 : decode cX6_cuts 60 = .ok (.iaload, 1) := by decide +kernel
theorem dX6_cuts_61 : decode cX6_cuts 61 = .ok (.invokestatic 108, 3) := by decide +kernel
theorem dX6_cuts_64 : decode cX6_cuts 64 = .ok (.istore 4, 2) := by decide +kernel
theorem dX6_cuts_66 : decode cX6_cuts 66 = .ok (.aload_n 0, 1) := by decide +kernel
theorem dX6_cuts_67 : decode cX6_cuts 67 = .ok (.bipush 33, 2) := by decide +kernel
theorem dX6_cuts_69 : decode cX6_cuts 69 = .ok (.aload_n 0, 1) := by decide +kernel
theorem dX6_cuts_70 : decode cX6_cuts 70 = .ok (.iconst 0, 1) := by decide +kernel
theorem dX6_cuts_71 : decode cX6_cuts 71 = .ok (.iload 4, 2) := by decide +kernel
theorem dX6_cuts_73 : decode cX6_cuts 73 = .ok (.invokevirtual 112, 3) := by decide +kernel
theorem dX6_cuts_76 : decode cX6_cuts 76 = .ok (.invokevirtual 121, 3) := by decide +kernel
theorem dX6_cuts_79 : decode cX6_cuts 79 = .ok (.iconst 1, 1) := by decide +kernel
theorem dX6_cuts_80 : decode cX6_cuts 80 = .ok (.if_icmp .eq 8, 3) := by decide +kernel
theorem dX6_cuts_83 : decode cX6_cuts 83 = .ok (.aload_n 0, 1) := by decide +kernel
theorem dX6_cuts_84 : decode cX6_cuts 84 = .ok (.iload_n 2, 1) := by decide +kernel
theorem dX6_cuts_85 : decode cX6_cuts 85 = .ok (.invokevirtual 140, 3) := by decide +kernel
theorem dX6_cuts_88 : decode cX6_cuts 88 = .ok (.iinc 2 (-1), 3) := by decide +kernel
theorem dX6_cuts_91 : decode cX6_cuts 91 = .ok (.goto (-70), 3) := by decide +kernel
theorem dX6_cuts_94 : decode cX6_cuts 94 = .ok (.iload_n 1, 1) := by decide +kernel
theorem dX6_cuts_95 : decode cX6_cuts 95 = .ok (.aload_n 0, 1) := by decide +kernel
theorem dX6_cuts_96 : decode cX6_cuts 96 = .ok (.getfield 7, 3) := by decide +kernel
theorem dX6_cuts_99 : decode cX6_cuts 99 = .ok (.sipush 298, 3) := by decide +kernel
theorem dX6_cuts_102 : decode cX6_cuts 102 = .ok (.iaload, 1) := by decide +kernel
theorem dX6_cuts_103 : decode cX6_cuts 103 = .ok (.isub, 1) := by decide +kernel
theorem dX6_cuts_104 : decode cX6_cuts 104 = .ok (.ireturn, 1) := by decide +kernel
theorem dX6_flow_0 : decode cX6_flow 0 = .ok (.iload_n 1, 1) := by decide +kernel
theorem dX6_flow_1 : decode cX6_flow 1 = .ok (.ifCond .lt 13, 3) := by decide +kernel
theorem dX6_flow_4 : decode cX6_flow 4 = .ok (.iload_n 2, 1) := by decide +kernel
theorem dX6_flow_5 : decode cX6_flow 5 = .ok (.iconst 0, 1) := by decide +kernel
theorem dX6_flow_6 : decode cX6_flow 6 = .ok (.bipush 6, 2) := by decide +kernel
theorem dX6_flow_8 : decode cX6_flow 8 = .ok (.invokestatic 39, 3) := by decide +kernel
theorem dX6_flow_11 : decode cX6_flow 11 = .ok (.ifCond .ne 8, 3) := by decide +kernel
theorem dX6_flow_14 : decode cX6_flow 14 = .ok (.aload_n 0, 1) := by decide +kernel
theorem dX6_flow_15 : decode cX6_flow 15 = .ok (.invokevirtual 47, 3) := by decide +kernel
theorem dX6_flow_18 : decode cX6_flow 18 = .ok (.ireturn, 1) := by decide +kernel
theorem dX6_flow_19 : decode cX6_flow 19 = .ok (.iload_n 1, 1) := by decide +kernel
theorem dX6_flow_20 : decode cX6_flow 20 = .ok (.aload_n 0, 1) := by decide +kernel
theorem dX6_flow_21 : decode cX6_flow 21 = .ok (.getfield 7, 3) := by decide +kernel
theorem dX6_flow_24 : decode cX6_flow 24 = .ok (.sipush 298, 3) := by decide +kernel
theorem dX6_flow_27 : decode cX6_flow 27 = .ok (.iaload, 1) := by decide +kernel
theorem dX6_flow_28 : decode cX6_flow 28 = .ok (.if_icmp .ge 18, 3) := by decide +kernel
theorem dX6_flow_31 : decode cX6_flow 31 = .ok (.aload_n 0, 1) := by decide +kernel
theorem dX6_flow_32 : decode cX6_flow 32 = .ok (.getfield 7, 3) := by decide +kernel
theorem dX6_flow_35 : decode cX6_flow 35 = .ok (.aload_n 0, 1) := by decide +kernel
theorem dX6_flow_36 : decode cX6_flow 36 = .ok (.iload_n 1, 1) := by decide +kernel
theorem dX6_flow_37 : decode cX6_flow 37 = .ok (.invokevirtual 133, 3) := by decide +kernel
theorem dX6_flow_40 : decode cX6_flow 40 = .ok (.iload_n 2, 1) := by decide +kernel
theorem dX6_flow_41 : decode cX6_flow 41 = .ok (.iadd, 1) := by decide +kernel
theorem dX6_flow_42 : decode cX6_flow 42 = .ok (.iaload, 1) := by decide +kernel
theorem dX6_flow_43 : decode cX6_flow 43 = .ok (.goto 4, 3) := by decide +kernel
theorem dX6_flow_46 : decode cX6_flow 46 = .ok (.iconst (-1), 1) := by decide +kernel
theorem dX6_flow_47 : decode cX6_flow 47 = .ok (.ireturn, 1) := by decide +kernel
theorem dX6_countOf_0 : decode cX6_countOf 0 = .ok (.iload_n 1, 1) := by decide +kernel
theorem dX6_countOf_1 : decode cX6_countOf 1 = .ok (.tableswitch 66 0 3 #[31, 39, 48, 57], 31) := by decide +kernel
theorem dX6_countOf_32 : decode cX6_countOf 32 = .ok (.aload_n 0, 1) := by decide +kernel
theorem dX6_countOf_33 : decode cX6_countOf 33 = .ok (.getfield 7, 3) := by decide +kernel
theorem dX6_countOf_36 : decode cX6_countOf 36 = .ok (.bipush 32, 2) := by decide +kernel
theorem dX6_countOf_38 : decode cX6_countOf 38 = .ok (.iaload, 1) := by decide +kernel
theorem dX6_countOf_39 : decode cX6_countOf 39 = .ok (.ireturn, 1) := by decide +kernel
theorem dX6_countOf_40 : decode cX6_countOf 40 = .ok (.aload_n 0, 1) := by decide +kernel
theorem dX6_countOf_41 : decode cX6_countOf 41 = .ok (.getfield 7, 3) := by decide +kernel
theorem dX6_countOf_44 : decode cX6_countOf 44 = .ok (.sipush 298, 3) := by decide +kernel
theorem dX6_countOf_47 : decode cX6_countOf 47 = .ok (.iaload, 1) := by decide +kernel
theorem dX6_countOf_48 : decode cX6_countOf 48 = .ok (.ireturn, 1) := by decide +kernel
theorem dX6_countOf_49 : decode cX6_countOf 49 = .ok (.aload_n 0, 1) := by decide +kernel
theorem dX6_countOf_50 : decode cX6_countOf 50 = .ok (.getfield 7, 3) := by decide +kernel
theorem dX6_countOf_53 : decode cX6_countOf 53 = .ok (.sipush 355, 3) := by decide +kernel
theorem dX6_countOf_56 : decode cX6_countOf 56 = .ok (.iaload, 1) := by decide +kernel
theorem dX6_countOf_57 : decode cX6_countOf 57 = .ok (.ireturn, 1) := by decide +kernel
theorem dX6_countOf_58 : decode cX6_countOf 58 = .ok (.aload_n 0, 1) := by decide +kernel
theorem dX6_countOf_59 : decode cX6_countOf 59 = .ok (.getfield 7, 3) := by decide +kernel
theorem dX6_countOf_62 : decode cX6_countOf 62 = .ok (.sipush 394, 3) := by decide +kernel
theorem dX6_countOf_65 : decode cX6_countOf 65 = .ok (.iaload, 1) := by decide +kernel
theorem dX6_countOf_66 : decode cX6_countOf 66 = .ok (.ireturn, 1) := by decide +kernel
theorem dX6_countOf_67 : decode cX6_countOf 67 = .ok (.aload_n 0, 1) := by decide +kernel
theorem dX6_countOf_68 : decode cX6_countOf 68 = .ok (.getfield 7, 3) := by decide +kernel
theorem dX6_countOf_71 : decode cX6_countOf 71 = .ok (.sipush 395, 3) := by decide +kernel
theorem dX6_countOf_74 : decode cX6_countOf 74 = .ok (.iload_n 1, 1) := by decide +kernel
theorem dX6_countOf_75 : decode cX6_countOf 75 = .ok (.iadd, 1) := by decide +kernel
theorem dX6_countOf_76 : decode cX6_countOf 76 = .ok (.iconst 4, 1) := by decide +kernel
theorem dX6_countOf_77 : decode cX6_countOf 77 = .ok (.isub, 1) := by decide +kernel
theorem dX6_countOf_78 : decode cX6_countOf 78 = .ok (.iaload, 1) := by decide +kernel
theorem dX6_countOf_79 : decode cX6_countOf 79 = .ok (.ireturn, 1) := by decide +kernel
theorem dX6_count_0 : decode cX6_count 0 = .ok (.iload_n 1, 1) := by decide +kernel
theorem dX6_count_1 : decode cX6_count 1 = .ok (.iconst 0, 1) := by decide +kernel
theorem dX6_count_2 : decode cX6_count 2 = .ok (.bipush 9, 2) := by decide +kernel
theorem dX6_count_4 : decode cX6_count 4 = .ok (.invokestatic 39, 3) := by decide +kernel
theorem dX6_count_7 : decode cX6_count 7 = .ok (.ifCond .eq 11, 3) := by decide +kernel
theorem dX6_count_10 : decode cX6_count 10 = .ok (.aload_n 0, 1) := by decide +kernel
theorem dX6_count_11 : decode cX6_count 11 = .ok (.iload_n 1, 1) := by decide +kernel
theorem dX6_count_12 : decode cX6_count 12 = .ok (.invokevirtual 176, 3) := by decide +kernel
theorem dX6_count_15 : decode cX6_count 15 = .ok (.goto 7, 3) := by decide +kernel
theorem dX6_count_18 : decode cX6_count 18 = .ok (.aload_n 0, 1) := by decide +kernel
theorem dX6_count_19 : decode cX6_count 19 = .ok (.invokevirtual 47, 3) := by decide +kernel
theorem dX6_count_22 : decode cX6_count 22 = .ok (.ireturn, 1) := by decide +kernel
theorem dX6_type_0 : decode cX6_type 0 = .ok (.iload_n 1, 1) := by decide +kernel
theorem dX6_type_1 : decode cX6_type 1 = .ok (.iconst 0, 1) := by decide +kernel
theorem dX6_type_2 : decode cX6_type 2 = .ok (.bipush 127, 2) := by decide +kernel
theorem dX6_type_4 : decode cX6_type 4 = .ok (.invokestatic 39, 3) := by decide +kernel
theorem dX6_type_7 : decode cX6_type 7 = .ok (.ifCond .ne 8, 3) := by decide +kernel
theorem dX6_type_10 : decode cX6_type 10 = .ok (.aload_n 0, 1) := by decide +kernel
theorem dX6_type_11 : decode cX6_type 11 = .ok (.invokevirtual 47, 3) := by decide +kernel
theorem dX6_type_14 : decode cX6_type 14 = .ok (.ireturn, 1) := by decide +kernel
theorem dX6_type_15 : decode cX6_type 15 = .ok (.aload_n 0, 1) := by decide +kernel
theorem dX6_type_16 : decode cX6_type 16 = .ok (.getfield 179, 3) := by decide +kernel
theorem dX6_type_19 : decode cX6_type 19 = .ok (.bipush 120, 2) := by decide +kernel
theorem dX6_type_21 : decode cX6_type 21 = .ok (.if_icmp .ne 8, 3) := by decide +kernel
theorem dX6_type_24 : decode cX6_type 24 = .ok (.aload_n 0, 1) := by decide +kernel
theorem dX6_type_25 : decode cX6_type 25 = .ok (.invokevirtual 53, 3) := by decide +kernel
theorem dX6_type_28 : decode cX6_type 28 = .ok (.ireturn, 1) := by decide +kernel
theorem dX6_type_29 : decode cX6_type 29 = .ok (.aload_n 0, 1) := by decide +kernel
theorem dX6_type_30 : decode cX6_type 30 = .ok (.getfield 19, 3) := by decide +kernel
theorem dX6_type_33 : decode cX6_type 33 = .ok (.aload_n 0, 1) := by decide +kernel
theorem dX6_type_34 : decode cX6_type 34 = .ok (.getfield 179, 3) := by decide +kernel
theorem dX6_type_37 : decode cX6_type 37 = .ok (.iload_n 1, 1) := by decide +kernel
theorem dX6_type_38 : decode cX6_type 38 = .ok (.iastore, 1) := by decide +kernel
theorem dX6_type_39 : decode cX6_type 39 = .ok (.aload_n 0, 1) := by decide +kernel
theorem dX6_type_40 : decode cX6_type 40 = .ok (.dup, 1) := by decide +kernel
theorem dX6_type_41 : decode cX6_type 41 = .ok (.getfield 179, 3) := by decide +kernel
theorem dX6_type_44 : decode cX6_type 44 = .ok (.iconst 1, 1) := by decide +kernel
theorem dX6_type_45 : decode cX6_type 45 = .ok (.iadd, 1) := by decide +kernel
theorem dX6_type_46 : decode cX6_type 46 = .ok (.putfield 179, 3) := by decide +kernel
theorem dX6_type_49 : decode cX6_type 49 = .ok (.aload_n 0, 1) := by decide +kernel
theorem dX6_type_50 : decode cX6_type 50 = .ok (.getfield 179, 3) := by decide +kernel
theorem dX6_type_53 : decode cX6_type 53 = .ok (.ireturn, 1) := by decide +kernel
theorem dX6_clear_0 : decode cX6_clear 0 = .ok (.aload_n 0, 1) := by decide +kernel
theorem dX6_clear_1 : decode cX6_clear 1 = .ok (.getfield 179, 3) := by decide +kernel
theorem dX6_clear_4 : decode cX6_clear 4 = .ok (.istore_n 1, 1) := by decide +kernel
theorem dX6_clear_5 : decode cX6_clear 5 = .ok (.aload_n 0, 1) := by decide +kernel
theorem dX6_clear_6 : decode cX6_clear 6 = .ok (.iconst 0, 1) := by decide +kernel
theorem dX6_clear_7 : decode cX6_clear 7 = .ok (.putfield 179, 3) := by decide +kernel
theorem dX6_clear_10 : decode cX6_clear 10 = .ok (.iload_n 1, 1) := by decide +kernel
theorem dX6_clear_11 : decode cX6_clear 11 = .ok (.ireturn, 1) := by decide +kernel
theorem dX6_isAt_0 : decode cX6_isAt 0 = .ok (.aload_n 0, 1) := by decide +kernel
theorem dX6_isAt_1 : decode cX6_isAt 1 = .ok (.getfield 182, 3) := by decide +kernel
theorem dX6_isAt_4 : decode cX6_isAt 4 = .ok (.aload_n 0, 1) := by decide +kernel
theorem dX6_isAt_5 : decode cX6_isAt 5 = .ok (.getfield 179, 3) := by decide +kernel
theorem dX6_isAt_8 : decode cX6_isAt 8 = .ok (.if_icmp .ge 24, 3) := by decide +kernel
theorem dX6_isAt_11 : decode cX6_isAt 11 = .ok (.aload_n 0, 1) := by decide +kernel
theorem dX6_isAt_12 : decode cX6_isAt 12 = .ok (.getfield 19, 3) := by decide +kernel
theorem dX6_isAt_15 : decode cX6_isAt 15 = .ok (.aload_n 0, 1) := by decide +kernel
theorem dX6_isAt_16 : decode cX6_isAt 16 = .ok (.getfield 182, 3) := by decide +kernel
theorem dX6_isAt_19 : decode cX6_isAt 19 = .ok (.iaload, 1) := by decide +kernel
theorem dX6_isAt_20 : decode cX6_isAt 20 = .ok (.iload_n 1, 1) := by decide +kernel
theorem dX6_isAt_21 : decode cX6_isAt 21 = .ok (.iload_n 2, 1) := by decide +kernel
theorem dX6_isAt_22 : decode cX6_isAt 22 = .ok (.invokestatic 39, 3) := by decide +kernel
theorem dX6_isAt_25 : decode cX6_isAt 25 = .ok (.ifCond .eq 7, 3) := by decide +kernel
theorem dX6_isAt_28 : decode cX6_isAt 28 = .ok (.iconst 1, 1) := by decide +kernel
theorem dX6_isAt_29 : decode cX6_isAt 29 = .ok (.goto 4, 3) := by decide +kernel
theorem dX6_isAt_32 : decode cX6_isAt 32 = .ok (.iconst 0, 1) := by decide +kernel
theorem dX6_isAt_33 : decode cX6_isAt 33 = .ok (.ireturn, 1) := by decide +kernel
theorem dX6_blanks_0 : decode cX6_blanks 0 = .ok (.aload_n 0, 1) := by decide +kernel
theorem dX6_blanks_1 : decode cX6_blanks 1 = .ok (.bipush 32, 2) := by decide +kernel
theorem dX6_blanks_3 : decode cX6_blanks 3 = .ok (.bipush 32, 2) := by decide +kernel
theorem dX6_blanks_5 : decode cX6_blanks 5 = .ok (.invokevirtual 185, 3) := by decide +kernel
theorem dX6_blanks_8 : decode cX6_blanks 8 = .ok (.ifCond .eq 16, 3) := by decide +kernel
theorem dX6_blanks_11 : decode cX6_blanks 11 = .ok (.aload_n 0, 1) := by decide +kernel
theorem dX6_blanks_12 : decode cX6_blanks 12 = .ok (.dup, 1) := by decide +kernel
theorem dX6_blanks_13 : decode cX6_blanks 13 = .ok (.getfield 182, 3) := by decide +kernel
theorem dX6_blanks_16 : decode cX6_blanks 16 = .ok (.iconst 1, 1) := by decide +kernel
theorem dX6_blanks_17 : decode cX6_blanks 17 = .ok (.iadd, 1) := by decide +kernel
theorem dX6_blanks_18 : decode cX6_blanks 18 = .ok (.putfield 182, 3) := by decide +kernel
theorem dX6_blanks_21 : decode cX6_blanks 21 = .ok (.goto (-21), 3) := by decide +kernel
theorem dX6_blanks_24 : decode cX6_blanks 24 = .ok (.return_, 1) := by decide +kernel
theorem dX6_fails_0 : decode cX6_fails 0 = .ok (.aload_n 0, 1) := by decide +kernel
theorem dX6_fails_1 : decode cX6_fails 1 = .ok (.iload_n 1, 1) := by decide +kernel
theorem dX6_fails_2 : decode cX6_fails 2 = .ok (.putfield 188, 3) := by decide +kernel
theorem dX6_fails_5 : decode cX6_fails 5 = .ok (.iconst 0, 1) := by decide +kernel
theorem dX6_fails_6 : decode cX6_fails 6 = .ok (.ireturn, 1) := by decide +kernel
theorem dX6_add_0 : decode cX6_add 0 = .ok (.iload_n 2, 1) := by decide +kernel
theorem dX6_add_1 : decode cX6_add 1 = .ok (.ifCond .ne 7, 3) := by decide +kernel
theorem dX6_add_4 : decode cX6_add 4 = .ok (.lload_n 0, 1) := by decide +kernel
theorem dX6_add_5 : decode cX6_add 5 = .ok (.goto 15, 3) := by decide +kernel
theorem dX6_add_8 : decode cX6_add 8 = .ok (.ldc2_w 191, 3) := by decide +kernel
theorem dX6_add_11 : decode cX6_add 11 = .ok (.lload_n 0, 1) := by decide +kernel
theorem dX6_add_12 : decode cX6_add 12 = .ok (.lmul, 1) := by decide +kernel
theorem dX6_add_13 : decode cX6_add 13 = .ok (.iload_n 2, 1) := by decide +kernel
theorem dX6_add_14 : decode cX6_add 14 = .ok (.i2l, 1) := by decide +kernel
theorem dX6_add_15 : decode cX6_add 15 = .ok (.ladd, 1) := by decide +kernel
theorem dX6_add_16 : decode cX6_add 16 = .ok (.ldc2_w 193, 3) := by decide +kernel
theorem dX6_add_19 : decode cX6_add 19 = .ok (.lsub, 1) := by decide +kernel
theorem dX6_add_20 : decode cX6_add 20 = .ok (.lreturn, 1) := by decide +kernel
theorem dX6_codeOf_0 : decode cX6_codeOf 0 = .ok (.iload_n 0, 1) := by decide +kernel
theorem dX6_codeOf_1 : decode cX6_codeOf 1 = .ok (.i2l, 1) := by decide +kernel
theorem dX6_codeOf_2 : decode cX6_codeOf 2 = .ok (.ldc2_w 193, 3) := by decide +kernel
theorem dX6_codeOf_5 : decode cX6_codeOf 5 = .ok (.lsub, 1) := by decide +kernel
theorem dX6_codeOf_6 : decode cX6_codeOf 6 = .ok (.iload_n 1, 1) := by decide +kernel
theorem dX6_codeOf_7 : decode cX6_codeOf 7 = .ok (.invokestatic 195, 3) := by decide +kernel
theorem dX6_codeOf_10 : decode cX6_codeOf 10 = .ok (.iload_n 2, 1) := by decide +kernel
theorem dX6_codeOf_11 : decode cX6_codeOf 11 = .ok (.invokestatic 195, 3) := by decide +kernel
theorem dX6_codeOf_14 : decode cX6_codeOf 14 = .ok (.lstore 6, 2) := by decide +kernel
theorem dX6_codeOf_16 : decode cX6_codeOf 16 = .ok (.lload 6, 2) := by decide +kernel
theorem dX6_codeOf_18 : decode cX6_codeOf 18 = .ok (.iload_n 3, 1) := by decide +kernel
theorem dX6_codeOf_19 : decode cX6_codeOf 19 = .ok (.invokestatic 195, 3) := by decide +kernel
theorem dX6_codeOf_22 : decode cX6_codeOf 22 = .ok (.iload 4, 2) := by decide +kernel
theorem dX6_codeOf_24 : decode cX6_codeOf 24 = .ok (.invokestatic 195, 3) := by decide +kernel
theorem dX6_codeOf_27 : decode cX6_codeOf 27 = .ok (.lstore 6, 2) := by decide +kernel
theorem dX6_codeOf_29 : decode cX6_codeOf 29 = .ok (.lload 6, 2) := by decide +kernel
theorem dX6_codeOf_31 : decode cX6_codeOf 31 = .ok (.iload 5, 2) := by decide +kernel
theorem dX6_codeOf_33 : decode cX6_codeOf 33 = .ok (.invokestatic 195, 3) := by decide +kernel
theorem dX6_codeOf_36 : decode cX6_codeOf 36 = .ok (.lreturn, 1) := by decide +kernel
theorem dX6_takesWord_0 : decode cX6_takesWord 0 = .ok (.lconst 0, 1) := by decide +kernel
theorem dX6_takesWord_1 : decode cX6_takesWord 1 = .ok (.lstore_n 1, 1) := by decide +kernel
theorem dX6_takesWord_2 : decode cX6_takesWord 2 = .ok (.iconst 0, 1) := by decide +kernel
theorem dX6_takesWord_3 : decode cX6_takesWord 3 = .ok (.istore_n 3, 1) := by decide +kernel
theorem dX6_takesWord_4 : decode cX6_takesWord 4 = .ok (.aload_n 0, 1) := by decide +kernel
theorem dX6_takesWord_5 : decode cX6_takesWord 5 = .ok (.bipush 97, 2) := by decide +kernel
theorem dX6_takesWord_7 : decode cX6_takesWord 7 = .ok (.bipush 122, 2) := by decide +kernel
theorem dX6_takesWord_9 : decode cX6_takesWord 9 = .ok (.invokevirtual 185, 3) := by decide +kernel
theorem dX6_takesWord_12 : decode cX6_takesWord 12 = .ok (.ifCond .eq 45, 3) := by decide +kernel
theorem dX6_takesWord_15 : decode cX6_takesWord 15 = .ok (.iload_n 3, 1) := by decide +kernel
theorem dX6_takesWord_16 : decode cX6_takesWord 16 = .ok (.bipush 6, 2) := by decide +kernel
theorem dX6_takesWord_18 : decode cX6_takesWord 18 = .ok (.if_icmp .ge 19, 3) := by decide +kernel
theorem dX6_takesWord_21 : decode cX6_takesWord 21 = .ok (.lload_n 1, 1) := by decide +kernel
theorem dX6_takesWord_22 : decode cX6_takesWord 22 = .ok (.aload_n 0, 1) := by decide +kernel
theorem dX6_takesWord_23 : decode cX6_takesWord 23 = .ok (.getfield 19, 3) := by decide +kernel
theorem dX6_takesWord_26 : decode cX6_takesWord 26 = .ok (.aload_n 0, 1) := by decide +kernel
theorem dX6_takesWord_27 : decode cX6_takesWord 27 = .ok (.getfield 182, 3) := by decide +kernel
theorem dX6_takesWord_30 : decode cX6_takesWord 30 = .ok (.iaload, 1) := by decide +kernel
theorem dX6_takesWord_31 : decode cX6_takesWord 31 = .ok (.invokestatic 195, 3) := by decide +kernel
theorem dX6_takesWord_34 : decode cX6_takesWord 34 = .ok (.goto 6, 3) := by decide +kernel
theorem dX6_takesWord_37 : decode cX6_takesWord 37 = .ok (.ldc2_w 199, 3) := by decide +kernel
theorem dX6_takesWord_40 : decode cX6_takesWord 40 = .ok (.lstore_n 1, 1) := by decide +kernel
theorem dX6_takesWord_41 : decode cX6_takesWord 41 = .ok (.iinc 3 1, 3) := by decide +kernel
theorem dX6_takesWord_44 : decode cX6_takesWord 44 = .ok (.aload_n 0, 1) := by decide +kernel
theorem dX6_takesWord_45 : decode cX6_takesWord 45 = .ok (.dup, 1) := by decide +kernel
theorem dX6_takesWord_46 : decode cX6_takesWord 46 = .ok (.getfield 182, 3) := by decide +kernel
theorem dX6_takesWord_49 : decode cX6_takesWord 49 = .ok (.iconst 1, 1) := by decide +kernel
theorem dX6_takesWord_50 : decode cX6_takesWord 50 = .ok (.iadd, 1) := by decide +kernel
theorem dX6_takesWord_51 : decode cX6_takesWord 51 = .ok (.putfield 182, 3) := by decide +kernel
theorem dX6_takesWord_54 : decode cX6_takesWord 54 = .ok (.goto (-50), 3) := by decide +kernel
theorem dX6_takesWord_57 : decode cX6_takesWord 57 = .ok (.lload_n 1, 1) := by decide +kernel
theorem dX6_takesWord_58 : decode cX6_takesWord 58 = .ok (.lreturn, 1) := by decide +kernel
theorem dX6_wordBy_0 : decode cX6_wordBy 0 = .ok (.lload_n 0, 1) := by decide +kernel
theorem dX6_wordBy_1 : decode cX6_wordBy 1 = .ok (.bipush 100, 2) := by decide +kernel
theorem dX6_wordBy_3 : decode cX6_wordBy 3 = .ok (.bipush 101, 2) := by decide +kernel
theorem dX6_wordBy_5 : decode cX6_wordBy 5 = .ok (.bipush 110, 2) := by decide +kernel
theorem dX6_wordBy_7 : decode cX6_wordBy 7 = .ok (.bipush 121, 2) := by decide +kernel
theorem dX6_wordBy_9 : decode cX6_wordBy 9 = .ok (.iconst 0, 1) := by decide +kernel
theorem dX6_wordBy_10 : decode cX6_wordBy 10 = .ok (.iconst 0, 1) := by decide +kernel
theorem dX6_wordBy_11 : decode cX6_wordBy 11 = .ok (.invokestatic 201, 3) := by decide +kernel
theorem dX6_wordBy_14 : decode cX6_wordBy 14 = .ok (.lcmp, 1) := by decide +kernel
theorem dX6_wordBy_15 : decode cX6_wordBy 15 = .ok (.ifCond .ne 5, 3) := by decide +kernel
theorem dX6_wordBy_18 : decode cX6_wordBy 18 = .ok (.iconst 0, 1) := by decide +kernel
theorem dX6_wordBy_19 : decode cX6_wordBy 19 = .ok (.ireturn, 1) := by decide +kernel
theorem dX6_wordBy_20 : decode cX6_wordBy 20 = .ok (.lload_n 0, 1) := by decide +kernel
theorem dX6_wordBy_21 : decode cX6_wordBy 21 = .ok (.bipush 97, 2) := by decide +kernel
theorem dX6_wordBy_23 : decode cX6_wordBy 23 = .ok (.bipush 108, 2) := by decide +kernel
theorem dX6_wordBy_25 : decode cX6_wordBy 25 = .ok (.bipush 108, 2) := by decide +kernel
theorem dX6_wordBy_27 : decode cX6_wordBy 27 = .ok (.bipush 111, 2) := by decide +kernel
theorem dX6_wordBy_29 : decode cX6_wordBy 29 = .ok (.bipush 119, 2) := by decide +kernel
theorem dX6_wordBy_31 : decode cX6_wordBy 31 = .ok (.iconst 0, 1) := by decide +kernel
theorem dX6_wordBy_32 : decode cX6_wordBy 32 = .ok (.invokestatic 201, 3) := by decide +kernel
theorem dX6_wordBy_35 : decode cX6_wordBy 35 = .ok (.lcmp, 1) := by decide +kernel
theorem dX6_wordBy_36 : decode cX6_wordBy 36 = .ok (.ifCond .ne 5, 3) := by decide +kernel
theorem dX6_wordBy_39 : decode cX6_wordBy 39 = .ok (.iconst 1, 1) := by decide +kernel
theorem dX6_wordBy_40 : decode cX6_wordBy 40 = .ok (.ireturn, 1) := by decide +kernel
theorem dX6_wordBy_41 : decode cX6_wordBy 41 = .ok (.lload_n 0, 1) := by decide +kernel
theorem dX6_wordBy_42 : decode cX6_wordBy 42 = .ok (.bipush 114, 2) := by decide +kernel
theorem dX6_wordBy_44 : decode cX6_wordBy 44 = .ok (.bipush 101, 2) := by decide +kernel
theorem dX6_wordBy_46 : decode cX6_wordBy 46 = .ok (.bipush 106, 2) := by decide +kernel
theorem dX6_wordBy_48 : decode cX6_wordBy 48 = .ok (.bipush 101, 2) := by decide +kernel
theorem dX6_wordBy_50 : decode cX6_wordBy 50 = .ok (.bipush 99, 2) := by decide +kernel
theorem dX6_wordBy_52 : decode cX6_wordBy 52 = .ok (.bipush 116, 2) := by decide +kernel
theorem dX6_wordBy_54 : decode cX6_wordBy 54 = .ok (.invokestatic 201, 3) := by decide +kernel
theorem dX6_wordBy_57 : decode cX6_wordBy 57 = .ok (.lcmp, 1) := by decide +kernel
theorem dX6_wordBy_58 : decode cX6_wordBy 58 = .ok (.ifCond .ne 5, 3) := by decide +kernel
theorem dX6_wordBy_61 : decode cX6_wordBy 61 = .ok (.iconst 2, 1) := by decide +kernel
theorem dX6_wordBy_62 : decode cX6_wordBy 62 = .ok (.ireturn, 1) := by decide +kernel
theorem dX6_wordBy_63 : decode cX6_wordBy 63 = .ok (.lload_n 0, 1) := by decide +kernel
theorem dX6_wordBy_64 : decode cX6_wordBy 64 = .ok (.bipush 102, 2) := by decide +kernel
theorem dX6_wordBy_66 : decode cX6_wordBy 66 = .ok (.bipush 114, 2) := by decide +kernel
theorem dX6_wordBy_68 : decode cX6_wordBy 68 = .ok (.bipush 111, 2) := by decide +kernel
theorem dX6_wordBy_70 : decode cX6_wordBy 70 = .ok (.bipush 109, 2) := by decide +kernel
theorem dX6_wordBy_72 : decode cX6_wordBy 72 = .ok (.iconst 0, 1) := by decide +kernel
theorem dX6_wordBy_73 : decode cX6_wordBy 73 = .ok (.iconst 0, 1) := by decide +kernel
theorem dX6_wordBy_74 : decode cX6_wordBy 74 = .ok (.invokestatic 201, 3) := by decide +kernel
theorem dX6_wordBy_77 : decode cX6_wordBy 77 = .ok (.lcmp, 1) := by decide +kernel
theorem dX6_wordBy_78 : decode cX6_wordBy 78 = .ok (.ifCond .ne 5, 3) := by decide +kernel
theorem dX6_wordBy_81 : decode cX6_wordBy 81 = .ok (.iconst 3, 1) := by decide +kernel
theorem dX6_wordBy_82 : decode cX6_wordBy 82 = .ok (.ireturn, 1) := by decide +kernel
theorem dX6_wordBy_83 : decode cX6_wordBy 83 = .ok (.lload_n 0, 1) := by decide +kernel
theorem dX6_wordBy_84 : decode cX6_wordBy 84 = .ok (.bipush 116, 2) := by decide +kernel
theorem dX6_wordBy_86 : decode cX6_wordBy 86 = .ok (.bipush 111, 2) := by decide +kernel
theorem dX6_wordBy_88 : decode cX6_wordBy 88 = .ok (.iconst 0, 1) := by decide +kernel
theorem dX6_wordBy_89 : decode cX6_wordBy 89 = .ok (.iconst 0, 1) := by decide +kernel
theorem dX6_wordBy_90 : decode cX6_wordBy 90 = .ok (.iconst 0, 1) := by decide +kernel
theorem dX6_wordBy_91 : decode cX6_wordBy 91 = .ok (.iconst 0, 1) := by decide +kernel
theorem dX6_wordBy_92 : decode cX6_wordBy 92 = .ok (.invokestatic 201, 3) := by decide +kernel
theorem dX6_wordBy_95 : decode cX6_wordBy 95 = .ok (.lcmp, 1) := by decide +kernel
theorem dX6_wordBy_96 : decode cX6_wordBy 96 = .ok (.ifCond .ne 5, 3) := by decide +kernel
theorem dX6_wordBy_99 : decode cX6_wordBy 99 = .ok (.iconst 4, 1) := by decide +kernel
theorem dX6_wordBy_100 : decode cX6_wordBy 100 = .ok (.ireturn, 1) := by decide +kernel
theorem dX6_wordBy_101 : decode cX6_wordBy 101 = .ok (.lload_n 0, 1) := by decide +kernel
theorem dX6_wordBy_102 : decode cX6_wordBy 102 = .ok (.bipush 115, 2) := by decide +kernel
theorem dX6_wordBy_104 : decode cX6_wordBy 104 = .ok (.bipush 114, 2) := by decide +kernel
theorem dX6_wordBy_106 : decode cX6_wordBy 106 = .ok (.bipush 99, 2) := by decide +kernel
theorem dX6_wordBy_108 : decode cX6_wordBy 108 = .ok (.iconst 0, 1) := by decide +kernel
theorem dX6_wordBy_109 : decode cX6_wordBy 109 = .ok (.iconst 0, 1) := by decide +kernel
theorem dX6_wordBy_110 : decode cX6_wordBy 110 = .ok (.iconst 0, 1) := by decide +kernel
theorem dX6_wordBy_111 : decode cX6_wordBy 111 = .ok (.invokestatic 201, 3) := by decide +kernel
theorem dX6_wordBy_114 : decode cX6_wordBy 114 = .ok (.lcmp, 1) := by decide +kernel
theorem dX6_wordBy_115 : decode cX6_wordBy 115 = .ok (.ifCond .ne 5, 3) := by decide +kernel
theorem dX6_wordBy_118 : decode cX6_wordBy 118 = .ok (.iconst 5, 1) := by decide +kernel
theorem dX6_wordBy_119 : decode cX6_wordBy 119 = .ok (.ireturn, 1) := by decide +kernel
theorem dX6_wordBy_120 : decode cX6_wordBy 120 = .ok (.lload_n 0, 1) := by decide +kernel
theorem dX6_wordBy_121 : decode cX6_wordBy 121 = .ok (.bipush 100, 2) := by decide +kernel
theorem dX6_wordBy_123 : decode cX6_wordBy 123 = .ok (.bipush 115, 2) := by decide +kernel
theorem dX6_wordBy_125 : decode cX6_wordBy 125 = .ok (.bipush 116, 2) := by decide +kernel
theorem dX6_wordBy_127 : decode cX6_wordBy 127 = .ok (.iconst 0, 1) := by decide +kernel
theorem dX6_wordBy_128 : decode cX6_wordBy 128 = .ok (.iconst 0, 1) := by decide +kernel
theorem dX6_wordBy_129 : decode cX6_wordBy 129 = .ok (.iconst 0, 1) := by decide +kernel
theorem dX6_wordBy_130 : decode cX6_wordBy 130 = .ok (.invokestatic 201, 3) := by decide +kernel
theorem dX6_wordBy_133 : decode cX6_wordBy 133 = .ok (.lcmp, 1) := by decide +kernel
theorem dX6_wordBy_134 : decode cX6_wordBy 134 = .ok (.ifCond .ne 6, 3) := by decide +kernel
theorem dX6_wordBy_137 : decode cX6_wordBy 137 = .ok (.bipush 6, 2) := by decide +kernel
theorem dX6_wordBy_139 : decode cX6_wordBy 139 = .ok (.ireturn, 1) := by decide +kernel
theorem dX6_wordBy_140 : decode cX6_wordBy 140 = .ok (.lload_n 0, 1) := by decide +kernel
theorem dX6_wordBy_141 : decode cX6_wordBy 141 = .ok (.bipush 112, 2) := by decide +kernel
theorem dX6_wordBy_143 : decode cX6_wordBy 143 = .ok (.bipush 111, 2) := by decide +kernel
theorem dX6_wordBy_145 : decode cX6_wordBy 145 = .ok (.bipush 114, 2) := by decide +kernel
theorem dX6_wordBy_147 : decode cX6_wordBy 147 = .ok (.bipush 116, 2) := by decide +kernel
theorem dX6_wordBy_149 : decode cX6_wordBy 149 = .ok (.iconst 0, 1) := by decide +kernel
theorem dX6_wordBy_150 : decode cX6_wordBy 150 = .ok (.iconst 0, 1) := by decide +kernel
theorem dX6_wordBy_151 : decode cX6_wordBy 151 = .ok (.invokestatic 201, 3) := by decide +kernel
theorem dX6_wordBy_154 : decode cX6_wordBy 154 = .ok (.lcmp, 1) := by decide +kernel
theorem dX6_wordBy_155 : decode cX6_wordBy 155 = .ok (.ifCond .ne 6, 3) := by decide +kernel
theorem dX6_wordBy_158 : decode cX6_wordBy 158 = .ok (.bipush 7, 2) := by decide +kernel
theorem dX6_wordBy_160 : decode cX6_wordBy 160 = .ok (.ireturn, 1) := by decide +kernel
theorem dX6_wordBy_161 : decode cX6_wordBy 161 = .ok (.lload_n 0, 1) := by decide +kernel
theorem dX6_wordBy_162 : decode cX6_wordBy 162 = .ok (.bipush 115, 2) := by decide +kernel
theorem dX6_wordBy_164 : decode cX6_wordBy 164 = .ok (.bipush 116, 2) := by decide +kernel
theorem dX6_wordBy_166 : decode cX6_wordBy 166 = .ok (.bipush 114, 2) := by decide +kernel
theorem dX6_wordBy_168 : decode cX6_wordBy 168 = .ok (.bipush 101, 2) := by decide +kernel
theorem dX6_wordBy_170 : decode cX6_wordBy 170 = .ok (.bipush 97, 2) := by decide +kernel
theorem dX6_wordBy_172 : decode cX6_wordBy 172 = .ok (.bipush 109, 2) := by decide +kernel
theorem dX6_wordBy_174 : decode cX6_wordBy 174 = .ok (.invokestatic 201, 3) := by decide +kernel
theorem dX6_wordBy_177 : decode cX6_wordBy 177 = .ok (.lcmp, 1) := by decide +kernel
theorem dX6_wordBy_178 : decode cX6_wordBy 178 = .ok (.ifCond .ne 6, 3) := by decide +kernel
theorem dX6_wordBy_181 : decode cX6_wordBy 181 = .ok (.bipush 8, 2) := by decide +kernel
theorem dX6_wordBy_183 : decode cX6_wordBy 183 = .ok (.ireturn, 1) := by decide +kernel
theorem dX6_wordBy_184 : decode cX6_wordBy 184 = .ok (.lload_n 0, 1) := by decide +kernel
theorem dX6_wordBy_185 : decode cX6_wordBy 185 = .ok (.bipush 115, 2) := by decide +kernel
theorem dX6_wordBy_187 : decode cX6_wordBy 187 = .ok (.bipush 105, 2) := by decide +kernel
theorem dX6_wordBy_189 : decode cX6_wordBy 189 = .ok (.bipush 110, 2) := by decide +kernel
theorem dX6_wordBy_191 : decode cX6_wordBy 191 = .ok (.bipush 103, 2) := by decide +kernel
theorem dX6_wordBy_193 : decode cX6_wordBy 193 = .ok (.bipush 108, 2) := by decide +kernel
theorem dX6_wordBy_195 : decode cX6_wordBy 195 = .ok (.bipush 101, 2) := by decide +kernel
theorem dX6_wordBy_197 : decode cX6_wordBy 197 = .ok (.invokestatic 201, 3) := by decide +kernel
theorem dX6_wordBy_200 : decode cX6_wordBy 200 = .ok (.lcmp, 1) := by decide +kernel
theorem dX6_wordBy_201 : decode cX6_wordBy 201 = .ok (.ifCond .ne 8, 3) := by decide +kernel
theorem dX6_wordBy_204 : decode cX6_wordBy 204 = .ok (.bipush 9, 2) := by decide +kernel
theorem dX6_wordBy_206 : decode cX6_wordBy 206 = .ok (.goto 4, 3) := by decide +kernel
theorem dX6_wordBy_209 : decode cX6_wordBy 209 = .ok (.iconst (-1), 1) := by decide +kernel
theorem dX6_wordBy_210 : decode cX6_wordBy 210 = .ok (.ireturn, 1) := by decide +kernel
theorem dX6_takesNumber_0 : decode cX6_takesNumber 0 = .ok (.aload_n 0, 1) := by decide +kernel
theorem dX6_takesNumber_1 : decode cX6_takesNumber 1 = .ok (.invokevirtual 205, 3) := by decide +kernel
theorem dX6_takesNumber_4 : decode cX6_takesNumber 4 = .ok (.aload_n 0, 1) := by decide +kernel
theorem dX6_takesNumber_5 : decode cX6_takesNumber 5 = .ok (.bipush 48, 2) := by decide +kernel
theorem dX6_takesNumber_7 : decode cX6_takesNumber 7 = .ok (.bipush 57, 2) := by decide +kernel
theorem dX6_takesNumber_9 : decode cX6_takesNumber 9 = .ok (.invokevirtual 185, 3) := by decide +kernel
theorem dX6_takesNumber_12 : decode cX6_takesNumber 12 = .ok (.ifCond .ne 12, 3) := by decide +kernel
theorem dX6_takesNumber_15 : decode cX6_takesNumber 15 = .ok (.aload_n 0, 1) := by decide +kernel
theorem dX6_takesNumber_16 : decode cX6_takesNumber 16 = .ok (.aload_n 0, 1) := by decide +kernel
theorem dX6_takesNumber_17 : decode cX6_takesNumber 17 = .ok (.getfield 182, 3) := by decide +kernel
theorem dX6_takesNumber_20 : decode cX6_takesNumber 20 = .ok (.invokevirtual 208, 3) := by decide +kernel
