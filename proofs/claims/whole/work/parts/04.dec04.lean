theorem dX5_nextStage_49 : decode cX5_nextStage 49 = .ok (.iload_n 3, 1) := by decide +kernel
theorem dX5_nextStage_50 : decode cX5_nextStage 50 = .ok (.iconst 1, 1) := by decide +kernel
theorem dX5_nextStage_51 : decode cX5_nextStage 51 = .ok (.if_icmp .ne 7, 3) := by decide +kernel
theorem dX5_nextStage_54 : decode cX5_nextStage 54 = .ok (.iconst 2, 1) := by decide +kernel
theorem dX5_nextStage_55 : decode cX5_nextStage 55 = .ok (.goto 4, 3) := by decide +kernel
theorem dX5_nextStage_58 : decode cX5_nextStage 58 = .ok (.iconst (-1), 1) := by decide +kernel
theorem dX5_nextStage_59 : decode cX5_nextStage 59 = .ok (.ireturn, 1) := by decide +kernel
theorem dX5_nextStage_60 : decode cX5_nextStage 60 = .ok (.iload_n 1, 1) := by decide +kernel
theorem dX5_nextStage_61 : decode cX5_nextStage 61 = .ok (.ifCond .ne 12, 3) := by decide +kernel
theorem dX5_nextStage_64 : decode cX5_nextStage 64 = .ok (.iload_n 3, 1) := by decide +kernel
theorem dX5_nextStage_65 : decode cX5_nextStage 65 = .ok (.iconst 2, 1) := by decide +kernel
theorem dX5_nextStage_66 : decode cX5_nextStage 66 = .ok (.if_icmp .ne 7, 3) := by decide +kernel
theorem dX5_nextStage_69 : decode cX5_nextStage 69 = .ok (.iconst 3, 1) := by decide +kernel
theorem dX5_nextStage_70 : decode cX5_nextStage 70 = .ok (.goto 4, 3) := by decide +kernel
theorem dX5_nextStage_73 : decode cX5_nextStage 73 = .ok (.iconst (-1), 1) := by decide +kernel
theorem dX5_nextStage_74 : decode cX5_nextStage 74 = .ok (.ireturn, 1) := by decide +kernel
theorem dX5_nextStage_75 : decode cX5_nextStage 75 = .ok (.iload_n 3, 1) := by decide +kernel
theorem dX5_nextStage_76 : decode cX5_nextStage 76 = .ok (.iconst 2, 1) := by decide +kernel
theorem dX5_nextStage_77 : decode cX5_nextStage 77 = .ok (.if_icmp .ne 7, 3) := by decide +kernel
theorem dX5_nextStage_80 : decode cX5_nextStage 80 = .ok (.iconst 3, 1) := by decide +kernel
theorem dX5_nextStage_81 : decode cX5_nextStage 81 = .ok (.goto 13, 3) := by decide +kernel
theorem dX5_nextStage_84 : decode cX5_nextStage 84 = .ok (.iload_n 3, 1) := by decide +kernel
theorem dX5_nextStage_85 : decode cX5_nextStage 85 = .ok (.iconst 3, 1) := by decide +kernel
theorem dX5_nextStage_86 : decode cX5_nextStage 86 = .ok (.if_icmp .ne 7, 3) := by decide +kernel
theorem dX5_nextStage_89 : decode cX5_nextStage 89 = .ok (.iconst 4, 1) := by decide +kernel
theorem dX5_nextStage_90 : decode cX5_nextStage 90 = .ok (.goto 4, 3) := by decide +kernel
theorem dX5_nextStage_93 : decode cX5_nextStage 93 = .ok (.iconst (-1), 1) := by decide +kernel
theorem dX5_nextStage_94 : decode cX5_nextStage 94 = .ok (.ireturn, 1) := by decide +kernel
theorem dX5_nextStage_95 : decode cX5_nextStage 95 = .ok (.iload_n 1, 1) := by decide +kernel
theorem dX5_nextStage_96 : decode cX5_nextStage 96 = .ok (.iload_n 2, 1) := by decide +kernel
theorem dX5_nextStage_97 : decode cX5_nextStage 97 = .ok (.if_icmp .ne 5, 3) := by decide +kernel
theorem dX5_nextStage_100 : decode cX5_nextStage 100 = .ok (.iconst (-1), 1) := by decide +kernel
theorem dX5_nextStage_101 : decode cX5_nextStage 101 = .ok (.ireturn, 1) := by decide +kernel
theorem dX5_nextStage_102 : decode cX5_nextStage 102 = .ok (.iload_n 3, 1) := by decide +kernel
theorem dX5_nextStage_103 : decode cX5_nextStage 103 = .ok (.iconst 2, 1) := by decide +kernel
theorem dX5_nextStage_104 : decode cX5_nextStage 104 = .ok (.if_icmp .ne 7, 3) := by decide +kernel
theorem dX5_nextStage_107 : decode cX5_nextStage 107 = .ok (.iconst 4, 1) := by decide +kernel
theorem dX5_nextStage_108 : decode cX5_nextStage 108 = .ok (.goto 13, 3) := by decide +kernel
theorem dX5_nextStage_111 : decode cX5_nextStage 111 = .ok (.iload_n 3, 1) := by decide +kernel
theorem dX5_nextStage_112 : decode cX5_nextStage 112 = .ok (.iconst 3, 1) := by decide +kernel
theorem dX5_nextStage_113 : decode cX5_nextStage 113 = .ok (.if_icmp .ne 7, 3) := by decide +kernel
theorem dX5_nextStage_116 : decode cX5_nextStage 116 = .ok (.iconst 5, 1) := by decide +kernel
theorem dX5_nextStage_117 : decode cX5_nextStage 117 = .ok (.goto 4, 3) := by decide +kernel
theorem dX5_nextStage_120 : decode cX5_nextStage 120 = .ok (.iconst (-1), 1) := by decide +kernel
theorem dX5_nextStage_121 : decode cX5_nextStage 121 = .ok (.ireturn, 1) := by decide +kernel
theorem dX5_nextStage_122 : decode cX5_nextStage 122 = .ok (.iload_n 3, 1) := by decide +kernel
theorem dX5_nextStage_123 : decode cX5_nextStage 123 = .ok (.iconst 2, 1) := by decide +kernel
theorem dX5_nextStage_124 : decode cX5_nextStage 124 = .ok (.if_icmp .eq 5, 3) := by decide +kernel
theorem dX5_nextStage_127 : decode cX5_nextStage 127 = .ok (.iconst (-1), 1) := by decide +kernel
theorem dX5_nextStage_128 : decode cX5_nextStage 128 = .ok (.ireturn, 1) := by decide +kernel
theorem dX5_nextStage_129 : decode cX5_nextStage 129 = .ok (.iload_n 1, 1) := by decide +kernel
theorem dX5_nextStage_130 : decode cX5_nextStage 130 = .ok (.iconst 1, 1) := by decide +kernel
theorem dX5_nextStage_131 : decode cX5_nextStage 131 = .ok (.if_icmp .ne 8, 3) := by decide +kernel
theorem dX5_nextStage_134 : decode cX5_nextStage 134 = .ok (.bipush 7, 2) := by decide +kernel
theorem dX5_nextStage_136 : decode cX5_nextStage 136 = .ok (.goto 5, 3) := by decide +kernel
theorem dX5_nextStage_139 : decode cX5_nextStage 139 = .ok (.bipush 6, 2) := by decide +kernel
theorem dX5_nextStage_141 : decode cX5_nextStage 141 = .ok (.ireturn, 1) := by decide +kernel
theorem dX5_nextStage_142 : decode cX5_nextStage 142 = .ok (.iload_n 3, 1) := by decide +kernel
theorem dX5_nextStage_143 : decode cX5_nextStage 143 = .ok (.iconst 2, 1) := by decide +kernel
theorem dX5_nextStage_144 : decode cX5_nextStage 144 = .ok (.if_icmp .ne 8, 3) := by decide +kernel
theorem dX5_nextStage_147 : decode cX5_nextStage 147 = .ok (.bipush 7, 2) := by decide +kernel
theorem dX5_nextStage_149 : decode cX5_nextStage 149 = .ok (.goto 4, 3) := by decide +kernel
theorem dX5_nextStage_152 : decode cX5_nextStage 152 = .ok (.iconst (-1), 1) := by decide +kernel
theorem dX5_nextStage_153 : decode cX5_nextStage 153 = .ok (.ireturn, 1) := by decide +kernel
theorem dX5_nextStage_154 : decode cX5_nextStage 154 = .ok (.iconst (-1), 1) := by decide +kernel
theorem dX5_nextStage_155 : decode cX5_nextStage 155 = .ok (.ireturn, 1) := by decide +kernel
theorem dX5_askForFlow_0 : decode cX5_askForFlow 0 = .ok (.aload_n 0, 1) := by decide +kernel
theorem dX5_askForFlow_1 : decode cX5_askForFlow 1 = .ok (.getfield 12, 3) := by decide +kernel
theorem dX5_askForFlow_4 : decode cX5_askForFlow 4 = .ok (.getfield 154, 3) := by decide +kernel
theorem dX5_askForFlow_7 : decode cX5_askForFlow 7 = .ok (.iload_n 1, 1) := by decide +kernel
theorem dX5_askForFlow_8 : decode cX5_askForFlow 8 = .ok (.iload_n 2, 1) := by decide +kernel
theorem dX5_askForFlow_9 : decode cX5_askForFlow 9 = .ok (.iload_n 3, 1) := by decide +kernel
theorem dX5_askForFlow_10 : decode cX5_askForFlow 10 = .ok (.iload 4, 2) := by decide +kernel
theorem dX5_askForFlow_12 : decode cX5_askForFlow 12 = .ok (.invokevirtual 236, 3) := by decide +kernel
theorem dX5_askForFlow_15 : decode cX5_askForFlow 15 = .ok (.istore 5, 2) := by decide +kernel
theorem dX5_askForFlow_17 : decode cX5_askForFlow 17 = .ok (.iload 5, 2) := by decide +kernel
theorem dX5_askForFlow_19 : decode cX5_askForFlow 19 = .ok (.iconst (-1), 1) := by decide +kernel
theorem dX5_askForFlow_20 : decode cX5_askForFlow 20 = .ok (.if_icmp .eq 17, 3) := by decide +kernel
theorem dX5_askForFlow_23 : decode cX5_askForFlow 23 = .ok (.aload_n 0, 1) := by decide +kernel
theorem dX5_askForFlow_24 : decode cX5_askForFlow 24 = .ok (.getfield 12, 3) := by decide +kernel
theorem dX5_askForFlow_27 : decode cX5_askForFlow 27 = .ok (.getfield 154, 3) := by decide +kernel
theorem dX5_askForFlow_30 : decode cX5_askForFlow 30 = .ok (.iload 5, 2) := by decide +kernel
theorem dX5_askForFlow_32 : decode cX5_askForFlow 32 = .ok (.invokevirtual 89, 3) := by decide +kernel
theorem dX5_askForFlow_35 : decode cX5_askForFlow 35 = .ok (.iconst 1, 1) := by decide +kernel
theorem dX5_askForFlow_36 : decode cX5_askForFlow 36 = .ok (.ireturn, 1) := by decide +kernel
theorem dX5_askForFlow_37 : decode cX5_askForFlow 37 = .ok (.aload_n 0, 1) := by decide +kernel
theorem dX5_askForFlow_38 : decode cX5_askForFlow 38 = .ok (.getfield 12, 3) := by decide +kernel
theorem dX5_askForFlow_41 : decode cX5_askForFlow 41 = .ok (.aload_n 0, 1) := by decide +kernel
theorem dX5_askForFlow_42 : decode cX5_askForFlow 42 = .ok (.getfield 12, 3) := by decide +kernel
theorem dX5_askForFlow_45 : decode cX5_askForFlow 45 = .ok (.getfield 56, 3) := by decide +kernel
theorem dX5_askForFlow_48 : decode cX5_askForFlow 48 = .ok (.iload_n 1, 1) := by decide +kernel
theorem dX5_askForFlow_49 : decode cX5_askForFlow 49 = .ok (.iload_n 2, 1) := by decide +kernel
theorem dX5_askForFlow_50 : decode cX5_askForFlow 50 = .ok (.iload_n 3, 1) := by decide +kernel
theorem dX5_askForFlow_51 : decode cX5_askForFlow 51 = .ok (.iload 4, 2) := by decide +kernel
theorem dX5_askForFlow_53 : decode cX5_askForFlow 53 = .ok (.invokevirtual 108, 3) := by decide +kernel
theorem dX5_askForFlow_56 : decode cX5_askForFlow 56 = .ok (.istore 6, 2) := by decide +kernel
theorem dX5_askForFlow_58 : decode cX5_askForFlow 58 = .ok (.iload 6, 2) := by decide +kernel
theorem dX5_askForFlow_60 : decode cX5_askForFlow 60 = .ok (.iconst (-1), 1) := by decide +kernel
theorem dX5_askForFlow_61 : decode cX5_askForFlow 61 = .ok (.if_icmp .ne 5, 3) := by decide +kernel
theorem dX5_askForFlow_64 : decode cX5_askForFlow 64 = .ok (.iconst 0, 1) := by decide +kernel
theorem dX5_askForFlow_65 : decode cX5_askForFlow 65 = .ok (.ireturn, 1) := by decide +kernel
theorem dX5_askForFlow_66 : decode cX5_askForFlow 66 = .ok (.aload_n 0, 1) := by decide +kernel
theorem dX5_askForFlow_67 : decode cX5_askForFlow 67 = .ok (.getfield 12, 3) := by decide +kernel
theorem dX5_askForFlow_70 : decode cX5_askForFlow 70 = .ok (.getfield 56, 3) := by decide +kernel
theorem dX5_askForFlow_73 : decode cX5_askForFlow 73 = .ok (.iload 6, 2) := by decide +kernel
theorem dX5_askForFlow_75 : decode cX5_askForFlow 75 = .ok (.bipush 10, 2) := by decide +kernel
theorem dX5_askForFlow_77 : decode cX5_askForFlow 77 = .ok (.aload_n 0, 1) := by decide +kernel
theorem dX5_askForFlow_78 : decode cX5_askForFlow 78 = .ok (.getfield 12, 3) := by decide +kernel
theorem dX5_askForFlow_81 : decode cX5_askForFlow 81 = .ok (.getfield 56, 3) := by decide +kernel
theorem dX5_askForFlow_84 : decode cX5_askForFlow 84 = .ok (.iload 6, 2) := by decide +kernel
theorem dX5_askForFlow_86 : decode cX5_askForFlow 86 = .ok (.bipush 10, 2) := by decide +kernel
theorem dX5_askForFlow_88 : decode cX5_askForFlow 88 = .ok (.invokevirtual 81, 3) := by decide +kernel
theorem dX5_askForFlow_91 : decode cX5_askForFlow 91 = .ok (.iconst 1, 1) := by decide +kernel
theorem dX5_askForFlow_92 : decode cX5_askForFlow 92 = .ok (.iadd, 1) := by decide +kernel
theorem dX5_askForFlow_93 : decode cX5_askForFlow 93 = .ok (.invokevirtual 85, 3) := by decide +kernel
theorem dX5_askForFlow_96 : decode cX5_askForFlow 96 = .ok (.aload_n 0, 1) := by decide +kernel
theorem dX5_askForFlow_97 : decode cX5_askForFlow 97 = .ok (.getfield 12, 3) := by decide +kernel
theorem dX5_askForFlow_100 : decode cX5_askForFlow 100 = .ok (.getfield 56, 3) := by decide +kernel
theorem dX5_askForFlow_103 : decode cX5_askForFlow 103 = .ok (.iload 6, 2) := by decide +kernel
theorem dX5_askForFlow_105 : decode cX5_askForFlow 105 = .ok (.bipush 9, 2) := by decide +kernel
theorem dX5_askForFlow_107 : decode cX5_askForFlow 107 = .ok (.invokevirtual 81, 3) := by decide +kernel
theorem dX5_askForFlow_110 : decode cX5_askForFlow 110 = .ok (.ireturn, 1) := by decide +kernel
theorem dX5_openFlow_0 : decode cX5_openFlow 0 = .ok (.aload_n 0, 1) := by decide +kernel
theorem dX5_openFlow_1 : decode cX5_openFlow 1 = .ok (.getfield 12, 3) := by decide +kernel
theorem dX5_openFlow_4 : decode cX5_openFlow 4 = .ok (.getfield 151, 3) := by decide +kernel
theorem dX5_openFlow_7 : decode cX5_openFlow 7 = .ok (.invokevirtual 66, 3) := by decide +kernel
theorem dX5_openFlow_10 : decode cX5_openFlow 10 = .ok (.ifCond .eq 12, 3) := by decide +kernel
theorem dX5_openFlow_13 : decode cX5_openFlow 13 = .ok (.aload_n 0, 1) := by decide +kernel
theorem dX5_openFlow_14 : decode cX5_openFlow 14 = .ok (.invokevirtual 256, 3) := by decide +kernel
theorem dX5_openFlow_17 : decode cX5_openFlow 17 = .ok (.ifCond .ne 5, 3) := by decide +kernel
theorem dX5_openFlow_20 : decode cX5_openFlow 20 = .ok (.iconst 4, 1) := by decide +kernel
theorem dX5_openFlow_21 : decode cX5_openFlow 21 = .ok (.ireturn, 1) := by decide +kernel
theorem dX5_openFlow_22 : decode cX5_openFlow 22 = .ok (.aload_n 0, 1) := by decide +kernel
theorem dX5_openFlow_23 : decode cX5_openFlow 23 = .ok (.getfield 12, 3) := by decide +kernel
theorem dX5_openFlow_26 : decode cX5_openFlow 26 = .ok (.getfield 151, 3) := by decide +kernel
theorem dX5_openFlow_29 : decode cX5_openFlow 29 = .ok (.iload_n 1, 1) := by decide +kernel
theorem dX5_openFlow_30 : decode cX5_openFlow 30 = .ok (.iload_n 2, 1) := by decide +kernel
theorem dX5_openFlow_31 : decode cX5_openFlow 31 = .ok (.iload_n 3, 1) := by decide +kernel
theorem dX5_openFlow_32 : decode cX5_openFlow 32 = .ok (.iload 4, 2) := by decide +kernel
theorem dX5_openFlow_34 : decode cX5_openFlow 34 = .ok (.invokestatic 157, 3) := by decide +kernel
theorem dX5_openFlow_37 : decode cX5_openFlow 37 = .ok (.aload_n 0, 1) := by decide +kernel
theorem dX5_openFlow_38 : decode cX5_openFlow 38 = .ok (.getfield 12, 3) := by decide +kernel
theorem dX5_openFlow_41 : decode cX5_openFlow 41 = .ok (.getfield 151, 3) := by decide +kernel
theorem dX5_openFlow_44 : decode cX5_openFlow 44 = .ok (.invokevirtual 60, 3) := by decide +kernel
theorem dX5_openFlow_47 : decode cX5_openFlow 47 = .ok (.iconst 1, 1) := by decide +kernel
theorem dX5_openFlow_48 : decode cX5_openFlow 48 = .ok (.isub, 1) := by decide +kernel
theorem dX5_openFlow_49 : decode cX5_openFlow 49 = .ok (.istore 5, 2) := by decide +kernel
theorem dX5_openFlow_51 : decode cX5_openFlow 51 = .ok (.aload_n 0, 1) := by decide +kernel
theorem dX5_openFlow_52 : decode cX5_openFlow 52 = .ok (.getfield 12, 3) := by decide +kernel
theorem dX5_openFlow_55 : decode cX5_openFlow 55 = .ok (.getfield 151, 3) := by decide +kernel
theorem dX5_openFlow_58 : decode cX5_openFlow 58 = .ok (.iload 5, 2) := by decide +kernel
theorem dX5_openFlow_60 : decode cX5_openFlow 60 = .ok (.bipush 6, 2) := by decide +kernel
theorem dX5_openFlow_62 : decode cX5_openFlow 62 = .ok (.iconst (-1), 1) := by decide +kernel
theorem dX5_openFlow_63 : decode cX5_openFlow 63 = .ok (.invokevirtual 85, 3) := by decide +kernel
theorem dX5_openFlow_66 : decode cX5_openFlow 66 = .ok (.aload_n 0, 1) := by decide +kernel
theorem dX5_openFlow_67 : decode cX5_openFlow 67 = .ok (.getfield 12, 3) := by decide +kernel
theorem dX5_openFlow_70 : decode cX5_openFlow 70 = .ok (.iload 5, 2) := by decide +kernel
theorem dX5_openFlow_72 : decode cX5_openFlow 72 = .ok (.iload 4, 2) := by decide +kernel
theorem dX5_openFlow_74 : decode cX5_openFlow 74 = .ok (.ifCond .ne 7, 3) := by decide +kernel
theorem dX5_openFlow_77 : decode cX5_openFlow 77 = .ok (.iconst 1, 1) := by decide +kernel
theorem dX5_openFlow_78 : decode cX5_openFlow 78 = .ok (.goto 5, 3) := by decide +kernel
theorem dX5_openFlow_81 : decode cX5_openFlow 81 = .ok (.bipush 6, 2) := by decide +kernel
theorem dX5_openFlow_83 : decode cX5_openFlow 83 = .ok (.invokevirtual 253, 3) := by decide +kernel
theorem dX5_openFlow_86 : decode cX5_openFlow 86 = .ok (.iconst 1, 1) := by decide +kernel
theorem dX5_openFlow_87 : decode cX5_openFlow 87 = .ok (.ireturn, 1) := by decide +kernel
theorem dX5_makeRoom_0 : decode cX5_makeRoom 0 = .ok (.iconst (-1), 1) := by decide +kernel
theorem dX5_makeRoom_1 : decode cX5_makeRoom 1 = .ok (.istore_n 1, 1) := by decide +kernel
theorem dX5_makeRoom_2 : decode cX5_makeRoom 2 = .ok (.iconst 0, 1) := by decide +kernel
theorem dX5_makeRoom_3 : decode cX5_makeRoom 3 = .ok (.istore_n 2, 1) := by decide +kernel
theorem dX5_makeRoom_4 : decode cX5_makeRoom 4 = .ok (.iload_n 2, 1) := by decide +kernel
theorem dX5_makeRoom_5 : decode cX5_makeRoom 5 = .ok (.aload_n 0, 1) := by decide +kernel
theorem dX5_makeRoom_6 : decode cX5_makeRoom 6 = .ok (.getfield 12, 3) := by decide +kernel
theorem dX5_makeRoom_9 : decode cX5_makeRoom 9 = .ok (.getfield 151, 3) := by decide +kernel
theorem dX5_makeRoom_12 : decode cX5_makeRoom 12 = .ok (.invokevirtual 60, 3) := by decide +kernel
theorem dX5_makeRoom_15 : decode cX5_makeRoom 15 = .ok (.if_icmp .ge 70, 3) := by decide +kernel
theorem dX5_makeRoom_18 : decode cX5_makeRoom 18 = .ok (.aload_n 0, 1) := by decide +kernel
theorem dX5_makeRoom_19 : decode cX5_makeRoom 19 = .ok (.getfield 12, 3) := by decide +kernel
theorem dX5_makeRoom_22 : decode cX5_makeRoom 22 = .ok (.getfield 151, 3) := by decide +kernel
theorem dX5_makeRoom_25 : decode cX5_makeRoom 25 = .ok (.iload_n 2, 1) := by decide +kernel
theorem dX5_makeRoom_26 : decode cX5_makeRoom 26 = .ok (.iconst 4, 1) := by decide +kernel
theorem dX5_makeRoom_27 : decode cX5_makeRoom 27 = .ok (.invokevirtual 81, 3) := by decide +kernel
theorem dX5_makeRoom_30 : decode cX5_makeRoom 30 = .ok (.istore_n 3, 1) := by decide +kernel
theorem dX5_makeRoom_31 : decode cX5_makeRoom 31 = .ok (.iload_n 3, 1) := by decide +kernel
theorem dX5_makeRoom_32 : decode cX5_makeRoom 32 = .ok (.iconst 1, 1) := by decide +kernel
theorem dX5_makeRoom_33 : decode cX5_makeRoom 33 = .ok (.if_icmp .eq 12, 3) := by decide +kernel
theorem dX5_makeRoom_36 : decode cX5_makeRoom 36 = .ok (.iload_n 3, 1) := by decide +kernel
theorem dX5_makeRoom_37 : decode cX5_makeRoom 37 = .ok (.bipush 6, 2) := by decide +kernel
theorem dX5_makeRoom_39 : decode cX5_makeRoom 39 = .ok (.if_icmp .eq 6, 3) := by decide +kernel
theorem dX5_makeRoom_42 : decode cX5_makeRoom 42 = .ok (.goto 37, 3) := by decide +kernel
theorem dX5_makeRoom_45 : decode cX5_makeRoom 45 = .ok (.iload_n 1, 1) := by decide +kernel
theorem dX5_makeRoom_46 : decode cX5_makeRoom 46 = .ok (.iconst (-1), 1) := by decide +kernel
theorem dX5_makeRoom_47 : decode cX5_makeRoom 47 = .ok (.if_icmp .eq 30, 3) := by decide +kernel
theorem dX5_makeRoom_50 : decode cX5_makeRoom 50 = .ok (.aload_n 0, 1) := by decide +kernel
theorem dX5_makeRoom_51 : decode cX5_makeRoom 51 = .ok (.getfield 12, 3) := by decide +kernel
theorem dX5_makeRoom_54 : decode cX5_makeRoom 54 = .ok (.getfield 151, 3) := by decide +kernel
theorem dX5_makeRoom_57 : decode cX5_makeRoom 57 = .ok (.iload_n 2, 1) := by decide +kernel
theorem dX5_makeRoom_58 : decode cX5_makeRoom 58 = .ok (.iconst 5, 1) := by decide +kernel
theorem dX5_makeRoom_59 : decode cX5_makeRoom 59 = .ok (.invokevirtual 81, 3) := by decide +kernel
theorem dX5_makeRoom_62 : decode cX5_makeRoom 62 = .ok (.aload_n 0, 1) := by decide +kernel
theorem dX5_makeRoom_63 : decode cX5_makeRoom 63 = .ok (.getfield 12, 3) := by decide +kernel
theorem dX5_makeRoom_66 : decode cX5_makeRoom 66 = .ok (.getfield 151, 3) := by decide +kernel
theorem dX5_makeRoom_69 : decode cX5_makeRoom 69 = .ok (.iload_n 1, 1) := by decide +kernel
theorem dX5_makeRoom_70 : decode cX5_makeRoom 70 = .ok (.iconst 5, 1) := by decide +kernel
theorem dX5_makeRoom_71 : decode cX5_makeRoom 71 = .ok (.invokevirtual 81, 3) := by decide +kernel
theorem dX5_makeRoom_74 : decode cX5_makeRoom 74 = .ok (.if_icmp .ge 5, 3) := by decide +kernel
theorem dX5_makeRoom_77 : decode cX5_makeRoom 77 = .ok (.iload_n 2, 1) := by decide +kernel
theorem dX5_makeRoom_78 : decode cX5_makeRoom 78 = .ok (.istore_n 1, 1) := by decide +kernel
theorem dX5_makeRoom_79 : decode cX5_makeRoom 79 = .ok (.iinc 2 1, 3) := by decide +kernel
theorem dX5_makeRoom_82 : decode cX5_makeRoom 82 = .ok (.goto (-78), 3) := by decide +kernel
theorem dX5_makeRoom_85 : decode cX5_makeRoom 85 = .ok (.iload_n 1, 1) := by decide +kernel
theorem dX5_makeRoom_86 : decode cX5_makeRoom 86 = .ok (.iconst (-1), 1) := by decide +kernel
theorem dX5_makeRoom_87 : decode cX5_makeRoom 87 = .ok (.if_icmp .ne 5, 3) := by decide +kernel
theorem dX5_makeRoom_90 : decode cX5_makeRoom 90 = .ok (.iconst 0, 1) := by decide +kernel
theorem dX5_makeRoom_91 : decode cX5_makeRoom 91 = .ok (.ireturn, 1) := by decide +kernel
theorem dX5_makeRoom_92 : decode cX5_makeRoom 92 = .ok (.aload_n 0, 1) := by decide +kernel
theorem dX5_makeRoom_93 : decode cX5_makeRoom 93 = .ok (.getfield 12, 3) := by decide +kernel
theorem dX5_makeRoom_96 : decode cX5_makeRoom 96 = .ok (.getfield 151, 3) := by decide +kernel
theorem dX5_makeRoom_99 : decode cX5_makeRoom 99 = .ok (.iload_n 1, 1) := by decide +kernel
theorem dX5_makeRoom_100 : decode cX5_makeRoom 100 = .ok (.invokevirtual 89, 3) := by decide +kernel
theorem dX5_makeRoom_103 : decode cX5_makeRoom 103 = .ok (.iconst 1, 1) := by decide +kernel
theorem dX5_makeRoom_104 : decode cX5_makeRoom 104 = .ok (.ireturn, 1) := by decide +kernel
theorem dX5_appendCase_0 : decode cX5_appendCase 0 = .ok (.aload_n 0, 1) := by decide +kernel
theorem dX5_appendCase_1 : decode cX5_appendCase 1 = .ok (.invokevirtual 60, 3) := by decide +kernel
theorem dX5_appendCase_4 : decode cX5_appendCase 4 = .ok (.istore 5, 2) := by decide +kernel
theorem dX5_appendCase_6 : decode cX5_appendCase 6 = .ok (.aload_n 0, 1) := by decide +kernel
theorem dX5_appendCase_7 : decode cX5_appendCase 7 = .ok (.iload 5, 2) := by decide +kernel
theorem dX5_appendCase_9 : decode cX5_appendCase 9 = .ok (.invokevirtual 223, 3) := by decide +kernel
theorem dX5_appendCase_12 : decode cX5_appendCase 12 = .ok (.aload_n 0, 1) := by decide +kernel
theorem dX5_appendCase_13 : decode cX5_appendCase 13 = .ok (.iload 5, 2) := by decide +kernel
theorem dX5_appendCase_15 : decode cX5_appendCase 15 = .ok (.iconst 0, 1) := by decide +kernel
theorem dX5_appendCase_16 : decode cX5_appendCase 16 = .ok (.iload_n 1, 1) := by decide +kernel
theorem dX5_appendCase_17 : decode cX5_appendCase 17 = .ok (.invokevirtual 85, 3) := by decide +kernel
theorem dX5_appendCase_20 : decode cX5_appendCase 20 = .ok (.aload_n 0, 1) := by decide +kernel
theorem dX5_appendCase_21 : decode cX5_appendCase 21 = .ok (.iload 5, 2) := by decide +kernel
theorem dX5_appendCase_23 : decode cX5_appendCase 23 = .ok (.iconst 1, 1) := by decide +kernel
theorem dX5_appendCase_24 : decode cX5_appendCase 24 = .ok (.iload_n 2, 1) := by decide +kernel
theorem dX5_appendCase_25 : decode cX5_appendCase 25 = .ok (.invokevirtual 85, 3) := by decide +kernel
theorem dX5_appendCase_28 : decode cX5_appendCase 28 = .ok (.aload_n 0, 1) := by decide +kernel
theorem dX5_appendCase_29 : decode cX5_appendCase 29 = .ok (.iload 5, 2) := by decide +kernel
theorem dX5_appendCase_31 : decode cX5_appendCase 31 = .ok (.iconst 2, 1) := by decide +kernel
theorem dX5_appendCase_32 : decode cX5_appendCase 32 = .ok (.iload_n 3, 1) := by decide +kernel
theorem dX5_appendCase_33 : decode cX5_appendCase 33 = .ok (.invokevirtual 85, 3) := by decide +kernel
theorem dX5_appendCase_36 : decode cX5_appendCase 36 = .ok (.aload_n 0, 1) := by decide +kernel
theorem dX5_appendCase_37 : decode cX5_appendCase 37 = .ok (.iload 5, 2) := by decide +kernel
theorem dX5_appendCase_39 : decode cX5_appendCase 39 = .ok (.iconst 3, 1) := by decide +kernel
theorem dX5_appendCase_40 : decode cX5_appendCase 40 = .ok (.iload 4, 2) := by decide +kernel
theorem dX5_appendCase_42 : decode cX5_appendCase 42 = .ok (.invokevirtual 85, 3) := by decide +kernel
theorem dX5_appendCase_45 : decode cX5_appendCase 45 = .ok (.return_, 1) := by decide +kernel
theorem dX5_actionOfFlow_0 : decode cX5_actionOfFlow 0 = .ok (.aload_n 0, 1) := by decide +kernel
theorem dX5_actionOfFlow_1 : decode cX5_actionOfFlow 1 = .ok (.getfield 12, 3) := by decide +kernel
theorem dX5_actionOfFlow_4 : decode cX5_actionOfFlow 4 = .ok (.aload_n 0, 1) := by decide +kernel
theorem dX5_actionOfFlow_5 : decode cX5_actionOfFlow 5 = .ok (.getfield 12, 3) := by decide +kernel
theorem dX5_actionOfFlow_8 : decode cX5_actionOfFlow 8 = .ok (.getfield 56, 3) := by decide +kernel
theorem dX5_actionOfFlow_11 : decode cX5_actionOfFlow 11 = .ok (.aload_n 0, 1) := by decide +kernel
theorem dX5_actionOfFlow_12 : decode cX5_actionOfFlow 12 = .ok (.getfield 12, 3) := by decide +kernel
theorem dX5_actionOfFlow_15 : decode cX5_actionOfFlow 15 = .ok (.getfield 151, 3) := by decide +kernel
theorem dX5_actionOfFlow_18 : decode cX5_actionOfFlow 18 = .ok (.iload_n 1, 1) := by decide +kernel
theorem dX5_actionOfFlow_19 : decode cX5_actionOfFlow 19 = .ok (.iconst 0, 1) := by decide +kernel
theorem dX5_actionOfFlow_20 : decode cX5_actionOfFlow 20 = .ok (.invokevirtual 81, 3) := by decide +kernel
theorem dX5_actionOfFlow_23 : decode cX5_actionOfFlow 23 = .ok (.aload_n 0, 1) := by decide +kernel
theorem dX5_actionOfFlow_24 : decode cX5_actionOfFlow 24 = .ok (.getfield 12, 3) := by decide +kernel
theorem dX5_actionOfFlow_27 : decode cX5_actionOfFlow 27 = .ok (.getfield 151, 3) := by decide +kernel
theorem dX5_actionOfFlow_30 : decode cX5_actionOfFlow 30 = .ok (.iload_n 1, 1) := by decide +kernel
theorem dX5_actionOfFlow_31 : decode cX5_actionOfFlow 31 = .ok (.iconst 1, 1) := by decide +kernel
theorem dX5_actionOfFlow_32 : decode cX5_actionOfFlow 32 = .ok (.invokevirtual 81, 3) := by decide +kernel
theorem dX5_actionOfFlow_35 : decode cX5_actionOfFlow 35 = .ok (.aload_n 0, 1) := by decide +kernel
theorem dX5_actionOfFlow_36 : decode cX5_actionOfFlow 36 = .ok (.getfield 12, 3) := by decide +kernel
theorem dX5_actionOfFlow_39 : decode cX5_actionOfFlow 39 = .ok (.getfield 151, 3) := by decide +kernel
theorem dX5_actionOfFlow_42 : decode cX5_actionOfFlow 42 = .ok (.iload_n 1, 1) := by decide +kernel
theorem dX5_actionOfFlow_43 : decode cX5_actionOfFlow 43 = .ok (.iconst 2, 1) := by decide +kernel
theorem dX5_actionOfFlow_44 : decode cX5_actionOfFlow 44 = .ok (.invokevirtual 81, 3) := by decide +kernel
theorem dX5_actionOfFlow_47 : decode cX5_actionOfFlow 47 = .ok (.aload_n 0, 1) := by decide +kernel
theorem dX5_actionOfFlow_48 : decode cX5_actionOfFlow 48 = .ok (.getfield 12, 3) := by decide +kernel
theorem dX5_actionOfFlow_51 : decode cX5_actionOfFlow 51 = .ok (.getfield 151, 3) := by decide +kernel
theorem dX5_actionOfFlow_54 : decode cX5_actionOfFlow 54 = .ok (.iload_n 1, 1) := by decide +kernel
theorem dX5_actionOfFlow_55 : decode cX5_actionOfFlow 55 = .ok (.iconst 3, 1) := by decide +kernel
theorem dX5_actionOfFlow_56 : decode cX5_actionOfFlow 56 = .ok (.invokevirtual 81, 3) := by decide +kernel
theorem dX5_actionOfFlow_59 : decode cX5_actionOfFlow 59 = .ok (.invokevirtual 233, 3) := by decide +kernel
theorem dX5_actionOfFlow_62 : decode cX5_actionOfFlow 62 = .ok (.ireturn, 1) := by decide +kernel
theorem dX5_removeOver_0 : decode cX5_removeOver 0 = .ok (.aload_n 1, 1) := by decide +kernel
theorem dX5_removeOver_1 : decode cX5_removeOver 1 = .ok (.invokevirtual 60, 3) := by decide +kernel
theorem dX5_removeOver_4 : decode cX5_removeOver 4 = .ok (.istore_n 3, 1) := by decide +kernel
theorem dX5_removeOver_5 : decode cX5_removeOver 5 = .ok (.iload_n 3, 1) := by decide +kernel
theorem dX5_removeOver_6 : decode cX5_removeOver 6 = .ok (.iconst 1, 1) := by decide +kernel
theorem dX5_removeOver_7 : decode cX5_removeOver 7 = .ok (.isub, 1) := by decide +kernel
theorem dX5_removeOver_8 : decode cX5_removeOver 8 = .ok (.istore 4, 2) := by decide +kernel
theorem dX5_removeOver_10 : decode cX5_removeOver 10 = .ok (.iload 4, 2) := by decide +kernel
theorem dX5_removeOver_12 : decode cX5_removeOver 12 = .ok (.ifCond .lt 32, 3) := by decide +kernel
theorem dX5_removeOver_15 : decode cX5_removeOver 15 = .ok (.aload_n 1, 1) := by decide +kernel
theorem dX5_removeOver_16 : decode cX5_removeOver 16 = .ok (.iload 4, 2) := by decide +kernel
theorem dX5_removeOver_18 : decode cX5_removeOver 18 = .ok (.iload_n 2, 1) := by decide +kernel
theorem dX5_removeOver_19 : decode cX5_removeOver 19 = .ok (.invokevirtual 81, 3) := by decide +kernel
theorem dX5_removeOver_22 : decode cX5_removeOver 22 = .ok (.aload_n 0, 1) := by decide +kernel
theorem dX5_removeOver_23 : decode cX5_removeOver 23 = .ok (.getfield 12, 3) := by decide +kernel
theorem dX5_removeOver_26 : decode cX5_removeOver 26 = .ok (.getfield 161, 3) := by decide +kernel
theorem dX5_removeOver_29 : decode cX5_removeOver 29 = .ok (.if_icmp .gt 9, 3) := by decide +kernel
theorem dX5_removeOver_32 : decode cX5_removeOver 32 = .ok (.aload_n 1, 1) := by decide +kernel
theorem dX5_removeOver_33 : decode cX5_removeOver 33 = .ok (.iload 4, 2) := by decide +kernel
theorem dX5_removeOver_35 : decode cX5_removeOver 35 = .ok (.invokevirtual 89, 3) := by decide +kernel
theorem dX5_removeOver_38 : decode cX5_removeOver 38 = .ok (.iinc 4 (-1), 3) := by decide +kernel
theorem dX5_removeOver_41 : decode cX5_removeOver 41 = .ok (.goto (-31), 3) := by decide +kernel
theorem dX5_removeOver_44 : decode cX5_removeOver 44 = .ok (.iload_n 3, 1) := by decide +kernel
theorem dX5_removeOver_45 : decode cX5_removeOver 45 = .ok (.aload_n 1, 1) := by decide +kernel
theorem dX5_removeOver_46 : decode cX5_removeOver 46 = .ok (.invokevirtual 60, 3) := by decide +kernel
theorem dX5_removeOver_49 : decode cX5_removeOver 49 = .ok (.isub, 1) := by decide +kernel
theorem dX5_removeOver_50 : decode cX5_removeOver 50 = .ok (.ireturn, 1) := by decide +kernel
theorem dX5_tallyOf_0 : decode cX5_tallyOf 0 = .ok (.iload_n 0, 1) := by decide +kernel
theorem dX5_tallyOf_1 : decode cX5_tallyOf 1 = .ok (.tableswitch 39 0 3 #[33, 31, 35, 37], 31) := by decide +kernel
theorem dX5_tallyOf_32 : decode cX5_tallyOf 32 = .ok (.iconst 0, 1) := by decide +kernel
theorem dX5_tallyOf_33 : decode cX5_tallyOf 33 = .ok (.ireturn, 1) := by decide +kernel
theorem dX5_tallyOf_34 : decode cX5_tallyOf 34 = .ok (.iconst 1, 1) := by decide +kernel
theorem dX5_tallyOf_35 : decode cX5_tallyOf 35 = .ok (.ireturn, 1) := by decide +kernel
theorem dX5_tallyOf_36 : decode cX5_tallyOf 36 = .ok (.iconst 2, 1) := by decide +kernel
theorem dX5_tallyOf_37 : decode cX5_tallyOf 37 = .ok (.ireturn, 1) := by decide +kernel
theorem dX5_tallyOf_38 : decode cX5_tallyOf 38 = .ok (.iconst 3, 1) := by decide +kernel
theorem dX5_tallyOf_39 : decode cX5_tallyOf 39 = .ok (.ireturn, 1) := by decide +kernel
theorem dX5_tallyOf_40 : decode cX5_tallyOf 40 = .ok (.iconst 4, 1) := by decide +kernel
theorem dX5_tallyOf_41 : decode cX5_tallyOf 41 = .ok (.ireturn, 1) := by decide +kernel
theorem dX6_init_0 : decode cX6_init 0 = .ok (.aload_n 0, 1) := by decide +kernel
theorem dX6_init_1 : decode cX6_init 1 = .ok (.invokespecial 1, 3) := by decide +kernel
theorem dX6_init_4 : decode cX6_init 4 = .ok (.aload_n 0, 1) := by decide +kernel
theorem dX6_init_5 : decode cX6_init 5 = .ok (.sipush 401, 3) := by decide +kernel
theorem dX6_init_8 : decode cX6_init 8 = .ok (.newarray .int, 2) := by decide +kernel
theorem dX6_init_10 : decode cX6_init 10 = .ok (.putfield 7, 3) := by decide +kernel
theorem dX6_init_13 : decode cX6_init 13 = .ok (.aload_n 0, 1) := by decide +kernel
theorem dX6_init_14 : decode cX6_init 14 = .ok (.sipush 2005, 3) := by decide +kernel
theorem dX6_init_17 : decode cX6_init 17 = .ok (.newarray .int, 2) := by decide +kernel
theorem dX6_init_19 : decode cX6_init 19 = .ok (.putfield 13, 3) := by decide +kernel
theorem dX6_init_22 : decode cX6_init 22 = .ok (.aload_n 0, 1) := by decide +kernel
theorem dX6_init_23 : decode cX6_init 23 = .ok (.iconst 3, 1) := by decide +kernel
theorem dX6_init_24 : decode cX6_init 24 = .ok (.newarray .int, 2) := by decide +kernel
theorem dX6_init_26 : decode cX6_init 26 = .ok (.putfield 16, 3) := by decide +kernel
theorem dX6_init_29 : decode cX6_init 29 = .ok (.aload_n 0, 1) := by decide +kernel
theorem dX6_init_30 : decode cX6_init 30 = .ok (.bipush 120, 2) := by decide +kernel
theorem dX6_init_32 : decode cX6_init 32 = .ok (.newarray .int, 2) := by decide +kernel
theorem dX6_init_34 : decode cX6_init 34 = .ok (.putfield 19, 3) := by decide +kernel
theorem dX6_init_37 : decode cX6_init 37 = .ok (.aload_n 0, 1) := by decide +kernel
theorem dX6_init_38 : decode cX6_init 38 = .ok (.bipush 11, 2) := by decide +kernel
theorem dX6_init_40 : decode cX6_init 40 = .ok (.newarray .int, 2) := by decide +kernel
theorem dX6_init_42 : decode cX6_init 42 = .ok (.putfield 22, 3) := by decide +kernel
theorem dX6_init_45 : decode cX6_init 45 = .ok (.aload_n 0, 1) := by decide +kernel
theorem dX6_init_46 : decode cX6_init 46 = .ok (.sipush 164, 3) := by decide +kernel
theorem dX6_init_49 : decode cX6_init 49 = .ok (.newarray .int, 2) := by decide +kernel
theorem dX6_init_51 : decode cX6_init 51 = .ok (.putfield 25, 3) := by decide +kernel
theorem dX6_init_54 : decode cX6_init 54 = .ok (.aload_n 0, 1) := by decide +kernel
theorem dX6_init_55 : decode cX6_init 55 = .ok (.sipush 132, 3) := by decide +kernel
theorem dX6_init_58 : decode cX6_init 58 = .ok (.newarray .int, 2) := by decide +kernel
theorem dX6_init_60 : decode cX6_init 60 = .ok (.putfield 28, 3) := by decide +kernel
theorem dX6_init_63 : decode cX6_init 63 = .ok (.aload_n 0, 1) := by decide +kernel
theorem dX6_init_64 : decode cX6_init 64 = .ok (.getfield 7, 3) := by decide +kernel
theorem dX6_init_67 : decode cX6_init 67 = .ok (.sipush 387, 3) := by decide +kernel
theorem dX6_init_70 : decode cX6_init 70 = .ok (.iconst 5, 1) := by decide +kernel
theorem dX6_init_71 : decode cX6_init 71 = .ok (.iastore, 1) := by decide +kernel
theorem dX6_init_72 : decode cX6_init 72 = .ok (.aload_n 0, 1) := by decide +kernel
theorem dX6_init_73 : decode cX6_init 73 = .ok (.getfield 7, 3) := by decide +kernel
theorem dX6_init_76 : decode cX6_init 76 = .ok (.sipush 388, 3) := by decide +kernel
theorem dX6_init_79 : decode cX6_init 79 = .ok (.iconst 5, 1) := by decide +kernel
theorem dX6_init_80 : decode cX6_init 80 = .ok (.iastore, 1) := by decide +kernel
theorem dX6_init_81 : decode cX6_init 81 = .ok (.aload_n 0, 1) := by decide +kernel
theorem dX6_init_82 : decode cX6_init 82 = .ok (.getfield 7, 3) := by decide +kernel
theorem dX6_init_85 : decode cX6_init 85 = .ok (.sipush 389, 3) := by decide +kernel
theorem dX6_init_88 : decode cX6_init 88 = .ok (.bipush 40, 2) := by decide +kernel
theorem dX6_init_90 : decode cX6_init 90 = .ok (.iastore, 1) := by decide +kernel
theorem dX6_init_91 : decode cX6_init 91 = .ok (.aload_n 0, 1) := by decide +kernel
theorem dX6_init_92 : decode cX6_init 92 = .ok (.getfield 7, 3) := by decide +kernel
theorem dX6_init_95 : decode cX6_init 95 = .ok (.sipush 390, 3) := by decide +kernel
theorem dX6_init_98 : decode cX6_init 98 = .ok (.bipush 10, 2) := by decide +kernel
theorem dX6_init_100 : decode cX6_init 100 = .ok (.iastore, 1) := by decide +kernel
theorem dX6_init_101 : decode cX6_init 101 = .ok (.aload_n 0, 1) := by decide +kernel
theorem dX6_init_102 : decode cX6_init 102 = .ok (.getfield 7, 3) := by decide +kernel
theorem dX6_init_105 : decode cX6_init 105 = .ok (.sipush 391, 3) := by decide +kernel
theorem dX6_init_108 : decode cX6_init 108 = .ok (.iconst 3, 1) := by decide +kernel
theorem dX6_init_109 : decode cX6_init 109 = .ok (.iastore, 1) := by decide +kernel
theorem dX6_init_110 : decode cX6_init 110 = .ok (.aload_n 0, 1) := by decide +kernel
theorem dX6_init_111 : decode cX6_init 111 = .ok (.getfield 7, 3) := by decide +kernel
theorem dX6_init_114 : decode cX6_init 114 = .ok (.sipush 392, 3) := by decide +kernel
theorem dX6_init_117 : decode cX6_init 117 = .ok (.bipush 8, 2) := by decide +kernel
theorem dX6_init_119 : decode cX6_init 119 = .ok (.iastore, 1) := by decide +kernel
theorem dX6_init_120 : decode cX6_init 120 = .ok (.aload_n 0, 1) := by decide +kernel
theorem dX6_init_121 : decode cX6_init 121 = .ok (.getfield 7, 3) := by decide +kernel
theorem dX6_init_124 : decode cX6_init 124 = .ok (.sipush 393, 3) := by decide +kernel
theorem dX6_init_127 : decode cX6_init 127 = .ok (.bipush 20, 2) := by decide +kernel
theorem dX6_init_129 : decode cX6_init 129 = .ok (.iastore, 1) := by decide +kernel
theorem dX6_init_130 : decode cX6_init 130 = .ok (.return_, 1) := by decide +kernel
theorem dX6_in_0 : decode cX6_in 0 = .ok (.iload_n 0, 1) := by decide +kernel
theorem dX6_in_1 : decode cX6_in 1 = .ok (.iload_n 1, 1) := by decide +kernel
theorem dX6_in_2 : decode cX6_in 2 = .ok (.if_icmp .lt 12, 3) := by decide +kernel
theorem dX6_in_5 : decode cX6_in 5 = .ok (.iload_n 0, 1) := by decide +kernel
theorem dX6_in_6 : decode cX6_in 6 = .ok (.iload_n 2, 1) := by decide +kernel
theorem dX6_in_7 : decode cX6_in 7 = .ok (.if_icmp .gt 7, 3) := by decide +kernel
theorem dX6_in_10 : decode cX6_in 10 = .ok (.iconst 1, 1) := by decide +kernel
theorem dX6_in_11 : decode cX6_in 11 = .ok (.goto 4, 3) := by decide +kernel
theorem dX6_in_14 : decode cX6_in 14 = .ok (.iconst 0, 1) := by decide +kernel
theorem dX6_in_15 : decode cX6_in 15 = .ok (.ireturn, 1) := by decide +kernel
theorem dX6_bad_0 : decode cX6_bad 0 = .ok (.aload_n 0, 1) := by decide +kernel
theorem dX6_bad_1 : decode cX6_bad 1 = .ok (.getfield 16, 3) := by decide +kernel
theorem dX6_bad_4 : decode cX6_bad 4 = .ok (.iconst 0, 1) := by decide +kernel
theorem dX6_bad_5 : decode cX6_bad 5 = .ok (.dup2, 1) := by decide +kernel
theorem dX6_bad_6 : decode cX6_bad 6 = .ok (.iaload, 1) := by decide +kernel
theorem dX6_bad_7 : decode cX6_bad 7 = .ok (.iconst 1, 1) := by decide +kernel
theorem dX6_bad_8 : decode cX6_bad 8 = .ok (.iadd, 1) := by decide +kernel
theorem dX6_bad_9 : decode cX6_bad 9 = .ok (.iastore, 1) := by decide +kernel
theorem dX6_bad_10 : decode cX6_bad 10 = .ok (.bipush (-2), 2) := by decide +kernel
theorem dX6_bad_12 : decode cX6_bad 12 = .ok (.ireturn, 1) := by decide +kernel
theorem dX6_no_0 : decode cX6_no 0 = .ok (.aload_n 0, 1) := by decide +kernel
theorem dX6_no_1 : decode cX6_no 1 = .ok (.getfield 16, 3) := by decide +kernel
theorem dX6_no_4 : decode cX6_no 4 = .ok (.iconst 1, 1) := by decide +kernel
theorem dX6_no_5 : decode cX6_no 5 = .ok (.dup2, 1) := by decide +kernel
theorem dX6_no_6 : decode cX6_no 6 = .ok (.iaload, 1) := by decide +kernel
theorem dX6_no_7 : decode cX6_no 7 = .ok (.iconst 1, 1) := by decide +kernel
theorem dX6_no_8 : decode cX6_no 8 = .ok (.iadd, 1) := by decide +kernel
theorem dX6_no_9 : decode cX6_no 9 = .ok (.iastore, 1) := by decide +kernel
theorem dX6_no_10 : decode cX6_no 10 = .ok (.bipush (-3), 2) := by decide +kernel
theorem dX6_no_12 : decode cX6_no 12 = .ok (.ireturn, 1) := by decide +kernel
theorem dX6_full_0 : decode cX6_full 0 = .ok (.aload_n 0, 1) := by decide +kernel
theorem dX6_full_1 : decode cX6_full 1 = .ok (.getfield 16, 3) := by decide +kernel
theorem dX6_full_4 : decode cX6_full 4 = .ok (.iconst 2, 1) := by decide +kernel
theorem dX6_full_5 : decode cX6_full 5 = .ok (.dup2, 1) := by decide +kernel
theorem dX6_full_6 : decode cX6_full 6 = .ok (.iaload, 1) := by decide +kernel
theorem dX6_full_7 : decode cX6_full 7 = .ok (.iconst 1, 1) := by decide +kernel
theorem dX6_full_8 : decode cX6_full 8 = .ok (.iadd, 1) := by decide +kernel
theorem dX6_full_9 : decode cX6_full 9 = .ok (.iastore, 1) := by decide +kernel
theorem dX6_full_10 : decode cX6_full 10 = .ok (.bipush (-4), 2) := by decide +kernel
theorem dX6_full_12 : decode cX6_full 12 = .ok (.ireturn, 1) := by decide +kernel
theorem dX6_remembers_0 : decode cX6_remembers 0 = .ok (.aload_n 0, 1) := by decide +kernel
theorem dX6_remembers_1 : decode cX6_remembers 1 = .ok (.getfield 31, 3) := by decide +kernel
theorem dX6_remembers_4 : decode cX6_remembers 4 = .ok (.iconst 5, 1) := by decide +kernel
theorem dX6_remembers_5 : decode cX6_remembers 5 = .ok (.if_icmp .ne 44, 3) := by decide +kernel
theorem dX6_remembers_8 : decode cX6_remembers 8 = .ok (.iconst 0, 1) := by decide +kernel
theorem dX6_remembers_9 : decode cX6_remembers 9 = .ok (.istore_n 1, 1) := by decide +kernel
theorem dX6_remembers_10 : decode cX6_remembers 10 = .ok (.iload_n 1, 1) := by decide +kernel
theorem dX6_remembers_11 : decode cX6_remembers 11 = .ok (.sipush 1604, 3) := by decide +kernel
theorem dX6_remembers_14 : decode cX6_remembers 14 = .ok (.if_icmp .ge 25, 3) := by decide +kernel
theorem dX6_remembers_17 : decode cX6_remembers 17 = .ok (.aload_n 0, 1) := by decide +kernel
theorem dX6_remembers_18 : decode cX6_remembers 18 = .ok (.getfield 13, 3) := by decide +kernel
theorem dX6_remembers_21 : decode cX6_remembers 21 = .ok (.iload_n 1, 1) := by decide +kernel
theorem dX6_remembers_22 : decode cX6_remembers 22 = .ok (.aload_n 0, 1) := by decide +kernel
theorem dX6_remembers_23 : decode cX6_remembers 23 = .ok (.getfield 13, 3) := by decide +kernel
theorem dX6_remembers_26 : decode cX6_remembers 26 = .ok (.iload_n 1, 1) := by decide +kernel
theorem dX6_remembers_27 : decode cX6_remembers 27 = .ok (.sipush 401, 3) := by decide +kernel
theorem dX6_remembers_30 : decode cX6_remembers 30 = .ok (.iadd, 1) := by decide +kernel
theorem dX6_remembers_31 : decode cX6_remembers 31 = .ok (.iaload, 1) := by decide +kernel
theorem dX6_remembers_32 : decode cX6_remembers 32 = .ok (.iastore, 1) := by decide +kernel
theorem dX6_remembers_33 : decode cX6_remembers 33 = .ok (.iinc 1 1, 3) := by decide +kernel
theorem dX6_remembers_36 : decode cX6_remembers 36 = .ok (.goto (-26), 3) := by decide +kernel
theorem dX6_remembers_39 : decode cX6_remembers 39 = .ok (.aload_n 0, 1) := by decide +kernel
theorem dX6_remembers_40 : decode cX6_remembers 40 = .ok (.dup, 1) := by decide +kernel
theorem dX6_remembers_41 : decode cX6_remembers 41 = .ok (.getfield 31, 3) := by decide +kernel
theorem dX6_remembers_44 : decode cX6_remembers 44 = .ok (.iconst 1, 1) := by decide +kernel
theorem dX6_remembers_45 : decode cX6_remembers 45 = .ok (.isub, 1) := by decide +kernel
theorem dX6_remembers_46 : decode cX6_remembers 46 = .ok (.putfield 31, 3) := by decide +kernel
theorem dX6_remembers_49 : decode cX6_remembers 49 = .ok (.iconst 0, 1) := by decide +kernel
theorem dX6_remembers_50 : decode cX6_remembers 50 = .ok (.istore_n 1, 1) := by decide +kernel
theorem dX6_remembers_51 : decode cX6_remembers 51 = .ok (.iload_n 1, 1) := by decide +kernel
theorem dX6_remembers_52 : decode cX6_remembers 52 = .ok (.sipush 401, 3) := by decide +kernel
theorem dX6_remembers_55 : decode cX6_remembers 55 = .ok (.if_icmp .ge 30, 3) := by decide +kernel
theorem dX6_remembers_58 : decode cX6_remembers 58 = .ok (.aload_n 0, 1) := by decide +kernel
theorem dX6_remembers_59 : decode cX6_remembers 59 = .ok (.getfield 13, 3) := by decide +kernel
theorem dX6_remembers_62 : decode cX6_remembers 62 = .ok (.sipush 401, 3) := by decide +kernel
theorem dX6_remembers_65 : decode cX6_remembers 65 = .ok (.aload_n 0, 1) := by decide +kernel
theorem dX6_remembers_66 : decode cX6_remembers 66 = .ok (.getfield 31, 3) := by decide +kernel
theorem dX6_remembers_69 : decode cX6_remembers 69 = .ok (.imul, 1) := by decide +kernel
theorem dX6_remembers_70 : decode cX6_remembers 70 = .ok (.iload_n 1, 1) := by decide +kernel
theorem dX6_remembers_71 : decode cX6_remembers 71 = .ok (.iadd, 1) := by decide +kernel
theorem dX6_remembers_72 : decode cX6_remembers 72 = .ok (.aload_n 0, 1) := by decide +kernel
theorem dX6_remembers_73 : decode cX6_remembers 73 = .ok (.getfield 7, 3) := by decide +kernel
theorem dX6_remembers_76 : decode cX6_remembers 76 = .ok (.iload_n 1, 1) := by decide +kernel
theorem dX6_remembers_77 : decode cX6_remembers 77 = .ok (.iaload, 1) := by decide +kernel
theorem dX6_remembers_78 : decode cX6_remembers 78 = .ok (.iastore, 1) := by decide +kernel
theorem dX6_remembers_79 : decode cX6_remembers 79 = .ok (.iinc 1 1, 3) := by decide +kernel
theorem dX6_remembers_82 : decode cX6_remembers 82 = .ok (.goto (-31), 3) := by decide +kernel
theorem dX6_remembers_85 : decode cX6_remembers 85 = .ok (.aload_n 0, 1) := by decide +kernel
theorem dX6_remembers_86 : decode cX6_remembers 86 = .ok (.dup, 1) := by decide +kernel
theorem dX6_remembers_87 : decode cX6_remembers 87 = .ok (.getfield 31, 3) := by decide +kernel
theorem dX6_remembers_90 : decode cX6_remembers 90 = .ok (.iconst 1, 1) := by decide +kernel
theorem dX6_remembers_91 : decode cX6_remembers 91 = .ok (.iadd, 1) := by decide +kernel
theorem dX6_remembers_92 : decode cX6_remembers 92 = .ok (.putfield 31, 3) := by decide +kernel
theorem dX6_remembers_95 : decode cX6_remembers 95 = .ok (.return_, 1) := by decide +kernel
theorem dX6_back_0 : decode cX6_back 0 = .ok (.aload_n 0, 1) := by decide +kernel
theorem dX6_back_1 : decode cX6_back 1 = .ok (.getfield 31, 3) := by decide +kernel
theorem dX6_back_4 : decode cX6_back 4 = .ok (.ifCond .ne 8, 3) := by decide +kernel
theorem dX6_back_7 : decode cX6_back 7 = .ok (.aload_n 0, 1) := by decide +kernel
theorem dX6_back_8 : decode cX6_back 8 = .ok (.invokevirtual 35, 3) := by decide +kernel
theorem dX6_back_11 : decode cX6_back 11 = .ok (.ireturn, 1) := by decide +kernel
theorem dX6_back_12 : decode cX6_back 12 = .ok (.aload_n 0, 1) := by decide +kernel
theorem dX6_back_13 : decode cX6_back 13 = .ok (.dup, 1) := by decide +kernel
theorem dX6_back_14 : decode cX6_back 14 = .ok (.getfield 31, 3) := by decide +kernel
theorem dX6_back_17 : decode cX6_back 17 = .ok (.iconst 1, 1) := by decide +kernel
theorem dX6_back_18 : decode cX6_back 18 = .ok (.isub, 1) := by decide +kernel
theorem dX6_back_19 : decode cX6_back 19 = .ok (.putfield 31, 3) := by decide +kernel
theorem dX6_back_22 : decode cX6_back 22 = .ok (.iconst 0, 1) := by decide +kernel
theorem dX6_back_23 : decode cX6_back 23 = .ok (.istore_n 1, 1) := by decide +kernel
theorem dX6_back_24 : decode cX6_back 24 = .ok (.iload_n 1, 1) := by decide +kernel
theorem dX6_back_25 : decode cX6_back 25 = .ok (.sipush 401, 3) := by decide +kernel
theorem dX6_back_28 : decode cX6_back 28 = .ok (.if_icmp .ge 30, 3) := by decide +kernel
theorem dX6_back_31 : decode cX6_back 31 = .ok (.aload_n 0, 1) := by decide +kernel
theorem dX6_back_32 : decode cX6_back 32 = .ok (.getfield 7, 3) := by decide +kernel
theorem dX6_back_35 : decode cX6_back 35 = .ok (.iload_n 1, 1) := by decide +kernel
theorem dX6_back_36 : decode cX6_back 36 = .ok (.aload_n 0, 1) := by decide +kernel
theorem dX6_back_37 : decode cX6_back 37 = .ok (.getfield 13, 3) := by decide +kernel
theorem dX6_back_40 : decode cX6_back 40 = .ok (.sipush 401, 3) := by decide +kernel
theorem dX6_back_43 : decode cX6_back 43 = .ok (.aload_n 0, 1) := by decide +kernel
theorem dX6_back_44 : decode cX6_back 44 = .ok (.getfield 31, 3) := by decide +kernel
theorem dX6_back_47 : decode cX6_back 47 = .ok (.imul, 1) := by decide +kernel
theorem dX6_back_48 : decode cX6_back 48 = .ok (.iload_n 1, 1) := by decide +kernel
theorem dX6_back_49 : decode cX6_back 49 = .ok (.iadd, 1) := by decide +kernel
theorem dX6_back_50 : decode cX6_back 50 = .ok (.iaload, 1) := by decide +kernel
theorem dX6_back_51 : decode cX6_back 51 = .ok (.iastore, 1) := by decide +kernel
theorem dX6_back_52 : decode cX6_back 52 = .ok (.iinc 1 1, 3) := by decide +kernel
theorem dX6_back_55 : decode cX6_back 55 = .ok (.goto (-31), 3) := by decide +kernel
theorem dX6_back_58 : decode cX6_back 58 = .ok (.aload_n 0, 1) := by decide +kernel
theorem dX6_back_59 : decode cX6_back 59 = .ok (.getfield 31, 3) := by decide +kernel
theorem dX6_back_62 : decode cX6_back 62 = .ok (.ireturn, 1) := by decide +kernel
theorem dX6_isAddress_0 : decode cX6_isAddress 0 = .ok (.iload_n 0, 1) := by decide +kernel
theorem dX6_isAddress_1 : decode cX6_isAddress 1 = .ok (.iconst 0, 1) := by decide +kernel
theorem dX6_isAddress_2 : decode cX6_isAddress 2 = .ok (.bipush 31, 2) := by decide +kernel
theorem dX6_isAddress_4 : decode cX6_isAddress 4 = .ok (.invokestatic 39, 3) := by decide +kernel
theorem dX6_isAddress_7 : decode cX6_isAddress 7 = .ok (.ireturn, 1) := by decide +kernel
theorem dX6_isCase_0 : decode cX6_isCase 0 = .ok (.iload_n 0, 1) := by decide +kernel
theorem dX6_isCase_1 : decode cX6_isCase 1 = .ok (.invokestatic 43, 3) := by decide +kernel
theorem dX6_isCase_4 : decode cX6_isCase 4 = .ok (.ifCond .eq 33, 3) := by decide +kernel
theorem dX6_isCase_7 : decode cX6_isCase 7 = .ok (.iload_n 1, 1) := by decide +kernel
theorem dX6_isCase_8 : decode cX6_isCase 8 = .ok (.invokestatic 43, 3) := by decide +kernel
theorem dX6_isCase_11 : decode cX6_isCase 11 = .ok (.ifCond .eq 26, 3) := by decide +kernel
theorem dX6_isCase_14 : decode cX6_isCase 14 = .ok (.iload_n 2, 1) := by decide +kernel
theorem dX6_isCase_15 : decode cX6_isCase 15 = .ok (.iconst 0, 1) := by decide +kernel
theorem dX6_isCase_16 : decode cX6_isCase 16 = .ok (.bipush 15, 2) := by decide +kernel
theorem dX6_isCase_18 : decode cX6_isCase 18 = .ok (.invokestatic 39, 3) := by decide +kernel
theorem dX6_isCase_21 : decode cX6_isCase 21 = .ok (.ifCond .eq 16, 3) := by decide +kernel
theorem dX6_isCase_24 : decode cX6_isCase 24 = .ok (.iload_n 3, 1) := by decide +kernel
theorem dX6_isCase_25 : decode cX6_isCase 25 = .ok (.iconst 0, 1) := by decide +kernel
theorem dX6_isCase_26 : decode cX6_isCase 26 = .ok (.iconst 1, 1) := by decide +kernel
theorem dX6_isCase_27 : decode cX6_isCase 27 = .ok (.invokestatic 39, 3) := by decide +kernel
theorem dX6_isCase_30 : decode cX6_isCase 30 = .ok (.ifCond .eq 7, 3) := by decide +kernel
theorem dX6_isCase_33 : decode cX6_isCase 33 = .ok (.iconst 1, 1) := by decide +kernel
theorem dX6_isCase_34 : decode cX6_isCase 34 = .ok (.goto 4, 3) := by decide +kernel
theorem dX6_isCase_37 : decode cX6_isCase 37 = .ok (.iconst 0, 1) := by decide +kernel
theorem dX6_isCase_38 : decode cX6_isCase 38 = .ok (.ireturn, 1) := by decide +kernel
theorem dX6_isRule_0 : decode cX6_isRule 0 = .ok (.iload_n 1, 1) := by decide +kernel
theorem dX6_isRule_1 : decode cX6_isRule 1 = .ok (.iconst 0, 1) := by decide +kernel
theorem dX6_isRule_2 : decode cX6_isRule 2 = .ok (.aload_n 0, 1) := by decide +kernel
theorem dX6_isRule_3 : decode cX6_isRule 3 = .ok (.getfield 7, 3) := by decide +kernel
theorem dX6_isRule_6 : decode cX6_isRule 6 = .ok (.bipush 32, 2) := by decide +kernel
theorem dX6_isRule_8 : decode cX6_isRule 8 = .ok (.iaload, 1) := by decide +kernel
theorem dX6_isRule_9 : decode cX6_isRule 9 = .ok (.iconst 1, 1) := by decide +kernel
theorem dX6_isRule_10 : decode cX6_isRule 10 = .ok (.isub, 1) := by decide +kernel
theorem dX6_isRule_11 : decode cX6_isRule 11 = .ok (.invokestatic 39, 3) := by decide +kernel
theorem dX6_isRule_14 : decode cX6_isRule 14 = .ok (.ireturn, 1) := by decide +kernel
theorem dX6_zone_0 : decode cX6_zone 0 = .ok (.iload_n 1, 1) := by decide +kernel
theorem dX6_zone_1 : decode cX6_zone 1 = .ok (.iconst 0, 1) := by decide +kernel
theorem dX6_zone_2 : decode cX6_zone 2 = .ok (.iconst 5, 1) := by decide +kernel
theorem dX6_zone_3 : decode cX6_zone 3 = .ok (.invokestatic 39, 3) := by decide +kernel
theorem dX6_zone_6 : decode cX6_zone 6 = .ok (.ifCond .eq 22, 3) := by decide +kernel
theorem dX6_zone_9 : decode cX6_zone 9 = .ok (.iload_n 2, 1) := by decide +kernel
theorem dX6_zone_10 : decode cX6_zone 10 = .ok (.invokestatic 43, 3) := by decide +kernel
theorem dX6_zone_13 : decode cX6_zone 13 = .ok (.ifCond .eq 15, 3) := by decide +kernel
theorem dX6_zone_16 : decode cX6_zone 16 = .ok (.iload_n 3, 1) := by decide +kernel
theorem dX6_zone_17 : decode cX6_zone 17 = .ok (.invokestatic 43, 3) := by decide +kernel
theorem dX6_zone_20 : decode cX6_zone 20 = .ok (.ifCond .eq 8, 3) := by decide +kernel
theorem dX6_zone_23 : decode cX6_zone 23 = .ok (.iload_n 2, 1) := by decide +kernel
theorem dX6_zone_24 : decode cX6_zone 24 = .ok (.iload_n 3, 1) := by decide +kernel
theorem dX6_zone_25 : decode cX6_zone 25 = .ok (.if_icmp .le 8, 3) := by decide +kernel
theorem dX6_zone_28 : decode cX6_zone 28 = .ok (.aload_n 0, 1) := by decide +kernel
theorem dX6_zone_29 : decode cX6_zone 29 = .ok (.invokevirtual 47, 3) := by decide +kernel
theorem dX6_zone_32 : decode cX6_zone 32 = .ok (.ireturn, 1) := by decide +kernel
theorem dX6_zone_33 : decode cX6_zone 33 = .ok (.aload_n 0, 1) := by decide +kernel
theorem dX6_zone_34 : decode cX6_zone 34 = .ok (.invokevirtual 50, 3) := by decide +kernel
theorem dX6_zone_37 : decode cX6_zone 37 = .ok (.iconst 0, 1) := by decide +kernel
theorem dX6_zone_38 : decode cX6_zone 38 = .ok (.istore 4, 2) := by decide +kernel
theorem dX6_zone_40 : decode cX6_zone 40 = .ok (.iload_n 2, 1) := by decide +kernel
theorem dX6_zone_41 : decode cX6_zone 41 = .ok (.istore 5, 2) := by decide +kernel
theorem dX6_zone_43 : decode cX6_zone 43 = .ok (.iload 5, 2) := by decide +kernel
theorem dX6_zone_45 : decode cX6_zone 45 = .ok (.iload_n 3, 1) := by decide +kernel
theorem dX6_zone_46 : decode cX6_zone 46 = .ok (.if_icmp .gt 42, 3) := by decide +kernel
theorem dX6_zone_49 : decode cX6_zone 49 = .ok (.iload 4, 2) := by decide +kernel
theorem dX6_zone_51 : decode cX6_zone 51 = .ok (.aload_n 0, 1) := by decide +kernel
theorem dX6_zone_52 : decode cX6_zone 52 = .ok (.getfield 7, 3) := by decide +kernel
theorem dX6_zone_55 : decode cX6_zone 55 = .ok (.iconst 0, 1) := by decide +kernel
theorem dX6_zone_56 : decode cX6_zone 56 = .ok (.iload 5, 2) := by decide +kernel
theorem dX6_zone_58 : decode cX6_zone 58 = .ok (.iadd, 1) := by decide +kernel
theorem dX6_zone_59 : decode cX6_zone 59 = .ok (.iaload, 1) := by decide +kernel
theorem dX6_zone_60 : decode cX6_zone 60 = .ok (.iload_n 1, 1) := by decide +kernel
theorem dX6_zone_61 : decode cX6_zone 61 = .ok (.if_icmp .ne 7, 3) := by decide +kernel
theorem dX6_zone_64 : decode cX6_zone 64 = .ok (.iconst 0, 1) := by decide +kernel
theorem dX6_zone_65 : decode cX6_zone 65 = .ok (.goto 4, 3) := by decide +kernel
theorem dX6_zone_68 : decode cX6_zone 68 = .ok (.iconst 1, 1) := by decide +kernel
theorem dX6_zone_69 : decode cX6_zone 69 = .ok (.iadd, 1) := by decide +kernel
theorem dX6_zone_70 : decode cX6_zone 70 = .ok (.istore 4, 2) := by decide +kernel
theorem dX6_zone_72 : decode cX6_zone 72 = .ok (.aload_n 0, 1) := by decide +kernel
theorem dX6_zone_73 : decode cX6_zone 73 = .ok (.getfield 7, 3) := by decide +kernel
theorem dX6_zone_76 : decode cX6_zone 76 = .ok (.iconst 0, 1) := by decide +kernel
theorem dX6_zone_77 : decode cX6_zone 77 = .ok (.iload 5, 2) := by decide +kernel
theorem dX6_zone_79 : decode cX6_zone 79 = .ok (.iadd, 1) := by decide +kernel
theorem dX6_zone_80 : decode cX6_zone 80 = .ok (.iload_n 1, 1) := by decide +kernel
theorem dX6_zone_81 : decode cX6_zone 81 = .ok (.iastore, 1) := by decide +kernel
theorem dX6_zone_82 : decode cX6_zone 82 = .ok (.iinc 5 1, 3) := by decide +kernel
theorem dX6_zone_85 : decode cX6_zone 85 = .ok (.goto (-42), 3) := by decide +kernel
theorem dX6_zone_88 : decode cX6_zone 88 = .ok (.iload 4, 2) := by decide +kernel
theorem dX6_zone_90 : decode cX6_zone 90 = .ok (.ireturn, 1) := by decide +kernel
theorem dX6_zoneOf_0 : decode cX6_zoneOf 0 = .ok (.iload_n 1, 1) := by decide +kernel
theorem dX6_zoneOf_1 : decode cX6_zoneOf 1 = .ok (.invokestatic 43, 3) := by decide +kernel
theorem dX6_zoneOf_4 : decode cX6_zoneOf 4 = .ok (.ifCond .eq 14, 3) := by decide +kernel
theorem dX6_zoneOf_7 : decode cX6_zoneOf 7 = .ok (.aload_n 0, 1) := by decide +kernel
theorem dX6_zoneOf_8 : decode cX6_zoneOf 8 = .ok (.getfield 7, 3) := by decide +kernel
theorem dX6_zoneOf_11 : decode cX6_zoneOf 11 = .ok (.iconst 0, 1) := by decide +kernel
theorem dX6_zoneOf_12 : decode cX6_zoneOf 12 = .ok (.iload_n 1, 1) := by decide +kernel
theorem dX6_zoneOf_13 : decode cX6_zoneOf 13 = .ok (.iadd, 1) := by decide +kernel
theorem dX6_zoneOf_14 : decode cX6_zoneOf 14 = .ok (.iaload, 1) := by decide +kernel
theorem dX6_zoneOf_15 : decode cX6_zoneOf 15 = .ok (.goto 7, 3) := by decide +kernel
theorem dX6_zoneOf_18 : decode cX6_zoneOf 18 = .ok (.aload_n 0, 1) := by decide +kernel
theorem dX6_zoneOf_19 : decode cX6_zoneOf 19 = .ok (.invokevirtual 47, 3) := by decide +kernel
theorem dX6_zoneOf_22 : decode cX6_zoneOf 22 = .ok (.ireturn, 1) := by decide +kernel
theorem dX6_begins_0 : decode cX6_begins 0 = .ok (.iconst 0, 1) := by decide +kernel
theorem dX6_begins_1 : decode cX6_begins 1 = .ok (.istore_n 3, 1) := by decide +kernel
theorem dX6_begins_2 : decode cX6_begins 2 = .ok (.iload_n 3, 1) := by decide +kernel
theorem dX6_begins_3 : decode cX6_begins 3 = .ok (.bipush 11, 2) := by decide +kernel
theorem dX6_begins_5 : decode cX6_begins 5 = .ok (.if_icmp .ge 15, 3) := by decide +kernel
theorem dX6_begins_8 : decode cX6_begins 8 = .ok (.aload_n 0, 1) := by decide +kernel
theorem dX6_begins_9 : decode cX6_begins 9 = .ok (.iload_n 1, 1) := by decide +kernel
theorem dX6_begins_10 : decode cX6_begins 10 = .ok (.iload_n 3, 1) := by decide +kernel
theorem dX6_begins_11 : decode cX6_begins 11 = .ok (.iadd, 1) := by decide +kernel
theorem dX6_begins_12 : decode cX6_begins 12 = .ok (.iconst 0, 1) := by decide +kernel
theorem dX6_begins_13 : decode cX6_begins 13 = .ok (.iastore, 1) := by decide +kernel
theorem dX6_begins_14 : decode cX6_begins 14 = .ok (.iinc 3 1, 3) := by decide +kernel
theorem dX6_begins_17 : decode cX6_begins 17 = .ok (.goto (-15), 3) := by decide +kernel
theorem dX6_begins_20 : decode cX6_begins 20 = .ok (.aload_n 0, 1) := by decide +kernel
theorem dX6_begins_21 : decode cX6_begins 21 = .ok (.iload_n 1, 1) := by decide +kernel
theorem dX6_begins_22 : decode cX6_begins 22 = .ok (.iconst 0, 1) := by decide +kernel
theorem dX6_begins_23 : decode cX6_begins 23 = .ok (.iadd, 1) := by decide +kernel
theorem dX6_begins_24 : decode cX6_begins 24 = .ok (.bipush 6, 2) := by decide +kernel
theorem dX6_begins_26 : decode cX6_begins 26 = .ok (.iastore, 1) := by decide +kernel
theorem dX6_begins_27 : decode cX6_begins 27 = .ok (.aload_n 0, 1) := by decide +kernel
theorem dX6_begins_28 : decode cX6_begins 28 = .ok (.iload_n 1, 1) := by decide +kernel
theorem dX6_begins_29 : decode cX6_begins 29 = .ok (.iconst 1, 1) := by decide +kernel
theorem dX6_begins_30 : decode cX6_begins 30 = .ok (.iadd, 1) := by decide +kernel
theorem dX6_begins_31 : decode cX6_begins 31 = .ok (.bipush 6, 2) := by decide +kernel
theorem dX6_begins_33 : decode cX6_begins 33 = .ok (.iastore, 1) := by decide +kernel
theorem dX6_begins_34 : decode cX6_begins 34 = .ok (.aload_n 0, 1) := by decide +kernel
theorem dX6_begins_35 : decode cX6_begins 35 = .ok (.iload_n 1, 1) := by decide +kernel
theorem dX6_begins_36 : decode cX6_begins 36 = .ok (.iconst 3, 1) := by decide +kernel
theorem dX6_begins_37 : decode cX6_begins 37 = .ok (.iadd, 1) := by decide +kernel
theorem dX6_begins_38 : decode cX6_begins 38 = .ok (.bipush 31, 2) := by decide +kernel
theorem dX6_begins_40 : decode cX6_begins 40 = .ok (.iastore, 1) := by decide +kernel
theorem dX6_begins_41 : decode cX6_begins 41 = .ok (.aload_n 0, 1) := by decide +kernel
theorem dX6_begins_42 : decode cX6_begins 42 = .ok (.iload_n 1, 1) := by decide +kernel
theorem dX6_begins_43 : decode cX6_begins 43 = .ok (.iconst 5, 1) := by decide +kernel
theorem dX6_begins_44 : decode cX6_begins 44 = .ok (.iadd, 1) := by decide +kernel
theorem dX6_begins_45 : decode cX6_begins 45 = .ok (.bipush 31, 2) := by decide +kernel
theorem dX6_begins_47 : decode cX6_begins 47 = .ok (.iastore, 1) := by decide +kernel
theorem dX6_begins_48 : decode cX6_begins 48 = .ok (.aload_n 0, 1) := by decide +kernel
theorem dX6_begins_49 : decode cX6_begins 49 = .ok (.iload_n 1, 1) := by decide +kernel
theorem dX6_begins_50 : decode cX6_begins 50 = .ok (.bipush 7, 2) := by decide +kernel
theorem dX6_begins_52 : decode cX6_begins 52 = .ok (.iadd, 1) := by decide +kernel
theorem dX6_begins_53 : decode cX6_begins 53 = .ok (.bipush 15, 2) := by decide +kernel
theorem dX6_begins_55 : decode cX6_begins 55 = .ok (.iastore, 1) := by decide +kernel
theorem dX6_begins_56 : decode cX6_begins 56 = .ok (.aload_n 0, 1) := by decide +kernel
theorem dX6_begins_57 : decode cX6_begins 57 = .ok (.iload_n 1, 1) := by decide +kernel
theorem dX6_begins_58 : decode cX6_begins 58 = .ok (.bipush 8, 2) := by decide +kernel
theorem dX6_begins_60 : decode cX6_begins 60 = .ok (.iadd, 1) := by decide +kernel
theorem dX6_begins_61 : decode cX6_begins 61 = .ok (.iconst 2, 1) := by decide +kernel
theorem dX6_begins_62 : decode cX6_begins 62 = .ok (.iastore, 1) := by decide +kernel
theorem dX6_begins_63 : decode cX6_begins 63 = .ok (.aload_n 0, 1) := by decide +kernel
theorem dX6_begins_64 : decode cX6_begins 64 = .ok (.iload_n 1, 1) := by decide +kernel
theorem dX6_begins_65 : decode cX6_begins 65 = .ok (.bipush 9, 2) := by decide +kernel
theorem dX6_begins_67 : decode cX6_begins 67 = .ok (.iadd, 1) := by decide +kernel
theorem dX6_begins_68 : decode cX6_begins 68 = .ok (.iload_n 2, 1) := by decide +kernel
theorem dX6_begins_69 : decode cX6_begins 69 = .ok (.iastore, 1) := by decide +kernel
theorem dX6_begins_70 : decode cX6_begins 70 = .ok (.return_, 1) := by decide +kernel
theorem dX6_makesRoom_0 : decode cX6_makesRoom 0 = .ok (.bipush 11, 2) := by decide +kernel
theorem dX6_makesRoom_2 : decode cX6_makesRoom 2 = .ok (.aload_n 0, 1) := by decide +kernel
theorem dX6_makesRoom_3 : decode cX6_makesRoom 3 = .ok (.getfield 7, 3) := by decide +kernel
theorem dX6_makesRoom_6 : decode cX6_makesRoom 6 = .ok (.bipush 32, 2) := by decide +kernel
theorem dX6_makesRoom_8 : decode cX6_makesRoom 8 = .ok (.iaload, 1) := by decide +kernel
theorem dX6_makesRoom_9 : decode cX6_makesRoom 9 = .ok (.imul, 1) := by decide +kernel
theorem dX6_makesRoom_10 : decode cX6_makesRoom 10 = .ok (.iconst 1, 1) := by decide +kernel
theorem dX6_makesRoom_11 : decode cX6_makesRoom 11 = .ok (.isub, 1) := by decide +kernel
theorem dX6_makesRoom_12 : decode cX6_makesRoom 12 = .ok (.istore_n 2, 1) := by decide +kernel
theorem dX6_makesRoom_13 : decode cX6_makesRoom 13 = .ok (.iload_n 2, 1) := by decide +kernel
theorem dX6_makesRoom_14 : decode cX6_makesRoom 14 = .ok (.bipush 11, 2) := by decide +kernel
theorem dX6_makesRoom_16 : decode cX6_makesRoom 16 = .ok (.iload_n 1, 1) := by decide +kernel
theorem dX6_makesRoom_17 : decode cX6_makesRoom 17 = .ok (.imul, 1) := by decide +kernel
theorem dX6_makesRoom_18 : decode cX6_makesRoom 18 = .ok (.if_icmp .lt 30, 3) := by decide +kernel
theorem dX6_makesRoom_21 : decode cX6_makesRoom 21 = .ok (.aload_n 0, 1) := by decide +kernel
theorem dX6_makesRoom_22 : decode cX6_makesRoom 22 = .ok (.getfield 7, 3) := by decide +kernel
theorem dX6_makesRoom_25 : decode cX6_makesRoom 25 = .ok (.bipush 33, 2) := by decide +kernel
theorem dX6_makesRoom_27 : decode cX6_makesRoom 27 = .ok (.iload_n 2, 1) := by decide +kernel
theorem dX6_makesRoom_28 : decode cX6_makesRoom 28 = .ok (.iadd, 1) := by decide +kernel
theorem dX6_makesRoom_29 : decode cX6_makesRoom 29 = .ok (.bipush 11, 2) := by decide +kernel
theorem dX6_makesRoom_31 : decode cX6_makesRoom 31 = .ok (.iadd, 1) := by decide +kernel
theorem dX6_makesRoom_32 : decode cX6_makesRoom 32 = .ok (.aload_n 0, 1) := by decide +kernel
theorem dX6_makesRoom_33 : decode cX6_makesRoom 33 = .ok (.getfield 7, 3) := by decide +kernel
theorem dX6_makesRoom_36 : decode cX6_makesRoom 36 = .ok (.bipush 33, 2) := by decide +kernel
theorem dX6_makesRoom_38 : decode cX6_makesRoom 38 = .ok (.iload_n 2, 1) := by decide +kernel
theorem dX6_makesRoom_39 : decode cX6_makesRoom 39 = .ok (.iadd, 1) := by decide +kernel
theorem dX6_makesRoom_40 : decode cX6_makesRoom 40 = .ok (.iaload, 1) := by decide +kernel
theorem dX6_makesRoom_41 : decode cX6_makesRoom 41 = .ok (.iastore, 1) := by decide +kernel
theorem dX6_makesRoom_42 : decode cX6_makesRoom 42 = .ok (.iinc 2 (-1), 3) := by decide +kernel
theorem dX6_makesRoom_45 : decode cX6_makesRoom 45 = .ok (.goto (-32), 3) := by decide +kernel
theorem dX6_makesRoom_48 : decode cX6_makesRoom 48 = .ok (.aload_n 0, 1) := by decide +kernel
theorem dX6_makesRoom_49 : decode cX6_makesRoom 49 = .ok (.getfield 7, 3) := by decide +kernel
theorem dX6_makesRoom_52 : decode cX6_makesRoom 52 = .ok (.bipush 32, 2) := by decide +kernel
theorem dX6_makesRoom_54 : decode cX6_makesRoom 54 = .ok (.dup2, 1) := by decide +kernel
theorem dX6_makesRoom_55 : decode cX6_makesRoom 55 = .ok (.iaload, 1) := by decide +kernel
theorem dX6_makesRoom_56 : decode cX6_makesRoom 56 = .ok (.iconst 1, 1) := by decide +kernel
theorem dX6_makesRoom_57 : decode cX6_makesRoom 57 = .ok (.iadd, 1) := by decide +kernel
theorem dX6_makesRoom_58 : decode cX6_makesRoom 58 = .ok (.iastore, 1) := by decide +kernel
theorem dX6_makesRoom_59 : decode cX6_makesRoom 59 = .ok (.return_, 1) := by decide +kernel
theorem dX6_closesUp_0 : decode cX6_closesUp 0 = .ok (.aload_n 0, 1) := by decide +kernel
theorem dX6_closesUp_1 : decode cX6_closesUp 1 = .ok (.getfield 7, 3) := by decide +kernel
theorem dX6_closesUp_4 : decode cX6_closesUp 4 = .ok (.bipush 32, 2) := by decide +kernel
theorem dX6_closesUp_6 : decode cX6_closesUp 6 = .ok (.dup2, 1) := by decide +kernel
theorem dX6_closesUp_7 : decode cX6_closesUp 7 = .ok (.iaload, 1) := by decide +kernel
theorem dX6_closesUp_8 : decode cX6_closesUp 8 = .ok (.iconst 1, 1) := by decide +kernel
theorem dX6_closesUp_9 : decode cX6_closesUp 9 = .ok (.isub, 1) := by decide +kernel
theorem dX6_closesUp_10 : decode cX6_closesUp 10 = .ok (.iastore, 1) := by decide +kernel
theorem dX6_closesUp_11 : decode cX6_closesUp 11 = .ok (.bipush 11, 2) := by decide +kernel
theorem dX6_closesUp_13 : decode cX6_closesUp 13 = .ok (.iload_n 1, 1) := by decide +kernel
theorem dX6_closesUp_14 : decode cX6_closesUp 14 = .ok (.imul, 1) := by decide +kernel
theorem dX6_closesUp_15 : decode cX6_closesUp 15 = .ok (.istore_n 2, 1) := by decide +kernel
theorem dX6_closesUp_16 : decode cX6_closesUp 16 = .ok (.iload_n 2, 1) := by decide +kernel
theorem dX6_closesUp_17 : decode cX6_closesUp 17 = .ok (.bipush 11, 2) := by decide +kernel
theorem dX6_closesUp_19 : decode cX6_closesUp 19 = .ok (.aload_n 0, 1) := by decide +kernel
theorem dX6_closesUp_20 : decode cX6_closesUp 20 = .ok (.getfield 7, 3) := by decide +kernel
theorem dX6_closesUp_23 : decode cX6_closesUp 23 = .ok (.bipush 32, 2) := by decide +kernel
theorem dX6_closesUp_25 : decode cX6_closesUp 25 = .ok (.iaload, 1) := by decide +kernel
theorem dX6_closesUp_26 : decode cX6_closesUp 26 = .ok (.imul, 1) := by decide +kernel
theorem dX6_closesUp_27 : decode cX6_closesUp 27 = .ok (.if_icmp .ge 30, 3) := by decide +kernel
theorem dX6_closesUp_30 : decode cX6_closesUp 30 = .ok (.aload_n 0, 1) := by decide +kernel
theorem dX6_closesUp_31 : decode cX6_closesUp 31 = .ok (.getfield 7, 3) := by decide +kernel
theorem dX6_closesUp_34 : decode cX6_closesUp 34 = .ok (.bipush 33, 2) := by decide +kernel
theorem dX6_closesUp_36 : decode cX6_closesUp 36 = .ok (.iload_n 2, 1) := by decide +kernel
theorem dX6_closesUp_37 : decode cX6_closesUp 37 = .ok (.iadd, 1) := by decide +kernel
theorem dX6_closesUp_38 : decode cX6_closesUp 38 = .ok (.aload_n 0, 1) := by decide +kernel
theorem dX6_closesUp_39 : decode cX6_closesUp 39 = .ok (.getfield 7, 3) := by decide +kernel
theorem dX6_closesUp_42 : decode cX6_closesUp 42 = .ok (.bipush 33, 2) := by decide +kernel
theorem dX6_closesUp_44 : decode cX6_closesUp 44 = .ok (.iload_n 2, 1) := by decide +kernel
theorem dX6_closesUp_45 : decode cX6_closesUp 45 = .ok (.iadd, 1) := by decide +kernel
theorem dX6_closesUp_46 : decode cX6_closesUp 46 = .ok (.bipush 11, 2) := by decide +kernel
theorem dX6_closesUp_48 : decode cX6_closesUp 48 = .ok (.iadd, 1) := by decide +kernel
theorem dX6_closesUp_49 : decode cX6_closesUp 49 = .ok (.iaload, 1) := by decide +kernel
theorem dX6_closesUp_50 : decode cX6_closesUp 50 = .ok (.iastore, 1) := by decide +kernel
theorem dX6_closesUp_51 : decode cX6_closesUp 51 = .ok (.iinc 2 1, 3) := by decide +kernel
theorem dX6_closesUp_54 : decode cX6_closesUp 54 = .ok (.goto (-38), 3) := by decide +kernel
theorem dX6_closesUp_57 : decode cX6_closesUp 57 = .ok (.return_, 1) := by decide +kernel
theorem dX6_rule_0 : decode cX6_rule 0 = .ok (.iload_n 1, 1) := by decide +kernel
theorem dX6_rule_1 : decode cX6_rule 1 = .ok (.iconst 0, 1) := by decide +kernel
theorem dX6_rule_2 : decode cX6_rule 2 = .ok (.aload_n 0, 1) := by decide +kernel
theorem dX6_rule_3 : decode cX6_rule 3 = .ok (.getfield 7, 3) := by decide +kernel
theorem dX6_rule_6 : decode cX6_rule 6 = .ok (.bipush 32, 2) := by decide +kernel
theorem dX6_rule_8 : decode cX6_rule 8 = .ok (.iaload, 1) := by decide +kernel
theorem dX6_rule_9 : decode cX6_rule 9 = .ok (.invokestatic 39, 3) := by decide +kernel
theorem dX6_rule_12 : decode cX6_rule 12 = .ok (.ifCond .eq 12, 3) := by decide +kernel
theorem dX6_rule_15 : decode cX6_rule 15 = .ok (.iload_n 2, 1) := by decide +kernel
theorem dX6_rule_16 : decode cX6_rule 16 = .ok (.iconst 0, 1) := by decide +kernel
theorem dX6_rule_17 : decode cX6_rule 17 = .ok (.iconst 2, 1) := by decide +kernel
theorem dX6_rule_18 : decode cX6_rule 18 = .ok (.invokestatic 39, 3) := by decide +kernel
theorem dX6_rule_21 : decode cX6_rule 21 = .ok (.ifCond .ne 8, 3) := by decide +kernel
theorem dX6_rule_24 : decode cX6_rule 24 = .ok (.aload_n 0, 1) := by decide +kernel
theorem dX6_rule_25 : decode cX6_rule 25 = .ok (.invokevirtual 47, 3) := by decide +kernel
theorem dX6_rule_28 : decode cX6_rule 28 = .ok (.ireturn, 1) := by decide +kernel
theorem dX6_rule_29 : decode cX6_rule 29 = .ok (.aload_n 0, 1) := by decide +kernel
theorem dX6_rule_30 : decode cX6_rule 30 = .ok (.getfield 7, 3) := by decide +kernel
theorem dX6_rule_33 : decode cX6_rule 33 = .ok (.bipush 32, 2) := by decide +kernel
theorem dX6_rule_35 : decode cX6_rule 35 = .ok (.iaload, 1) := by decide +kernel
theorem dX6_rule_36 : decode cX6_rule 36 = .ok (.bipush 12, 2) := by decide +kernel
theorem dX6_rule_38 : decode cX6_rule 38 = .ok (.if_icmp .ne 8, 3) := by decide +kernel
theorem dX6_rule_41 : decode cX6_rule 41 = .ok (.aload_n 0, 1) := by decide +kernel
theorem dX6_rule_42 : decode cX6_rule 42 = .ok (.invokevirtual 53, 3) := by decide +kernel
theorem dX6_rule_45 : decode cX6_rule 45 = .ok (.ireturn, 1) := by decide +kernel
theorem dX6_rule_46 : decode cX6_rule 46 = .ok (.aload_n 0, 1) := by decide +kernel
theorem dX6_rule_47 : decode cX6_rule 47 = .ok (.invokevirtual 50, 3) := by decide +kernel
theorem dX6_rule_50 : decode cX6_rule 50 = .ok (.aload_n 0, 1) := by decide +kernel
theorem dX6_rule_51 : decode cX6_rule 51 = .ok (.iload_n 1, 1) := by decide +kernel
theorem dX6_rule_52 : decode cX6_rule 52 = .ok (.invokevirtual 56, 3) := by decide +kernel
theorem dX6_rule_55 : decode cX6_rule 55 = .ok (.aload_n 0, 1) := by decide +kernel
theorem dX6_rule_56 : decode cX6_rule 56 = .ok (.getfield 7, 3) := by decide +kernel
theorem dX6_rule_59 : decode cX6_rule 59 = .ok (.bipush 33, 2) := by decide +kernel
theorem dX6_rule_61 : decode cX6_rule 61 = .ok (.bipush 11, 2) := by decide +kernel
theorem dX6_rule_63 : decode cX6_rule 63 = .ok (.iload_n 1, 1) := by decide +kernel
theorem dX6_rule_64 : decode cX6_rule 64 = .ok (.imul, 1) := by decide +kernel
theorem dX6_rule_65 : decode cX6_rule 65 = .ok (.iadd, 1) := by decide +kernel
theorem dX6_rule_66 : decode cX6_rule 66 = .ok (.iload_n 2, 1) := by decide +kernel
theorem dX6_rule_67 : decode cX6_rule 67 = .ok (.invokestatic 60, 3) := by decide +kernel
theorem dX6_rule_70 : decode cX6_rule 70 = .ok (.aload_n 0, 1) := by decide +kernel
theorem dX6_rule_71 : decode cX6_rule 71 = .ok (.getfield 7, 3) := by decide +kernel
theorem dX6_rule_74 : decode cX6_rule 74 = .ok (.bipush 32, 2) := by decide +kernel
theorem dX6_rule_76 : decode cX6_rule 76 = .ok (.iaload, 1) := by decide +kernel
theorem dX6_rule_77 : decode cX6_rule 77 = .ok (.ireturn, 1) := by decide +kernel
theorem dX6_mostOf_0 : decode cX6_mostOf 0 = .ok (.iload_n 0, 1) := by decide +kernel
theorem dX6_mostOf_1 : decode cX6_mostOf 1 = .ok (.iconst 1, 1) := by decide +kernel
theorem dX6_mostOf_2 : decode cX6_mostOf 2 = .ok (.if_icmp .gt 8, 3) := by decide +kernel
theorem dX6_mostOf_5 : decode cX6_mostOf 5 = .ok (.bipush 6, 2) := by decide +kernel
theorem dX6_mostOf_7 : decode cX6_mostOf 7 = .ok (.goto 25, 3) := by decide +kernel
theorem dX6_mostOf_10 : decode cX6_mostOf 10 = .ok (.iload_n 0, 1) := by decide +kernel
theorem dX6_mostOf_11 : decode cX6_mostOf 11 = .ok (.iconst 5, 1) := by decide +kernel
theorem dX6_mostOf_12 : decode cX6_mostOf 12 = .ok (.if_icmp .gt 8, 3) := by decide +kernel
theorem dX6_mostOf_15 : decode cX6_mostOf 15 = .ok (.bipush 31, 2) := by decide +kernel
theorem dX6_mostOf_17 : decode cX6_mostOf 17 = .ok (.goto 15, 3) := by decide +kernel
theorem dX6_mostOf_20 : decode cX6_mostOf 20 = .ok (.iload_n 0, 1) := by decide +kernel
theorem dX6_mostOf_21 : decode cX6_mostOf 21 = .ok (.bipush 7, 2) := by decide +kernel
theorem dX6_mostOf_23 : decode cX6_mostOf 23 = .ok (.if_icmp .gt 8, 3) := by decide +kernel
theorem dX6_mostOf_26 : decode cX6_mostOf 26 = .ok (.bipush 15, 2) := by decide +kernel
theorem dX6_mostOf_28 : decode cX6_mostOf 28 = .ok (.goto 4, 3) := by decide +kernel
theorem dX6_mostOf_31 : decode cX6_mostOf 31 = .ok (.iconst 2, 1) := by decide +kernel
theorem dX6_mostOf_32 : decode cX6_mostOf 32 = .ok (.ireturn, 1) := by decide +kernel
theorem dX6_sets_0 : decode cX6_sets 0 = .ok (.aload_n 0, 1) := by decide +kernel
theorem dX6_sets_1 : decode cX6_sets 1 = .ok (.iload_n 1, 1) := by decide +kernel
theorem dX6_sets_2 : decode cX6_sets 2 = .ok (.invokevirtual 64, 3) := by decide +kernel
theorem dX6_sets_5 : decode cX6_sets 5 = .ok (.ifCond .eq 25, 3) := by decide +kernel
theorem dX6_sets_8 : decode cX6_sets 8 = .ok (.iload_n 2, 1) := by decide +kernel
theorem dX6_sets_9 : decode cX6_sets 9 = .ok (.iconst 0, 1) := by decide +kernel
theorem dX6_sets_10 : decode cX6_sets 10 = .ok (.bipush 9, 2) := by decide +kernel
theorem dX6_sets_12 : decode cX6_sets 12 = .ok (.invokestatic 39, 3) := by decide +kernel
theorem dX6_sets_15 : decode cX6_sets 15 = .ok (.ifCond .eq 15, 3) := by decide +kernel
theorem dX6_sets_18 : decode cX6_sets 18 = .ok (.iload_n 3, 1) := by decide +kernel
theorem dX6_sets_19 : decode cX6_sets 19 = .ok (.iconst 0, 1) := by decide +kernel
theorem dX6_sets_20 : decode cX6_sets 20 = .ok (.iload_n 2, 1) := by decide +kernel
theorem dX6_sets_21 : decode cX6_sets 21 = .ok (.invokestatic 67, 3) := by decide +kernel
theorem dX6_sets_24 : decode cX6_sets 24 = .ok (.invokestatic 39, 3) := by decide +kernel
theorem dX6_sets_27 : decode cX6_sets 27 = .ok (.ifCond .ne 8, 3) := by decide +kernel
theorem dX6_sets_30 : decode cX6_sets 30 = .ok (.aload_n 0, 1) := by decide +kernel
theorem dX6_sets_31 : decode cX6_sets 31 = .ok (.invokevirtual 47, 3) := by decide +kernel
theorem dX6_sets_34 : decode cX6_sets 34 = .ok (.ireturn, 1) := by decide +kernel
theorem dX6_sets_35 : decode cX6_sets 35 = .ok (.aload_n 0, 1) := by decide +kernel
theorem dX6_sets_36 : decode cX6_sets 36 = .ok (.invokevirtual 50, 3) := by decide +kernel
theorem dX6_sets_39 : decode cX6_sets 39 = .ok (.bipush 33, 2) := by decide +kernel
theorem dX6_sets_41 : decode cX6_sets 41 = .ok (.bipush 11, 2) := by decide +kernel
theorem dX6_sets_43 : decode cX6_sets 43 = .ok (.iload_n 1, 1) := by decide +kernel
theorem dX6_sets_44 : decode cX6_sets 44 = .ok (.imul, 1) := by decide +kernel
theorem dX6_sets_45 : decode cX6_sets 45 = .ok (.iadd, 1) := by decide +kernel
theorem dX6_sets_46 : decode cX6_sets 46 = .ok (.iload_n 2, 1) := by decide +kernel
theorem dX6_sets_47 : decode cX6_sets 47 = .ok (.iadd, 1) := by decide +kernel
theorem dX6_sets_48 : decode cX6_sets 48 = .ok (.istore 4, 2) := by decide +kernel
theorem dX6_sets_50 : decode cX6_sets 50 = .ok (.aload_n 0, 1) := by decide +kernel
theorem dX6_sets_51 : decode cX6_sets 51 = .ok (.getfield 7, 3) := by decide +kernel
theorem dX6_sets_54 : decode cX6_sets 54 = .ok (.iload 4, 2) := by decide +kernel
theorem dX6_sets_56 : decode cX6_sets 56 = .ok (.iaload, 1) := by decide +kernel
theorem dX6_sets_57 : decode cX6_sets 57 = .ok (.istore 5, 2) := by decide +kernel
theorem dX6_sets_59 : decode cX6_sets 59 = .ok (.aload_n 0, 1) := by decide +kernel
theorem dX6_sets_60 : decode cX6_sets 60 = .ok (.getfield 7, 3) := by decide +kernel
theorem dX6_sets_63 : decode cX6_sets 63 = .ok (.iload 4, 2) := by decide +kernel
theorem dX6_sets_65 : decode cX6_sets 65 = .ok (.iload_n 3, 1) := by decide +kernel
theorem dX6_sets_66 : decode cX6_sets 66 = .ok (.iastore, 1) := by decide +kernel
theorem dX6_sets_67 : decode cX6_sets 67 = .ok (.iload 5, 2) := by decide +kernel
theorem dX6_sets_69 : decode cX6_sets 69 = .ok (.ireturn, 1) := by decide +kernel
theorem dX6_drops_0 : decode cX6_drops 0 = .ok (.aload_n 0, 1) := by decide +kernel
theorem dX6_drops_1 : decode cX6_drops 1 = .ok (.iload_n 1, 1) := by decide +kernel
theorem dX6_drops_2 : decode cX6_drops 2 = .ok (.invokevirtual 64, 3) := by decide +kernel
theorem dX6_drops_5 : decode cX6_drops 5 = .ok (.ifCond .ne 8, 3) := by decide +kernel
theorem dX6_drops_8 : decode cX6_drops 8 = .ok (.aload_n 0, 1) := by decide +kernel
theorem dX6_drops_9 : decode cX6_drops 9 = .ok (.invokevirtual 47, 3) := by decide +kernel
theorem dX6_drops_12 : decode cX6_drops 12 = .ok (.ireturn, 1) := by decide +kernel
theorem dX6_drops_13 : decode cX6_drops 13 = .ok (.aload_n 0, 1) := by decide +kernel
theorem dX6_drops_14 : decode cX6_drops 14 = .ok (.invokevirtual 50, 3) := by decide +kernel
theorem dX6_drops_17 : decode cX6_drops 17 = .ok (.aload_n 0, 1) := by decide +kernel
theorem dX6_drops_18 : decode cX6_drops 18 = .ok (.iload_n 1, 1) := by decide +kernel
theorem dX6_drops_19 : decode cX6_drops 19 = .ok (.invokevirtual 71, 3) := by decide +kernel
theorem dX6_drops_22 : decode cX6_drops 22 = .ok (.aload_n 0, 1) := by decide +kernel
theorem dX6_drops_23 : decode cX6_drops 23 = .ok (.getfield 7, 3) := by decide +kernel
theorem dX6_drops_26 : decode cX6_drops 26 = .ok (.bipush 32, 2) := by decide +kernel
theorem dX6_drops_28 : decode cX6_drops 28 = .ok (.iaload, 1) := by decide +kernel
theorem dX6_drops_29 : decode cX6_drops 29 = .ok (.ireturn, 1) := by decide +kernel
theorem dX6_moves_0 : decode cX6_moves 0 = .ok (.aload_n 0, 1) := by decide +kernel
theorem dX6_moves_1 : decode cX6_moves 1 = .ok (.iload_n 1, 1) := by decide +kernel
theorem dX6_moves_2 : decode cX6_moves 2 = .ok (.invokevirtual 64, 3) := by decide +kernel
theorem dX6_moves_5 : decode cX6_moves 5 = .ok (.ifCond .eq 11, 3) := by decide +kernel
theorem dX6_moves_8 : decode cX6_moves 8 = .ok (.aload_n 0, 1) := by decide +kernel
theorem dX6_moves_9 : decode cX6_moves 9 = .ok (.iload_n 2, 1) := by decide +kernel
theorem dX6_moves_10 : decode cX6_moves 10 = .ok (.invokevirtual 64, 3) := by decide +kernel
theorem dX6_moves_13 : decode cX6_moves 13 = .ok (.ifCond .ne 8, 3) := by decide +kernel
theorem dX6_moves_16 : decode cX6_moves 16 = .ok (.aload_n 0, 1) := by decide +kernel
theorem dX6_moves_17 : decode cX6_moves 17 = .ok (.invokevirtual 47, 3) := by decide +kernel
theorem dX6_moves_20 : decode cX6_moves 20 = .ok (.ireturn, 1) := by decide +kernel
theorem dX6_moves_21 : decode cX6_moves 21 = .ok (.aload_n 0, 1) := by decide +kernel
theorem dX6_moves_22 : decode cX6_moves 22 = .ok (.invokevirtual 50, 3) := by decide +kernel
theorem dX6_moves_25 : decode cX6_moves 25 = .ok (.iconst 0, 1) := by decide +kernel
theorem dX6_moves_26 : decode cX6_moves 26 = .ok (.istore_n 3, 1) := by decide +kernel
theorem dX6_moves_27 : decode cX6_moves 27 = .ok (.iload_n 3, 1) := by decide +kernel
theorem dX6_moves_28 : decode cX6_moves 28 = .ok (.bipush 11, 2) := by decide +kernel
theorem dX6_moves_30 : decode cX6_moves 30 = .ok (.if_icmp .ge 29, 3) := by decide +kernel
theorem dX6_moves_33 : decode cX6_moves 33 = .ok (.aload_n 0, 1) := by decide +kernel
theorem dX6_moves_34 : decode cX6_moves 34 = .ok (.getfield 22, 3) := by decide +kernel
theorem dX6_moves_37 : decode cX6_moves 37 = .ok (.iload_n 3, 1) := by decide +kernel
theorem dX6_moves_38 : decode cX6_moves 38 = .ok (.aload_n 0, 1) := by decide +kernel
theorem dX6_moves_39 : decode cX6_moves 39 = .ok (.getfield 7, 3) := by decide +kernel
theorem dX6_moves_42 : decode cX6_moves 42 = .ok (.bipush 33, 2) := by decide +kernel
theorem dX6_moves_44 : decode cX6_moves 44 = .ok (.bipush 11, 2) := by decide +kernel
theorem dX6_moves_46 : decode cX6_moves 46 = .ok (.iload_n 1, 1) := by decide +kernel
theorem dX6_moves_47 : decode cX6_moves 47 = .ok (.imul, 1) := by decide +kernel
theorem dX6_moves_48 : decode cX6_moves 48 = .ok (.iadd, 1) := by decide +kernel
theorem dX6_moves_49 : decode cX6_moves 49 = .ok (.iload_n 3, 1) := by decide +kernel
theorem dX6_moves_50 : decode cX6_moves 50 = .ok (.iadd, 1) := by decide +kernel
theorem dX6_moves_51 : decode cX6_moves 51 = .ok (.iaload, 1) := by decide +kernel
theorem dX6_moves_52 : decode cX6_moves 52 = .ok (.iastore, 1) := by decide +kernel
theorem dX6_moves_53 : decode cX6_moves 53 = .ok (.iinc 3 1, 3) := by decide +kernel
theorem dX6_moves_56 : decode cX6_moves 56 = .ok (.goto (-29), 3) := by decide +kernel
theorem dX6_moves_59 : decode cX6_moves 59 = .ok (.aload_n 0, 1) := by decide +kernel
theorem dX6_moves_60 : decode cX6_moves 60 = .ok (.iload_n 1, 1) := by decide +kernel
theorem dX6_moves_61 : decode cX6_moves 61 = .ok (.invokevirtual 71, 3) := by decide +kernel
theorem dX6_moves_64 : decode cX6_moves 64 = .ok (.aload_n 0, 1) := by decide +kernel
theorem dX6_moves_65 : decode cX6_moves 65 = .ok (.iload_n 2, 1) := by decide +kernel
theorem dX6_moves_66 : decode cX6_moves 66 = .ok (.invokevirtual 56, 3) := by decide +kernel
theorem dX6_moves_69 : decode cX6_moves 69 = .ok (.iconst 0, 1) := by decide +kernel
theorem dX6_moves_70 : decode cX6_moves 70 = .ok (.istore_n 3, 1) := by decide +kernel
theorem dX6_moves_71 : decode cX6_moves 71 = .ok (.iload_n 3, 1) := by decide +kernel
theorem dX6_moves_72 : decode cX6_moves 72 = .ok (.bipush 11, 2) := by decide +kernel
theorem dX6_moves_74 : decode cX6_moves 74 = .ok (.if_icmp .ge 29, 3) := by decide +kernel
theorem dX6_moves_77 : decode cX6_moves 77 = .ok (.aload_n 0, 1) := by decide +kernel
theorem dX6_moves_78 : decode cX6_moves 78 = .ok (.getfield 7, 3) := by decide +kernel
theorem dX6_moves_81 : decode cX6_moves 81 = .ok (.bipush 33, 2) := by decide +kernel
theorem dX6_moves_83 : decode cX6_moves 83 = .ok (.bipush 11, 2) := by decide +kernel
theorem dX6_moves_85 : decode cX6_moves 85 = .ok (.iload_n 2, 1) := by decide +kernel
theorem dX6_moves_86 : decode cX6_moves 86 = .ok (.imul, 1) := by decide +kernel
theorem dX6_moves_87 : decode cX6_moves 87 = .ok (.iadd, 1) := by decide +kernel
theorem dX6_moves_88 : decode cX6_moves 88 = .ok (.iload_n 3, 1) := by decide +kernel
theorem dX6_moves_89 : decode cX6_moves 89 = .ok (.iadd, 1) := by decide +kernel
theorem dX6_moves_90 : decode cX6_moves 90 = .ok (.aload_n 0, 1) := by decide +kernel
theorem dX6_moves_91 : decode cX6_moves 91 = .ok (.getfield 22, 3) := by decide +kernel
theorem dX6_moves_94 : decode cX6_moves 94 = .ok (.iload_n 3, 1) := by decide +kernel
theorem dX6_moves_95 : decode cX6_moves 95 = .ok (.iaload, 1) := by decide +kernel
theorem dX6_moves_96 : decode cX6_moves 96 = .ok (.iastore, 1) := by decide +kernel
theorem dX6_moves_97 : decode cX6_moves 97 = .ok (.iinc 3 1, 3) := by decide +kernel
theorem dX6_moves_100 : decode cX6_moves 100 = .ok (.goto (-29), 3) := by decide +kernel
theorem dX6_moves_103 : decode cX6_moves 103 = .ok (.iload_n 1, 1) := by decide +kernel
theorem dX6_moves_104 : decode cX6_moves 104 = .ok (.ireturn, 1) := by decide +kernel
theorem dX6_of_0 : decode cX6_of 0 = .ok (.aload_n 0, 1) := by decide +kernel
theorem dX6_of_1 : decode cX6_of 1 = .ok (.iload_n 1, 1) := by decide +kernel
theorem dX6_of_2 : decode cX6_of 2 = .ok (.invokevirtual 64, 3) := by decide +kernel
theorem dX6_of_5 : decode cX6_of 5 = .ok (.ifCond .eq 30, 3) := by decide +kernel
theorem dX6_of_8 : decode cX6_of 8 = .ok (.iload_n 2, 1) := by decide +kernel
theorem dX6_of_9 : decode cX6_of 9 = .ok (.iconst 0, 1) := by decide +kernel
theorem dX6_of_10 : decode cX6_of 10 = .ok (.bipush 10, 2) := by decide +kernel
theorem dX6_of_12 : decode cX6_of 12 = .ok (.invokestatic 39, 3) := by decide +kernel
theorem dX6_of_15 : decode cX6_of 15 = .ok (.ifCond .eq 20, 3) := by decide +kernel
theorem dX6_of_18 : decode cX6_of 18 = .ok (.aload_n 0, 1) := by decide +kernel
theorem dX6_of_19 : decode cX6_of 19 = .ok (.getfield 7, 3) := by decide +kernel
theorem dX6_of_22 : decode cX6_of 22 = .ok (.bipush 33, 2) := by decide +kernel
theorem dX6_of_24 : decode cX6_of 24 = .ok (.bipush 11, 2) := by decide +kernel
theorem dX6_of_26 : decode cX6_of 26 = .ok (.iload_n 1, 1) := by decide +kernel
theorem dX6_of_27 : decode cX6_of 27 = .ok (.imul, 1) := by decide +kernel
theorem dX6_of_28 : decode cX6_of 28 = .ok (.iadd, 1) := by decide +kernel
theorem dX6_of_29 : decode cX6_of 29 = .ok (.iload_n 2, 1) := by decide +kernel
theorem dX6_of_30 : decode cX6_of 30 = .ok (.iadd, 1) := by decide +kernel
theorem dX6_of_31 : decode cX6_of 31 = .ok (.iaload, 1) := by decide +kernel
theorem dX6_of_32 : decode cX6_of 32 = .ok (.goto 7, 3) := by decide +kernel
theorem dX6_of_35 : decode cX6_of 35 = .ok (.aload_n 0, 1) := by decide +kernel
theorem dX6_of_36 : decode cX6_of 36 = .ok (.invokevirtual 47, 3) := by decide +kernel
theorem dX6_of_39 : decode cX6_of 39 = .ok (.ireturn, 1) := by decide +kernel
theorem dX6_lays_0 : decode cX6_lays 0 = .ok (.iconst 0, 1) := by decide +kernel
theorem dX6_lays_1 : decode cX6_lays 1 = .ok (.istore_n 3, 1) := by decide +kernel
theorem dX6_lays_2 : decode cX6_lays 2 = .ok (.iload_n 3, 1) := by decide +kernel
theorem dX6_lays_3 : decode cX6_lays 3 = .ok (.sipush 132, 3) := by decide +kernel
theorem dX6_lays_6 : decode cX6_lays 6 = .ok (.if_icmp .ge 38, 3) := by decide +kernel
theorem dX6_lays_9 : decode cX6_lays 9 = .ok (.aload_n 0, 1) := by decide +kernel
theorem dX6_lays_10 : decode cX6_lays 10 = .ok (.getfield 7, 3) := by decide +kernel
theorem dX6_lays_13 : decode cX6_lays 13 = .ok (.iload_n 2, 1) := by decide +kernel
theorem dX6_lays_14 : decode cX6_lays 14 = .ok (.iload_n 3, 1) := by decide +kernel
theorem dX6_lays_15 : decode cX6_lays 15 = .ok (.iadd, 1) := by decide +kernel
theorem dX6_lays_16 : decode cX6_lays 16 = .ok (.iload_n 3, 1) := by decide +kernel
theorem dX6_lays_17 : decode cX6_lays 17 = .ok (.bipush 11, 2) := by decide +kernel
theorem dX6_lays_19 : decode cX6_lays 19 = .ok (.irem, 1) := by decide +kernel
theorem dX6_lays_20 : decode cX6_lays 20 = .ok (.bipush 10, 2) := by decide +kernel
theorem dX6_lays_22 : decode cX6_lays 22 = .ok (.if_icmp .ne 7, 3) := by decide +kernel
theorem dX6_lays_25 : decode cX6_lays 25 = .ok (.iconst 0, 1) := by decide +kernel
theorem dX6_lays_26 : decode cX6_lays 26 = .ok (.goto 11, 3) := by decide +kernel
theorem dX6_lays_29 : decode cX6_lays 29 = .ok (.aload_n 0, 1) := by decide +kernel
theorem dX6_lays_30 : decode cX6_lays 30 = .ok (.getfield 7, 3) := by decide +kernel
theorem dX6_lays_33 : decode cX6_lays 33 = .ok (.iload_n 1, 1) := by decide +kernel
theorem dX6_lays_34 : decode cX6_lays 34 = .ok (.iload_n 3, 1) := by decide +kernel
theorem dX6_lays_35 : decode cX6_lays 35 = .ok (.iadd, 1) := by decide +kernel
theorem dX6_lays_36 : decode cX6_lays 36 = .ok (.iaload, 1) := by decide +kernel
theorem dX6_lays_37 : decode cX6_lays 37 = .ok (.iastore, 1) := by decide +kernel
theorem dX6_lays_38 : decode cX6_lays 38 = .ok (.iinc 3 1, 3) := by decide +kernel
theorem dX6_lays_41 : decode cX6_lays 41 = .ok (.goto (-39), 3) := by decide +kernel
theorem dX6_lays_44 : decode cX6_lays 44 = .ok (.return_, 1) := by decide +kernel
theorem dX6_keeps_0 : decode cX6_keeps 0 = .ok (.aload_n 0, 1) := by decide +kernel
theorem dX6_keeps_1 : decode cX6_keeps 1 = .ok (.invokevirtual 50, 3) := by decide +kernel
theorem dX6_keeps_4 : decode cX6_keeps 4 = .ok (.aload_n 0, 1) := by decide +kernel
theorem dX6_keeps_5 : decode cX6_keeps 5 = .ok (.getfield 7, 3) := by decide +kernel
theorem dX6_keeps_8 : decode cX6_keeps 8 = .ok (.sipush 165, 3) := by decide +kernel
theorem dX6_keeps_11 : decode cX6_keeps 11 = .ok (.aload_n 0, 1) := by decide +kernel
theorem dX6_keeps_12 : decode cX6_keeps 12 = .ok (.getfield 7, 3) := by decide +kernel
theorem dX6_keeps_15 : decode cX6_keeps 15 = .ok (.bipush 32, 2) := by decide +kernel
theorem dX6_keeps_17 : decode cX6_keeps 17 = .ok (.iaload, 1) := by decide +kernel
theorem dX6_keeps_18 : decode cX6_keeps 18 = .ok (.iastore, 1) := by decide +kernel
theorem dX6_keeps_19 : decode cX6_keeps 19 = .ok (.aload_n 0, 1) := by decide +kernel
theorem dX6_keeps_20 : decode cX6_keeps 20 = .ok (.bipush 33, 2) := by decide +kernel
theorem dX6_keeps_22 : decode cX6_keeps 22 = .ok (.sipush 166, 3) := by decide +kernel
theorem dX6_keeps_25 : decode cX6_keeps 25 = .ok (.invokevirtual 74, 3) := by decide +kernel
theorem dX6_keeps_28 : decode cX6_keeps 28 = .ok (.aload_n 0, 1) := by decide +kernel
theorem dX6_keeps_29 : decode cX6_keeps 29 = .ok (.getfield 7, 3) := by decide +kernel
theorem dX6_keeps_32 : decode cX6_keeps 32 = .ok (.bipush 32, 2) := by decide +kernel
theorem dX6_keeps_34 : decode cX6_keeps 34 = .ok (.iaload, 1) := by decide +kernel
theorem dX6_keeps_35 : decode cX6_keeps 35 = .ok (.ireturn, 1) := by decide +kernel
theorem dX6_takes_0 : decode cX6_takes 0 = .ok (.aload_n 0, 1) := by decide +kernel
theorem dX6_takes_1 : decode cX6_takes 1 = .ok (.invokevirtual 50, 3) := by decide +kernel
theorem dX6_takes_4 : decode cX6_takes 4 = .ok (.aload_n 0, 1) := by decide +kernel
theorem dX6_takes_5 : decode cX6_takes 5 = .ok (.getfield 7, 3) := by decide +kernel
theorem dX6_takes_8 : decode cX6_takes 8 = .ok (.bipush 32, 2) := by decide +kernel
theorem dX6_takes_10 : decode cX6_takes 10 = .ok (.aload_n 0, 1) := by decide +kernel
