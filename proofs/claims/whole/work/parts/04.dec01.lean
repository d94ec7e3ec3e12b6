theorem dX0_init_0 : decode cX0_init 0 = .ok (.aload_n 0, 1) := by decide +kernel
theorem dX0_init_1 : decode cX0_init 1 = .ok (.invokespecial 3, 3) := by decide +kernel
theorem dX0_init_4 : decode cX0_init 4 = .ok (.aload_n 0, 1) := by decide +kernel
theorem dX0_init_5 : decode cX0_init 5 = .ok (.iconst 5, 1) := by decide +kernel
theorem dX0_init_6 : decode cX0_init 6 = .ok (.anewarray 9, 3) := by decide +kernel
theorem dX0_init_9 : decode cX0_init 9 = .ok (.putfield 11, 3) := by decide +kernel
theorem dX0_init_12 : decode cX0_init 12 = .ok (.iconst 0, 1) := by decide +kernel
theorem dX0_init_13 : decode cX0_init 13 = .ok (.istore_n 1, 1) := by decide +kernel
theorem dX0_init_14 : decode cX0_init 14 = .ok (.iload_n 1, 1) := by decide +kernel
theorem dX0_init_15 : decode cX0_init 15 = .ok (.iconst 5, 1) := by decide +kernel
theorem dX0_init_16 : decode cX0_init 16 = .ok (.if_icmp .ge 22, 3) := by decide +kernel
theorem dX0_init_19 : decode cX0_init 19 = .ok (.aload_n 0, 1) := by decide +kernel
theorem dX0_init_20 : decode cX0_init 20 = .ok (.getfield 11, 3) := by decide +kernel
theorem dX0_init_23 : decode cX0_init 23 = .ok (.iload_n 1, 1) := by decide +kernel
theorem dX0_init_24 : decode cX0_init 24 = .ok (.new 9, 3) := by decide +kernel
theorem dX0_init_27 : decode cX0_init 27 = .ok (.dup, 1) := by decide +kernel
theorem dX0_init_28 : decode cX0_init 28 = .ok (.invokespecial 17, 3) := by decide +kernel
theorem dX0_init_31 : decode cX0_init 31 = .ok (.aastore, 1) := by decide +kernel
theorem dX0_init_32 : decode cX0_init 32 = .ok (.iinc 1 1, 3) := by decide +kernel
theorem dX0_init_35 : decode cX0_init 35 = .ok (.goto (-21), 3) := by decide +kernel
theorem dX0_init_38 : decode cX0_init 38 = .ok (.return_, 1) := by decide +kernel
theorem dX0_size_0 : decode cX0_size 0 = .ok (.aload_n 0, 1) := by decide +kernel
theorem dX0_size_1 : decode cX0_size 1 = .ok (.getfield 18, 3) := by decide +kernel
theorem dX0_size_4 : decode cX0_size 4 = .ok (.ireturn, 1) := by decide +kernel
theorem dX0_remember_0 : decode cX0_remember 0 = .ok (.aload_n 0, 1) := by decide +kernel
theorem dX0_remember_1 : decode cX0_remember 1 = .ok (.aload_n 0, 1) := by decide +kernel
theorem dX0_remember_2 : decode cX0_remember 2 = .ok (.getfield 22, 3) := by decide +kernel
theorem dX0_remember_5 : decode cX0_remember 5 = .ok (.invokevirtual 25, 3) := by decide +kernel
theorem dX0_remember_8 : decode cX0_remember 8 = .ok (.astore_n 2, 1) := by decide +kernel
theorem dX0_remember_9 : decode cX0_remember 9 = .ok (.aload_n 2, 1) := by decide +kernel
theorem dX0_remember_10 : decode cX0_remember 10 = .ok (.ifnonnull 4, 3) := by decide +kernel
theorem dX0_remember_13 : decode cX0_remember 13 = .ok (.return_, 1) := by decide +kernel
theorem dX0_remember_14 : decode cX0_remember 14 = .ok (.aload_n 2, 1) := by decide +kernel
theorem dX0_remember_15 : decode cX0_remember 15 = .ok (.aload_n 1, 1) := by decide +kernel
theorem dX0_remember_16 : decode cX0_remember 16 = .ok (.invokevirtual 29, 3) := by decide +kernel
theorem dX0_remember_19 : decode cX0_remember 19 = .ok (.aload_n 0, 1) := by decide +kernel
theorem dX0_remember_20 : decode cX0_remember 20 = .ok (.aload_n 0, 1) := by decide +kernel
theorem dX0_remember_21 : decode cX0_remember 21 = .ok (.getfield 22, 3) := by decide +kernel
theorem dX0_remember_24 : decode cX0_remember 24 = .ok (.iconst 4, 1) := by decide +kernel
theorem dX0_remember_25 : decode cX0_remember 25 = .ok (.if_icmp .ne 7, 3) := by decide +kernel
theorem dX0_remember_28 : decode cX0_remember 28 = .ok (.iconst 0, 1) := by decide +kernel
theorem dX0_remember_29 : decode cX0_remember 29 = .ok (.goto 9, 3) := by decide +kernel
theorem dX0_remember_32 : decode cX0_remember 32 = .ok (.aload_n 0, 1) := by decide +kernel
theorem dX0_remember_33 : decode cX0_remember 33 = .ok (.getfield 22, 3) := by decide +kernel
theorem dX0_remember_36 : decode cX0_remember 36 = .ok (.iconst 1, 1) := by decide +kernel
theorem dX0_remember_37 : decode cX0_remember 37 = .ok (.iadd, 1) := by decide +kernel
theorem dX0_remember_38 : decode cX0_remember 38 = .ok (.putfield 22, 3) := by decide +kernel
theorem dX0_remember_41 : decode cX0_remember 41 = .ok (.aload_n 0, 1) := by decide +kernel
theorem dX0_remember_42 : decode cX0_remember 42 = .ok (.aload_n 0, 1) := by decide +kernel
theorem dX0_remember_43 : decode cX0_remember 43 = .ok (.getfield 18, 3) := by decide +kernel
theorem dX0_remember_46 : decode cX0_remember 46 = .ok (.iconst 1, 1) := by decide +kernel
theorem dX0_remember_47 : decode cX0_remember 47 = .ok (.iadd, 1) := by decide +kernel
theorem dX0_remember_48 : decode cX0_remember 48 = .ok (.iconst 5, 1) := by decide +kernel
theorem dX0_remember_49 : decode cX0_remember 49 = .ok (.invokestatic 33, 3) := by decide +kernel
theorem dX0_remember_52 : decode cX0_remember 52 = .ok (.putfield 18, 3) := by decide +kernel
theorem dX0_remember_55 : decode cX0_remember 55 = .ok (.return_, 1) := by decide +kernel
theorem dX0_restore_0 : decode cX0_restore 0 = .ok (.aload_n 0, 1) := by decide +kernel
theorem dX0_restore_1 : decode cX0_restore 1 = .ok (.getfield 22, 3) := by decide +kernel
theorem dX0_restore_4 : decode cX0_restore 4 = .ok (.ifCond .ne 7, 3) := by decide +kernel
theorem dX0_restore_7 : decode cX0_restore 7 = .ok (.iconst 4, 1) := by decide +kernel
theorem dX0_restore_8 : decode cX0_restore 8 = .ok (.goto 9, 3) := by decide +kernel
theorem dX0_restore_11 : decode cX0_restore 11 = .ok (.aload_n 0, 1) := by decide +kernel
theorem dX0_restore_12 : decode cX0_restore 12 = .ok (.getfield 22, 3) := by decide +kernel
theorem dX0_restore_15 : decode cX0_restore 15 = .ok (.iconst 1, 1) := by decide +kernel
theorem dX0_restore_16 : decode cX0_restore 16 = .ok (.isub, 1) := by decide +kernel
theorem dX0_restore_17 : decode cX0_restore 17 = .ok (.istore_n 2, 1) := by decide +kernel
theorem dX0_restore_18 : decode cX0_restore 18 = .ok (.aload_n 0, 1) := by decide +kernel
theorem dX0_restore_19 : decode cX0_restore 19 = .ok (.iload_n 2, 1) := by decide +kernel
theorem dX0_restore_20 : decode cX0_restore 20 = .ok (.invokevirtual 25, 3) := by decide +kernel
theorem dX0_restore_23 : decode cX0_restore 23 = .ok (.astore_n 3, 1) := by decide +kernel
theorem dX0_restore_24 : decode cX0_restore 24 = .ok (.aload_n 0, 1) := by decide +kernel
theorem dX0_restore_25 : decode cX0_restore 25 = .ok (.getfield 18, 3) := by decide +kernel
theorem dX0_restore_28 : decode cX0_restore 28 = .ok (.ifCond .eq 7, 3) := by decide +kernel
theorem dX0_restore_31 : decode cX0_restore 31 = .ok (.aload_n 3, 1) := by decide +kernel
theorem dX0_restore_32 : decode cX0_restore 32 = .ok (.ifnonnull 4, 3) := by decide +kernel
theorem dX0_restore_35 : decode cX0_restore 35 = .ok (.return_, 1) := by decide +kernel
theorem dX0_restore_36 : decode cX0_restore 36 = .ok (.aload_n 1, 1) := by decide +kernel
theorem dX0_restore_37 : decode cX0_restore 37 = .ok (.aload_n 3, 1) := by decide +kernel
theorem dX0_restore_38 : decode cX0_restore 38 = .ok (.invokevirtual 29, 3) := by decide +kernel
theorem dX0_restore_41 : decode cX0_restore 41 = .ok (.aload_n 0, 1) := by decide +kernel
theorem dX0_restore_42 : decode cX0_restore 42 = .ok (.iload_n 2, 1) := by decide +kernel
theorem dX0_restore_43 : decode cX0_restore 43 = .ok (.putfield 22, 3) := by decide +kernel
theorem dX0_restore_46 : decode cX0_restore 46 = .ok (.aload_n 0, 1) := by decide +kernel
theorem dX0_restore_47 : decode cX0_restore 47 = .ok (.dup, 1) := by decide +kernel
theorem dX0_restore_48 : decode cX0_restore 48 = .ok (.getfield 18, 3) := by decide +kernel
theorem dX0_restore_51 : decode cX0_restore 51 = .ok (.iconst 1, 1) := by decide +kernel
theorem dX0_restore_52 : decode cX0_restore 52 = .ok (.isub, 1) := by decide +kernel
theorem dX0_restore_53 : decode cX0_restore 53 = .ok (.putfield 18, 3) := by decide +kernel
theorem dX0_restore_56 : decode cX0_restore 56 = .ok (.return_, 1) := by decide +kernel
theorem dX0_at_0 : decode cX0_at 0 = .ok (.iload_n 1, 1) := by decide +kernel
theorem dX0_at_1 : decode cX0_at 1 = .ok (.iconst 0, 1) := by decide +kernel
theorem dX0_at_2 : decode cX0_at 2 = .ok (.iconst 4, 1) := by decide +kernel
theorem dX0_at_3 : decode cX0_at 3 = .ok (.invokestatic 39, 3) := by decide +kernel
theorem dX0_at_6 : decode cX0_at 6 = .ok (.ifCond .eq 12, 3) := by decide +kernel
theorem dX0_at_9 : decode cX0_at 9 = .ok (.aload_n 0, 1) := by decide +kernel
theorem dX0_at_10 : decode cX0_at 10 = .ok (.getfield 11, 3) := by decide +kernel
theorem dX0_at_13 : decode cX0_at 13 = .ok (.iload_n 1, 1) := by decide +kernel
theorem dX0_at_14 : decode cX0_at 14 = .ok (.aaload, 1) := by decide +kernel
theorem dX0_at_15 : decode cX0_at 15 = .ok (.goto 4, 3) := by decide +kernel
theorem dX0_at_18 : decode cX0_at 18 = .ok (.aconst_null, 1) := by decide +kernel
theorem dX0_at_19 : decode cX0_at 19 = .ok (.areturn, 1) := by decide +kernel
theorem dX1_init_0 : decode cX1_init 0 = .ok (.aload_n 0, 1) := by decide +kernel
theorem dX1_init_1 : decode cX1_init 1 = .ok (.invokespecial 3, 3) := by decide +kernel
theorem dX1_init_4 : decode cX1_init 4 = .ok (.aload_n 0, 1) := by decide +kernel
theorem dX1_init_5 : decode cX1_init 5 = .ok (.bipush 32, 2) := by decide +kernel
theorem dX1_init_7 : decode cX1_init 7 = .ok (.newarray .int, 2) := by decide +kernel
theorem dX1_init_9 : decode cX1_init 9 = .ok (.putfield 9, 3) := by decide +kernel
theorem dX1_init_12 : decode cX1_init 12 = .ok (.aload_n 0, 1) := by decide +kernel
theorem dX1_init_13 : decode cX1_init 13 = .ok (.bipush 32, 2) := by decide +kernel
theorem dX1_init_15 : decode cX1_init 15 = .ok (.newarray .int, 2) := by decide +kernel
theorem dX1_init_17 : decode cX1_init 17 = .ok (.putfield 15, 3) := by decide +kernel
theorem dX1_init_20 : decode cX1_init 20 = .ok (.aload_n 0, 1) := by decide +kernel
theorem dX1_init_21 : decode cX1_init 21 = .ok (.bipush 12, 2) := by decide +kernel
theorem dX1_init_23 : decode cX1_init 23 = .ok (.newarray .int, 2) := by decide +kernel
theorem dX1_init_25 : decode cX1_init 25 = .ok (.putfield 18, 3) := by decide +kernel
theorem dX1_init_28 : decode cX1_init 28 = .ok (.aload_n 0, 1) := by decide +kernel
theorem dX1_init_29 : decode cX1_init 29 = .ok (.bipush 12, 2) := by decide +kernel
theorem dX1_init_31 : decode cX1_init 31 = .ok (.newarray .int, 2) := by decide +kernel
theorem dX1_init_33 : decode cX1_init 33 = .ok (.putfield 21, 3) := by decide +kernel
theorem dX1_init_36 : decode cX1_init 36 = .ok (.return_, 1) := by decide +kernel
theorem dX1_draw_0 : decode cX1_draw 0 = .ok (.aload_n 0, 1) := by decide +kernel
theorem dX1_draw_1 : decode cX1_draw 1 = .ok (.aload_n 1, 1) := by decide +kernel
theorem dX1_draw_2 : decode cX1_draw 2 = .ok (.invokevirtual 24, 3) := by decide +kernel
theorem dX1_draw_5 : decode cX1_draw 5 = .ok (.bipush 12, 2) := by decide +kernel
theorem dX1_draw_7 : decode cX1_draw 7 = .ok (.invokestatic 30, 3) := by decide +kernel
theorem dX1_draw_10 : decode cX1_draw 10 = .ok (.putfield 36, 3) := by decide +kernel
theorem dX1_draw_13 : decode cX1_draw 13 = .ok (.iconst 0, 1) := by decide +kernel
theorem dX1_draw_14 : decode cX1_draw 14 = .ok (.istore_n 3, 1) := by decide +kernel
theorem dX1_draw_15 : decode cX1_draw 15 = .ok (.iload_n 3, 1) := by decide +kernel
theorem dX1_draw_16 : decode cX1_draw 16 = .ok (.bipush 32, 2) := by decide +kernel
theorem dX1_draw_18 : decode cX1_draw 18 = .ok (.if_icmp .ge 47, 3) := by decide +kernel
theorem dX1_draw_21 : decode cX1_draw 21 = .ok (.iload_n 3, 1) := by decide +kernel
theorem dX1_draw_22 : decode cX1_draw 22 = .ok (.aload_n 2, 1) := by decide +kernel
theorem dX1_draw_23 : decode cX1_draw 23 = .ok (.arraylength, 1) := by decide +kernel
theorem dX1_draw_24 : decode cX1_draw 24 = .ok (.if_icmp .ge 41, 3) := by decide +kernel
theorem dX1_draw_27 : decode cX1_draw 27 = .ok (.aload_n 0, 1) := by decide +kernel
theorem dX1_draw_28 : decode cX1_draw 28 = .ok (.getfield 9, 3) := by decide +kernel
theorem dX1_draw_31 : decode cX1_draw 31 = .ok (.iload_n 3, 1) := by decide +kernel
theorem dX1_draw_32 : decode cX1_draw 32 = .ok (.aload_n 0, 1) := by decide +kernel
theorem dX1_draw_33 : decode cX1_draw 33 = .ok (.aload_n 1, 1) := by decide +kernel
theorem dX1_draw_34 : decode cX1_draw 34 = .ok (.iconst 0, 1) := by decide +kernel
theorem dX1_draw_35 : decode cX1_draw 35 = .ok (.iload_n 3, 1) := by decide +kernel
theorem dX1_draw_36 : decode cX1_draw 36 = .ok (.aload_n 2, 1) := by decide +kernel
theorem dX1_draw_37 : decode cX1_draw 37 = .ok (.iload_n 3, 1) := by decide +kernel
theorem dX1_draw_38 : decode cX1_draw 38 = .ok (.iaload, 1) := by decide +kernel
theorem dX1_draw_39 : decode cX1_draw 39 = .ok (.invokevirtual 39, 3) := by decide +kernel
theorem dX1_draw_42 : decode cX1_draw 42 = .ok (.iastore, 1) := by decide +kernel
theorem dX1_draw_43 : decode cX1_draw 43 = .ok (.aload_n 0, 1) := by decide +kernel
theorem dX1_draw_44 : decode cX1_draw 44 = .ok (.getfield 15, 3) := by decide +kernel
theorem dX1_draw_47 : decode cX1_draw 47 = .ok (.iload_n 3, 1) := by decide +kernel
theorem dX1_draw_48 : decode cX1_draw 48 = .ok (.aload_n 0, 1) := by decide +kernel
theorem dX1_draw_49 : decode cX1_draw 49 = .ok (.aload_n 1, 1) := by decide +kernel
theorem dX1_draw_50 : decode cX1_draw 50 = .ok (.iconst 1, 1) := by decide +kernel
theorem dX1_draw_51 : decode cX1_draw 51 = .ok (.iload_n 3, 1) := by decide +kernel
theorem dX1_draw_52 : decode cX1_draw 52 = .ok (.aload_n 2, 1) := by decide +kernel
theorem dX1_draw_53 : decode cX1_draw 53 = .ok (.iload_n 3, 1) := by decide +kernel
theorem dX1_draw_54 : decode cX1_draw 54 = .ok (.iaload, 1) := by decide +kernel
theorem dX1_draw_55 : decode cX1_draw 55 = .ok (.invokevirtual 39, 3) := by decide +kernel
theorem dX1_draw_58 : decode cX1_draw 58 = .ok (.iastore, 1) := by decide +kernel
theorem dX1_draw_59 : decode cX1_draw 59 = .ok (.iinc 3 1, 3) := by decide +kernel
theorem dX1_draw_62 : decode cX1_draw 62 = .ok (.goto (-47), 3) := by decide +kernel
theorem dX1_draw_65 : decode cX1_draw 65 = .ok (.iconst 0, 1) := by decide +kernel
theorem dX1_draw_66 : decode cX1_draw 66 = .ok (.istore_n 3, 1) := by decide +kernel
theorem dX1_draw_67 : decode cX1_draw 67 = .ok (.iload_n 3, 1) := by decide +kernel
theorem dX1_draw_68 : decode cX1_draw 68 = .ok (.aload_n 0, 1) := by decide +kernel
theorem dX1_draw_69 : decode cX1_draw 69 = .ok (.getfield 36, 3) := by decide +kernel
theorem dX1_draw_72 : decode cX1_draw 72 = .ok (.if_icmp .ge 33, 3) := by decide +kernel
theorem dX1_draw_75 : decode cX1_draw 75 = .ok (.aload_n 0, 1) := by decide +kernel
theorem dX1_draw_76 : decode cX1_draw 76 = .ok (.getfield 18, 3) := by decide +kernel
theorem dX1_draw_79 : decode cX1_draw 79 = .ok (.iload_n 3, 1) := by decide +kernel
theorem dX1_draw_80 : decode cX1_draw 80 = .ok (.aload_n 1, 1) := by decide +kernel
theorem dX1_draw_81 : decode cX1_draw 81 = .ok (.iload_n 3, 1) := by decide +kernel
theorem dX1_draw_82 : decode cX1_draw 82 = .ok (.invokestatic 43, 3) := by decide +kernel
theorem dX1_draw_85 : decode cX1_draw 85 = .ok (.iastore, 1) := by decide +kernel
theorem dX1_draw_86 : decode cX1_draw 86 = .ok (.aload_n 0, 1) := by decide +kernel
theorem dX1_draw_87 : decode cX1_draw 87 = .ok (.getfield 21, 3) := by decide +kernel
theorem dX1_draw_90 : decode cX1_draw 90 = .ok (.iload_n 3, 1) := by decide +kernel
theorem dX1_draw_91 : decode cX1_draw 91 = .ok (.aload_n 1, 1) := by decide +kernel
theorem dX1_draw_92 : decode cX1_draw 92 = .ok (.iload_n 3, 1) := by decide +kernel
theorem dX1_draw_93 : decode cX1_draw 93 = .ok (.bipush 9, 2) := by decide +kernel
theorem dX1_draw_95 : decode cX1_draw 95 = .ok (.invokevirtual 47, 3) := by decide +kernel
theorem dX1_draw_98 : decode cX1_draw 98 = .ok (.iastore, 1) := by decide +kernel
theorem dX1_draw_99 : decode cX1_draw 99 = .ok (.iinc 3 1, 3) := by decide +kernel
theorem dX1_draw_102 : decode cX1_draw 102 = .ok (.goto (-35), 3) := by decide +kernel
theorem dX1_draw_105 : decode cX1_draw 105 = .ok (.aload_n 0, 1) := by decide +kernel
theorem dX1_draw_106 : decode cX1_draw 106 = .ok (.invokevirtual 50, 3) := by decide +kernel
theorem dX1_draw_109 : decode cX1_draw 109 = .ok (.return_, 1) := by decide +kernel
theorem dX1_silence_0 : decode cX1_silence 0 = .ok (.iload_n 1, 1) := by decide +kernel
theorem dX1_silence_1 : decode cX1_silence 1 = .ok (.iconst 0, 1) := by decide +kernel
theorem dX1_silence_2 : decode cX1_silence 2 = .ok (.bipush 11, 2) := by decide +kernel
theorem dX1_silence_4 : decode cX1_silence 4 = .ok (.invokestatic 53, 3) := by decide +kernel
theorem dX1_silence_7 : decode cX1_silence 7 = .ok (.ifCond .eq 10, 3) := by decide +kernel
theorem dX1_silence_10 : decode cX1_silence 10 = .ok (.aload_n 0, 1) := by decide +kernel
theorem dX1_silence_11 : decode cX1_silence 11 = .ok (.getfield 18, 3) := by decide +kernel
theorem dX1_silence_14 : decode cX1_silence 14 = .ok (.iload_n 1, 1) := by decide +kernel
theorem dX1_silence_15 : decode cX1_silence 15 = .ok (.iconst 0, 1) := by decide +kernel
theorem dX1_silence_16 : decode cX1_silence 16 = .ok (.iastore, 1) := by decide +kernel
theorem dX1_silence_17 : decode cX1_silence 17 = .ok (.aload_n 0, 1) := by decide +kernel
theorem dX1_silence_18 : decode cX1_silence 18 = .ok (.invokevirtual 50, 3) := by decide +kernel
theorem dX1_silence_21 : decode cX1_silence 21 = .ok (.return_, 1) := by decide +kernel
theorem dX1_forget_0 : decode cX1_forget 0 = .ok (.aload_n 0, 1) := by decide +kernel
theorem dX1_forget_1 : decode cX1_forget 1 = .ok (.iconst 0, 1) := by decide +kernel
theorem dX1_forget_2 : decode cX1_forget 2 = .ok (.putfield 57, 3) := by decide +kernel
theorem dX1_forget_5 : decode cX1_forget 5 = .ok (.aload_n 0, 1) := by decide +kernel
theorem dX1_forget_6 : decode cX1_forget 6 = .ok (.iconst 0, 1) := by decide +kernel
theorem dX1_forget_7 : decode cX1_forget 7 = .ok (.putfield 60, 3) := by decide +kernel
theorem dX1_forget_10 : decode cX1_forget 10 = .ok (.aload_n 0, 1) := by decide +kernel
theorem dX1_forget_11 : decode cX1_forget 11 = .ok (.iconst 0, 1) := by decide +kernel
theorem dX1_forget_12 : decode cX1_forget 12 = .ok (.putfield 63, 3) := by decide +kernel
theorem dX1_forget_15 : decode cX1_forget 15 = .ok (.return_, 1) := by decide +kernel
theorem dX1_fittingEnd_0 : decode cX1_fittingEnd 0 = .ok (.iconst 0, 1) := by decide +kernel
theorem dX1_fittingEnd_1 : decode cX1_fittingEnd 1 = .ok (.istore 5, 2) := by decide +kernel
theorem dX1_fittingEnd_3 : decode cX1_fittingEnd 3 = .ok (.iconst 0, 1) := by decide +kernel
theorem dX1_fittingEnd_4 : decode cX1_fittingEnd 4 = .ok (.istore 6, 2) := by decide +kernel
theorem dX1_fittingEnd_6 : decode cX1_fittingEnd 6 = .ok (.iload 6, 2) := by decide +kernel
theorem dX1_fittingEnd_8 : decode cX1_fittingEnd 8 = .ok (.aload_n 0, 1) := by decide +kernel
theorem dX1_fittingEnd_9 : decode cX1_fittingEnd 9 = .ok (.getfield 36, 3) := by decide +kernel
theorem dX1_fittingEnd_12 : decode cX1_fittingEnd 12 = .ok (.if_icmp .ge 31, 3) := by decide +kernel
theorem dX1_fittingEnd_15 : decode cX1_fittingEnd 15 = .ok (.aload_n 1, 1) := by decide +kernel
theorem dX1_fittingEnd_16 : decode cX1_fittingEnd 16 = .ok (.iload 6, 2) := by decide +kernel
theorem dX1_fittingEnd_18 : decode cX1_fittingEnd 18 = .ok (.iload_n 2, 1) := by decide +kernel
theorem dX1_fittingEnd_19 : decode cX1_fittingEnd 19 = .ok (.iload_n 3, 1) := by decide +kernel
theorem dX1_fittingEnd_20 : decode cX1_fittingEnd 20 = .ok (.iload 4, 2) := by decide +kernel
theorem dX1_fittingEnd_22 : decode cX1_fittingEnd 22 = .ok (.invokestatic 66, 3) := by decide +kernel
theorem dX1_fittingEnd_25 : decode cX1_fittingEnd 25 = .ok (.ifCond .eq 12, 3) := by decide +kernel
theorem dX1_fittingEnd_28 : decode cX1_fittingEnd 28 = .ok (.iload 5, 2) := by decide +kernel
theorem dX1_fittingEnd_30 : decode cX1_fittingEnd 30 = .ok (.iconst 1, 1) := by decide +kernel
theorem dX1_fittingEnd_31 : decode cX1_fittingEnd 31 = .ok (.iload 6, 2) := by decide +kernel
theorem dX1_fittingEnd_33 : decode cX1_fittingEnd 33 = .ok (.ishl, 1) := by decide +kernel
theorem dX1_fittingEnd_34 : decode cX1_fittingEnd 34 = .ok (.ior, 1) := by decide +kernel
theorem dX1_fittingEnd_35 : decode cX1_fittingEnd 35 = .ok (.istore 5, 2) := by decide +kernel
theorem dX1_fittingEnd_37 : decode cX1_fittingEnd 37 = .ok (.iinc 6 1, 3) := by decide +kernel
theorem dX1_fittingEnd_40 : decode cX1_fittingEnd 40 = .ok (.goto (-34), 3) := by decide +kernel
theorem dX1_fittingEnd_43 : decode cX1_fittingEnd 43 = .ok (.iload 5, 2) := by decide +kernel
theorem dX1_fittingEnd_45 : decode cX1_fittingEnd 45 = .ok (.ireturn, 1) := by decide +kernel
theorem dX1_servicesOf_0 : decode cX1_servicesOf 0 = .ok (.iconst 0, 1) := by decide +kernel
theorem dX1_servicesOf_1 : decode cX1_servicesOf 1 = .ok (.istore_n 2, 1) := by decide +kernel
theorem dX1_servicesOf_2 : decode cX1_servicesOf 2 = .ok (.iconst 0, 1) := by decide +kernel
theorem dX1_servicesOf_3 : decode cX1_servicesOf 3 = .ok (.istore_n 3, 1) := by decide +kernel
theorem dX1_servicesOf_4 : decode cX1_servicesOf 4 = .ok (.iload_n 3, 1) := by decide +kernel
theorem dX1_servicesOf_5 : decode cX1_servicesOf 5 = .ok (.bipush 32, 2) := by decide +kernel
theorem dX1_servicesOf_7 : decode cX1_servicesOf 7 = .ok (.if_icmp .ge 29, 3) := by decide +kernel
theorem dX1_servicesOf_10 : decode cX1_servicesOf 10 = .ok (.aload_n 0, 1) := by decide +kernel
theorem dX1_servicesOf_11 : decode cX1_servicesOf 11 = .ok (.iload_n 1, 1) := by decide +kernel
theorem dX1_servicesOf_12 : decode cX1_servicesOf 12 = .ok (.iload_n 3, 1) := by decide +kernel
theorem dX1_servicesOf_13 : decode cX1_servicesOf 13 = .ok (.iconst 2, 1) := by decide +kernel
theorem dX1_servicesOf_14 : decode cX1_servicesOf 14 = .ok (.idiv, 1) := by decide +kernel
theorem dX1_servicesOf_15 : decode cX1_servicesOf 15 = .ok (.iload_n 3, 1) := by decide +kernel
theorem dX1_servicesOf_16 : decode cX1_servicesOf 16 = .ok (.iconst 2, 1) := by decide +kernel
theorem dX1_servicesOf_17 : decode cX1_servicesOf 17 = .ok (.irem, 1) := by decide +kernel
theorem dX1_servicesOf_18 : decode cX1_servicesOf 18 = .ok (.invokestatic 70, 3) := by decide +kernel
theorem dX1_servicesOf_21 : decode cX1_servicesOf 21 = .ok (.ifCond .eq 9, 3) := by decide +kernel
theorem dX1_servicesOf_24 : decode cX1_servicesOf 24 = .ok (.iload_n 2, 1) := by decide +kernel
theorem dX1_servicesOf_25 : decode cX1_servicesOf 25 = .ok (.iconst 1, 1) := by decide +kernel
theorem dX1_servicesOf_26 : decode cX1_servicesOf 26 = .ok (.iload_n 3, 1) := by decide +kernel
theorem dX1_servicesOf_27 : decode cX1_servicesOf 27 = .ok (.ishl, 1) := by decide +kernel
theorem dX1_servicesOf_28 : decode cX1_servicesOf 28 = .ok (.ior, 1) := by decide +kernel
theorem dX1_servicesOf_29 : decode cX1_servicesOf 29 = .ok (.istore_n 2, 1) := by decide +kernel
theorem dX1_servicesOf_30 : decode cX1_servicesOf 30 = .ok (.iinc 3 1, 3) := by decide +kernel
theorem dX1_servicesOf_33 : decode cX1_servicesOf 33 = .ok (.goto (-29), 3) := by decide +kernel
theorem dX1_servicesOf_36 : decode cX1_servicesOf 36 = .ok (.iload_n 2, 1) := by decide +kernel
theorem dX1_servicesOf_37 : decode cX1_servicesOf 37 = .ok (.ireturn, 1) := by decide +kernel
theorem dX1_holds_0 : decode cX1_holds 0 = .ok (.iload_n 0, 1) := by decide +kernel
theorem dX1_holds_1 : decode cX1_holds 1 = .ok (.iload_n 1, 1) := by decide +kernel
theorem dX1_holds_2 : decode cX1_holds 2 = .ok (.iushr, 1) := by decide +kernel
theorem dX1_holds_3 : decode cX1_holds 3 = .ok (.iconst 1, 1) := by decide +kernel
theorem dX1_holds_4 : decode cX1_holds 4 = .ok (.iand, 1) := by decide +kernel
theorem dX1_holds_5 : decode cX1_holds 5 = .ok (.iconst 1, 1) := by decide +kernel
theorem dX1_holds_6 : decode cX1_holds 6 = .ok (.if_icmp .ne 7, 3) := by decide +kernel
theorem dX1_holds_9 : decode cX1_holds 9 = .ok (.iconst 1, 1) := by decide +kernel
theorem dX1_holds_10 : decode cX1_holds 10 = .ok (.goto 4, 3) := by decide +kernel
theorem dX1_holds_13 : decode cX1_holds 13 = .ok (.iconst 0, 1) := by decide +kernel
theorem dX1_holds_14 : decode cX1_holds 14 = .ok (.ireturn, 1) := by decide +kernel
theorem dX1_casesFitting_0 : decode cX1_casesFitting 0 = .ok (.iload_n 1, 1) := by decide +kernel
theorem dX1_casesFitting_1 : decode cX1_casesFitting 1 = .ok (.iconst 0, 1) := by decide +kernel
theorem dX1_casesFitting_2 : decode cX1_casesFitting 2 = .ok (.aload_n 0, 1) := by decide +kernel
theorem dX1_casesFitting_3 : decode cX1_casesFitting 3 = .ok (.getfield 36, 3) := by decide +kernel
theorem dX1_casesFitting_6 : decode cX1_casesFitting 6 = .ok (.iconst 1, 1) := by decide +kernel
theorem dX1_casesFitting_7 : decode cX1_casesFitting 7 = .ok (.isub, 1) := by decide +kernel
theorem dX1_casesFitting_8 : decode cX1_casesFitting 8 = .ok (.invokestatic 53, 3) := by decide +kernel
theorem dX1_casesFitting_11 : decode cX1_casesFitting 11 = .ok (.ifCond .eq 17, 3) := by decide +kernel
theorem dX1_casesFitting_14 : decode cX1_casesFitting 14 = .ok (.iload_n 2, 1) := by decide +kernel
theorem dX1_casesFitting_15 : decode cX1_casesFitting 15 = .ok (.iconst 0, 1) := by decide +kernel
theorem dX1_casesFitting_16 : decode cX1_casesFitting 16 = .ok (.aload_n 0, 1) := by decide +kernel
theorem dX1_casesFitting_17 : decode cX1_casesFitting 17 = .ok (.getfield 36, 3) := by decide +kernel
theorem dX1_casesFitting_20 : decode cX1_casesFitting 20 = .ok (.iconst 1, 1) := by decide +kernel
theorem dX1_casesFitting_21 : decode cX1_casesFitting 21 = .ok (.isub, 1) := by decide +kernel
theorem dX1_casesFitting_22 : decode cX1_casesFitting 22 = .ok (.invokestatic 53, 3) := by decide +kernel
theorem dX1_casesFitting_25 : decode cX1_casesFitting 25 = .ok (.ifCond .ne 5, 3) := by decide +kernel
theorem dX1_casesFitting_28 : decode cX1_casesFitting 28 = .ok (.iconst 0, 1) := by decide +kernel
theorem dX1_casesFitting_29 : decode cX1_casesFitting 29 = .ok (.ireturn, 1) := by decide +kernel
theorem dX1_casesFitting_30 : decode cX1_casesFitting 30 = .ok (.aload_n 0, 1) := by decide +kernel
theorem dX1_casesFitting_31 : decode cX1_casesFitting 31 = .ok (.getfield 9, 3) := by decide +kernel
theorem dX1_casesFitting_34 : decode cX1_casesFitting 34 = .ok (.iload_n 1, 1) := by decide +kernel
theorem dX1_casesFitting_35 : decode cX1_casesFitting 35 = .ok (.iload_n 2, 1) := by decide +kernel
theorem dX1_casesFitting_36 : decode cX1_casesFitting 36 = .ok (.invokestatic 74, 3) := by decide +kernel
theorem dX1_casesFitting_39 : decode cX1_casesFitting 39 = .ok (.aload_n 0, 1) := by decide +kernel
theorem dX1_casesFitting_40 : decode cX1_casesFitting 40 = .ok (.getfield 15, 3) := by decide +kernel
theorem dX1_casesFitting_43 : decode cX1_casesFitting 43 = .ok (.iload_n 1, 1) := by decide +kernel
theorem dX1_casesFitting_44 : decode cX1_casesFitting 44 = .ok (.iload_n 2, 1) := by decide +kernel
theorem dX1_casesFitting_45 : decode cX1_casesFitting 45 = .ok (.invokestatic 74, 3) := by decide +kernel
theorem dX1_casesFitting_48 : decode cX1_casesFitting 48 = .ok (.imul, 1) := by decide +kernel
theorem dX1_casesFitting_49 : decode cX1_casesFitting 49 = .ok (.aload_n 0, 1) := by decide +kernel
theorem dX1_casesFitting_50 : decode cX1_casesFitting 50 = .ok (.getfield 18, 3) := by decide +kernel
theorem dX1_casesFitting_53 : decode cX1_casesFitting 53 = .ok (.iload_n 1, 1) := by decide +kernel
theorem dX1_casesFitting_54 : decode cX1_casesFitting 54 = .ok (.iaload, 1) := by decide +kernel
theorem dX1_casesFitting_55 : decode cX1_casesFitting 55 = .ok (.aload_n 0, 1) := by decide +kernel
theorem dX1_casesFitting_56 : decode cX1_casesFitting 56 = .ok (.getfield 18, 3) := by decide +kernel
theorem dX1_casesFitting_59 : decode cX1_casesFitting 59 = .ok (.iload_n 2, 1) := by decide +kernel
theorem dX1_casesFitting_60 : decode cX1_casesFitting 60 = .ok (.iaload, 1) := by decide +kernel
theorem dX1_casesFitting_61 : decode cX1_casesFitting 61 = .ok (.iand, 1) := by decide +kernel
theorem dX1_casesFitting_62 : decode cX1_casesFitting 62 = .ok (.invokestatic 78, 3) := by decide +kernel
theorem dX1_casesFitting_65 : decode cX1_casesFitting 65 = .ok (.imul, 1) := by decide +kernel
theorem dX1_casesFitting_66 : decode cX1_casesFitting 66 = .ok (.ireturn, 1) := by decide +kernel
theorem dX1_addressesOf_0 : decode cX1_addressesOf 0 = .ok (.iconst 0, 1) := by decide +kernel
theorem dX1_addressesOf_1 : decode cX1_addressesOf 1 = .ok (.istore_n 3, 1) := by decide +kernel
theorem dX1_addressesOf_2 : decode cX1_addressesOf 2 = .ok (.iconst 0, 1) := by decide +kernel
theorem dX1_addressesOf_3 : decode cX1_addressesOf 3 = .ok (.istore 4, 2) := by decide +kernel
theorem dX1_addressesOf_5 : decode cX1_addressesOf 5 = .ok (.iload 4, 2) := by decide +kernel
theorem dX1_addressesOf_7 : decode cX1_addressesOf 7 = .ok (.aload_n 0, 1) := by decide +kernel
theorem dX1_addressesOf_8 : decode cX1_addressesOf 8 = .ok (.arraylength, 1) := by decide +kernel
theorem dX1_addressesOf_9 : decode cX1_addressesOf 9 = .ok (.if_icmp .ge 34, 3) := by decide +kernel
theorem dX1_addressesOf_12 : decode cX1_addressesOf 12 = .ok (.aload_n 0, 1) := by decide +kernel
theorem dX1_addressesOf_13 : decode cX1_addressesOf 13 = .ok (.iload 4, 2) := by decide +kernel
theorem dX1_addressesOf_15 : decode cX1_addressesOf 15 = .ok (.iaload, 1) := by decide +kernel
theorem dX1_addressesOf_16 : decode cX1_addressesOf 16 = .ok (.iload_n 1, 1) := by decide +kernel
theorem dX1_addressesOf_17 : decode cX1_addressesOf 17 = .ok (.invokestatic 84, 3) := by decide +kernel
theorem dX1_addressesOf_20 : decode cX1_addressesOf 20 = .ok (.ifCond .eq 17, 3) := by decide +kernel
theorem dX1_addressesOf_23 : decode cX1_addressesOf 23 = .ok (.aload_n 0, 1) := by decide +kernel
theorem dX1_addressesOf_24 : decode cX1_addressesOf 24 = .ok (.iload 4, 2) := by decide +kernel
theorem dX1_addressesOf_26 : decode cX1_addressesOf 26 = .ok (.iaload, 1) := by decide +kernel
theorem dX1_addressesOf_27 : decode cX1_addressesOf 27 = .ok (.iload_n 2, 1) := by decide +kernel
theorem dX1_addressesOf_28 : decode cX1_addressesOf 28 = .ok (.invokestatic 84, 3) := by decide +kernel
theorem dX1_addressesOf_31 : decode cX1_addressesOf 31 = .ok (.ifCond .eq 6, 3) := by decide +kernel
theorem dX1_addressesOf_34 : decode cX1_addressesOf 34 = .ok (.iinc 3 1, 3) := by decide +kernel
theorem dX1_addressesOf_37 : decode cX1_addressesOf 37 = .ok (.iinc 4 1, 3) := by decide +kernel
theorem dX1_addressesOf_40 : decode cX1_addressesOf 40 = .ok (.goto (-35), 3) := by decide +kernel
theorem dX1_addressesOf_43 : decode cX1_addressesOf 43 = .ok (.iload_n 3, 1) := by decide +kernel
theorem dX1_addressesOf_44 : decode cX1_addressesOf 44 = .ok (.ireturn, 1) := by decide +kernel
theorem dX1_casesDecided_0 : decode cX1_casesDecided 0 = .ok (.iconst 0, 1) := by decide +kernel
theorem dX1_casesDecided_1 : decode cX1_casesDecided 1 = .ok (.istore_n 2, 1) := by decide +kernel
theorem dX1_casesDecided_2 : decode cX1_casesDecided 2 = .ok (.iconst 0, 1) := by decide +kernel
theorem dX1_casesDecided_3 : decode cX1_casesDecided 3 = .ok (.istore_n 3, 1) := by decide +kernel
theorem dX1_casesDecided_4 : decode cX1_casesDecided 4 = .ok (.iload_n 3, 1) := by decide +kernel
theorem dX1_casesDecided_5 : decode cX1_casesDecided 5 = .ok (.bipush 32, 2) := by decide +kernel
theorem dX1_casesDecided_7 : decode cX1_casesDecided 7 = .ok (.if_icmp .ge 50, 3) := by decide +kernel
theorem dX1_casesDecided_10 : decode cX1_casesDecided 10 = .ok (.iconst 0, 1) := by decide +kernel
theorem dX1_casesDecided_11 : decode cX1_casesDecided 11 = .ok (.istore 4, 2) := by decide +kernel
theorem dX1_casesDecided_13 : decode cX1_casesDecided 13 = .ok (.iload 4, 2) := by decide +kernel
theorem dX1_casesDecided_15 : decode cX1_casesDecided 15 = .ok (.bipush 32, 2) := by decide +kernel
theorem dX1_casesDecided_17 : decode cX1_casesDecided 17 = .ok (.if_icmp .ge 34, 3) := by decide +kernel
theorem dX1_casesDecided_20 : decode cX1_casesDecided 20 = .ok (.iload_n 2, 1) := by decide +kernel
theorem dX1_casesDecided_21 : decode cX1_casesDecided 21 = .ok (.aload_n 0, 1) := by decide +kernel
theorem dX1_casesDecided_22 : decode cX1_casesDecided 22 = .ok (.iload_n 1, 1) := by decide +kernel
theorem dX1_casesDecided_23 : decode cX1_casesDecided 23 = .ok (.aload_n 0, 1) := by decide +kernel
theorem dX1_casesDecided_24 : decode cX1_casesDecided 24 = .ok (.getfield 9, 3) := by decide +kernel
theorem dX1_casesDecided_27 : decode cX1_casesDecided 27 = .ok (.iload_n 3, 1) := by decide +kernel
theorem dX1_casesDecided_28 : decode cX1_casesDecided 28 = .ok (.iaload, 1) := by decide +kernel
theorem dX1_casesDecided_29 : decode cX1_casesDecided 29 = .ok (.aload_n 0, 1) := by decide +kernel
theorem dX1_casesDecided_30 : decode cX1_casesDecided 30 = .ok (.getfield 15, 3) := by decide +kernel
theorem dX1_casesDecided_33 : decode cX1_casesDecided 33 = .ok (.iload 4, 2) := by decide +kernel
theorem dX1_casesDecided_35 : decode cX1_casesDecided 35 = .ok (.iaload, 1) := by decide +kernel
theorem dX1_casesDecided_36 : decode cX1_casesDecided 36 = .ok (.iand, 1) := by decide +kernel
theorem dX1_casesDecided_37 : decode cX1_casesDecided 37 = .ok (.invokevirtual 88, 3) := by decide +kernel
theorem dX1_casesDecided_40 : decode cX1_casesDecided 40 = .ok (.invokestatic 78, 3) := by decide +kernel
theorem dX1_casesDecided_43 : decode cX1_casesDecided 43 = .ok (.iadd, 1) := by decide +kernel
theorem dX1_casesDecided_44 : decode cX1_casesDecided 44 = .ok (.istore_n 2, 1) := by decide +kernel
theorem dX1_casesDecided_45 : decode cX1_casesDecided 45 = .ok (.iinc 4 1, 3) := by decide +kernel
theorem dX1_casesDecided_48 : decode cX1_casesDecided 48 = .ok (.goto (-35), 3) := by decide +kernel
theorem dX1_casesDecided_51 : decode cX1_casesDecided 51 = .ok (.iinc 3 1, 3) := by decide +kernel
theorem dX1_casesDecided_54 : decode cX1_casesDecided 54 = .ok (.goto (-50), 3) := by decide +kernel
theorem dX1_casesDecided_57 : decode cX1_casesDecided 57 = .ok (.iload_n 2, 1) := by decide +kernel
theorem dX1_casesDecided_58 : decode cX1_casesDecided 58 = .ok (.ireturn, 1) := by decide +kernel
theorem dX1_servicesDecided_0 : decode cX1_servicesDecided 0 = .ok (.iload_n 1, 1) := by decide +kernel
theorem dX1_servicesDecided_1 : decode cX1_servicesDecided 1 = .ok (.iconst 0, 1) := by decide +kernel
theorem dX1_servicesDecided_2 : decode cX1_servicesDecided 2 = .ok (.aload_n 0, 1) := by decide +kernel
theorem dX1_servicesDecided_3 : decode cX1_servicesDecided 3 = .ok (.getfield 36, 3) := by decide +kernel
theorem dX1_servicesDecided_6 : decode cX1_servicesDecided 6 = .ok (.iconst 1, 1) := by decide +kernel
theorem dX1_servicesDecided_7 : decode cX1_servicesDecided 7 = .ok (.isub, 1) := by decide +kernel
theorem dX1_servicesDecided_8 : decode cX1_servicesDecided 8 = .ok (.invokestatic 53, 3) := by decide +kernel
theorem dX1_servicesDecided_11 : decode cX1_servicesDecided 11 = .ok (.ifCond .eq 11, 3) := by decide +kernel
theorem dX1_servicesDecided_14 : decode cX1_servicesDecided 14 = .ok (.iload_n 2, 1) := by decide +kernel
theorem dX1_servicesDecided_15 : decode cX1_servicesDecided 15 = .ok (.iload_n 1, 1) := by decide +kernel
theorem dX1_servicesDecided_16 : decode cX1_servicesDecided 16 = .ok (.invokestatic 84, 3) := by decide +kernel
theorem dX1_servicesDecided_19 : decode cX1_servicesDecided 19 = .ok (.ifCond .ne 5, 3) := by decide +kernel
theorem dX1_servicesDecided_22 : decode cX1_servicesDecided 22 = .ok (.iconst 0, 1) := by decide +kernel
theorem dX1_servicesDecided_23 : decode cX1_servicesDecided 23 = .ok (.ireturn, 1) := by decide +kernel
theorem dX1_servicesDecided_24 : decode cX1_servicesDecided 24 = .ok (.aload_n 0, 1) := by decide +kernel
theorem dX1_servicesDecided_25 : decode cX1_servicesDecided 25 = .ok (.getfield 18, 3) := by decide +kernel
theorem dX1_servicesDecided_28 : decode cX1_servicesDecided 28 = .ok (.iload_n 1, 1) := by decide +kernel
theorem dX1_servicesDecided_29 : decode cX1_servicesDecided 29 = .ok (.iaload, 1) := by decide +kernel
theorem dX1_servicesDecided_30 : decode cX1_servicesDecided 30 = .ok (.istore_n 3, 1) := by decide +kernel
theorem dX1_servicesDecided_31 : decode cX1_servicesDecided 31 = .ok (.iconst 0, 1) := by decide +kernel
theorem dX1_servicesDecided_32 : decode cX1_servicesDecided 32 = .ok (.istore 4, 2) := by decide +kernel
theorem dX1_servicesDecided_34 : decode cX1_servicesDecided 34 = .ok (.iload 4, 2) := by decide +kernel
theorem dX1_servicesDecided_36 : decode cX1_servicesDecided 36 = .ok (.iload_n 1, 1) := by decide +kernel
theorem dX1_servicesDecided_37 : decode cX1_servicesDecided 37 = .ok (.if_icmp .ge 30, 3) := by decide +kernel
theorem dX1_servicesDecided_40 : decode cX1_servicesDecided 40 = .ok (.iload_n 2, 1) := by decide +kernel
theorem dX1_servicesDecided_41 : decode cX1_servicesDecided 41 = .ok (.iload 4, 2) := by decide +kernel
theorem dX1_servicesDecided_43 : decode cX1_servicesDecided 43 = .ok (.invokestatic 84, 3) := by decide +kernel
theorem dX1_servicesDecided_46 : decode cX1_servicesDecided 46 = .ok (.ifCond .eq 15, 3) := by decide +kernel
theorem dX1_servicesDecided_49 : decode cX1_servicesDecided 49 = .ok (.iload_n 3, 1) := by decide +kernel
theorem dX1_servicesDecided_50 : decode cX1_servicesDecided 50 = .ok (.aload_n 0, 1) := by decide +kernel
theorem dX1_servicesDecided_51 : decode cX1_servicesDecided 51 = .ok (.getfield 18, 3) := by decide +kernel
theorem dX1_servicesDecided_54 : decode cX1_servicesDecided 54 = .ok (.iload 4, 2) := by decide +kernel
theorem dX1_servicesDecided_56 : decode cX1_servicesDecided 56 = .ok (.iaload, 1) := by decide +kernel
theorem dX1_servicesDecided_57 : decode cX1_servicesDecided 57 = .ok (.iconst (-1), 1) := by decide +kernel
theorem dX1_servicesDecided_58 : decode cX1_servicesDecided 58 = .ok (.ixor, 1) := by decide +kernel
theorem dX1_servicesDecided_59 : decode cX1_servicesDecided 59 = .ok (.iand, 1) := by decide +kernel
theorem dX1_servicesDecided_60 : decode cX1_servicesDecided 60 = .ok (.istore_n 3, 1) := by decide +kernel
theorem dX1_servicesDecided_61 : decode cX1_servicesDecided 61 = .ok (.iinc 4 1, 3) := by decide +kernel
theorem dX1_servicesDecided_64 : decode cX1_servicesDecided 64 = .ok (.goto (-30), 3) := by decide +kernel
theorem dX1_servicesDecided_67 : decode cX1_servicesDecided 67 = .ok (.iload_n 3, 1) := by decide +kernel
theorem dX1_servicesDecided_68 : decode cX1_servicesDecided 68 = .ok (.ireturn, 1) := by decide +kernel
theorem dX1_casesWithAction_0 : decode cX1_casesWithAction 0 = .ok (.iconst 0, 1) := by decide +kernel
theorem dX1_casesWithAction_1 : decode cX1_casesWithAction 1 = .ok (.istore_n 2, 1) := by decide +kernel
theorem dX1_casesWithAction_2 : decode cX1_casesWithAction 2 = .ok (.iconst 0, 1) := by decide +kernel
theorem dX1_casesWithAction_3 : decode cX1_casesWithAction 3 = .ok (.istore_n 3, 1) := by decide +kernel
theorem dX1_casesWithAction_4 : decode cX1_casesWithAction 4 = .ok (.iload_n 3, 1) := by decide +kernel
theorem dX1_casesWithAction_5 : decode cX1_casesWithAction 5 = .ok (.bipush 32, 2) := by decide +kernel
theorem dX1_casesWithAction_7 : decode cX1_casesWithAction 7 = .ok (.if_icmp .ge 54, 3) := by decide +kernel
theorem dX1_casesWithAction_10 : decode cX1_casesWithAction 10 = .ok (.iconst 0, 1) := by decide +kernel
theorem dX1_casesWithAction_11 : decode cX1_casesWithAction 11 = .ok (.istore 4, 2) := by decide +kernel
theorem dX1_casesWithAction_13 : decode cX1_casesWithAction 13 = .ok (.iload 4, 2) := by decide +kernel
theorem dX1_casesWithAction_15 : decode cX1_casesWithAction 15 = .ok (.bipush 32, 2) := by decide +kernel
theorem dX1_casesWithAction_17 : decode cX1_casesWithAction 17 = .ok (.if_icmp .ge 38, 3) := by decide +kernel
theorem dX1_casesWithAction_20 : decode cX1_casesWithAction 20 = .ok (.aload_n 0, 1) := by decide +kernel
theorem dX1_casesWithAction_21 : decode cX1_casesWithAction 21 = .ok (.aload_n 0, 1) := by decide +kernel
theorem dX1_casesWithAction_22 : decode cX1_casesWithAction 22 = .ok (.getfield 9, 3) := by decide +kernel
theorem dX1_casesWithAction_25 : decode cX1_casesWithAction 25 = .ok (.iload_n 3, 1) := by decide +kernel
theorem dX1_casesWithAction_26 : decode cX1_casesWithAction 26 = .ok (.iaload, 1) := by decide +kernel
theorem dX1_casesWithAction_27 : decode cX1_casesWithAction 27 = .ok (.aload_n 0, 1) := by decide +kernel
theorem dX1_casesWithAction_28 : decode cX1_casesWithAction 28 = .ok (.getfield 15, 3) := by decide +kernel
theorem dX1_casesWithAction_31 : decode cX1_casesWithAction 31 = .ok (.iload 4, 2) := by decide +kernel
theorem dX1_casesWithAction_33 : decode cX1_casesWithAction 33 = .ok (.iaload, 1) := by decide +kernel
theorem dX1_casesWithAction_34 : decode cX1_casesWithAction 34 = .ok (.iand, 1) := by decide +kernel
theorem dX1_casesWithAction_35 : decode cX1_casesWithAction 35 = .ok (.invokevirtual 91, 3) := by decide +kernel
theorem dX1_casesWithAction_38 : decode cX1_casesWithAction 38 = .ok (.iload_n 2, 1) := by decide +kernel
theorem dX1_casesWithAction_39 : decode cX1_casesWithAction 39 = .ok (.aload_n 0, 1) := by decide +kernel
theorem dX1_casesWithAction_40 : decode cX1_casesWithAction 40 = .ok (.iload_n 1, 1) := by decide +kernel
theorem dX1_casesWithAction_41 : decode cX1_casesWithAction 41 = .ok (.invokevirtual 95, 3) := by decide +kernel
theorem dX1_casesWithAction_44 : decode cX1_casesWithAction 44 = .ok (.invokestatic 78, 3) := by decide +kernel
theorem dX1_casesWithAction_47 : decode cX1_casesWithAction 47 = .ok (.iadd, 1) := by decide +kernel
theorem dX1_casesWithAction_48 : decode cX1_casesWithAction 48 = .ok (.istore_n 2, 1) := by decide +kernel
theorem dX1_casesWithAction_49 : decode cX1_casesWithAction 49 = .ok (.iinc 4 1, 3) := by decide +kernel
theorem dX1_casesWithAction_52 : decode cX1_casesWithAction 52 = .ok (.goto (-39), 3) := by decide +kernel
theorem dX1_casesWithAction_55 : decode cX1_casesWithAction 55 = .ok (.iinc 3 1, 3) := by decide +kernel
theorem dX1_casesWithAction_58 : decode cX1_casesWithAction 58 = .ok (.goto (-54), 3) := by decide +kernel
theorem dX1_casesWithAction_61 : decode cX1_casesWithAction 61 = .ok (.iload_n 2, 1) := by decide +kernel
theorem dX1_casesWithAction_62 : decode cX1_casesWithAction 62 = .ok (.ireturn, 1) := by decide +kernel
theorem dX1_servicesWithAction_0 : decode cX1_servicesWithAction 0 = .ok (.iload_n 1, 1) := by decide +kernel
theorem dX1_servicesWithAction_1 : decode cX1_servicesWithAction 1 = .ok (.lookupswitch 37 #[(1, 27), (2, 32)], 27) := by decide +kernel
theorem dX1_servicesWithAction_28 : decode cX1_servicesWithAction 28 = .ok (.aload_n 0, 1) := by decide +kernel
theorem dX1_servicesWithAction_29 : decode cX1_servicesWithAction 29 = .ok (.getfield 60, 3) := by decide +kernel
theorem dX1_servicesWithAction_32 : decode cX1_servicesWithAction 32 = .ok (.ireturn, 1) := by decide +kernel
theorem dX1_servicesWithAction_33 : decode cX1_servicesWithAction 33 = .ok (.aload_n 0, 1) := by decide +kernel
theorem dX1_servicesWithAction_34 : decode cX1_servicesWithAction 34 = .ok (.getfield 63, 3) := by decide +kernel
theorem dX1_servicesWithAction_37 : decode cX1_servicesWithAction 37 = .ok (.ireturn, 1) := by decide +kernel
theorem dX1_servicesWithAction_38 : decode cX1_servicesWithAction 38 = .ok (.aload_n 0, 1) := by decide +kernel
theorem dX1_servicesWithAction_39 : decode cX1_servicesWithAction 39 = .ok (.getfield 60, 3) := by decide +kernel
theorem dX1_servicesWithAction_42 : decode cX1_servicesWithAction 42 = .ok (.aload_n 0, 1) := by decide +kernel
theorem dX1_servicesWithAction_43 : decode cX1_servicesWithAction 43 = .ok (.getfield 63, 3) := by decide +kernel
theorem dX1_servicesWithAction_46 : decode cX1_servicesWithAction 46 = .ok (.ior, 1) := by decide +kernel
theorem dX1_servicesWithAction_47 : decode cX1_servicesWithAction 47 = .ok (.iconst (-1), 1) := by decide +kernel
theorem dX1_servicesWithAction_48 : decode cX1_servicesWithAction 48 = .ok (.ixor, 1) := by decide +kernel
theorem dX1_servicesWithAction_49 : decode cX1_servicesWithAction 49 = .ok (.ireturn, 1) := by decide +kernel
theorem dX1_look_0 : decode cX1_look 0 = .ok (.iload_n 1, 1) := by decide +kernel
theorem dX1_look_1 : decode cX1_look 1 = .ok (.aload_n 0, 1) := by decide +kernel
theorem dX1_look_2 : decode cX1_look 2 = .ok (.getfield 57, 3) := by decide +kernel
theorem dX1_look_5 : decode cX1_look 5 = .ok (.if_icmp .ne 4, 3) := by decide +kernel
theorem dX1_look_8 : decode cX1_look 8 = .ok (.return_, 1) := by decide +kernel
theorem dX1_look_9 : decode cX1_look 9 = .ok (.aload_n 0, 1) := by decide +kernel
theorem dX1_look_10 : decode cX1_look 10 = .ok (.invokevirtual 50, 3) := by decide +kernel
theorem dX1_look_13 : decode cX1_look 13 = .ok (.aload_n 0, 1) := by decide +kernel
theorem dX1_look_14 : decode cX1_look 14 = .ok (.iload_n 1, 1) := by decide +kernel
theorem dX1_look_15 : decode cX1_look 15 = .ok (.putfield 57, 3) := by decide +kernel
theorem dX1_look_18 : decode cX1_look 18 = .ok (.iconst (-1), 1) := by decide +kernel
theorem dX1_look_19 : decode cX1_look 19 = .ok (.istore_n 2, 1) := by decide +kernel
theorem dX1_look_20 : decode cX1_look 20 = .ok (.iconst 0, 1) := by decide +kernel
theorem dX1_look_21 : decode cX1_look 21 = .ok (.istore_n 3, 1) := by decide +kernel
theorem dX1_look_22 : decode cX1_look 22 = .ok (.iload_n 3, 1) := by decide +kernel
theorem dX1_look_23 : decode cX1_look 23 = .ok (.aload_n 0, 1) := by decide +kernel
theorem dX1_look_24 : decode cX1_look 24 = .ok (.getfield 36, 3) := by decide +kernel
theorem dX1_look_27 : decode cX1_look 27 = .ok (.if_icmp .ge 88, 3) := by decide +kernel
theorem dX1_look_30 : decode cX1_look 30 = .ok (.iload_n 1, 1) := by decide +kernel
theorem dX1_look_31 : decode cX1_look 31 = .ok (.iload_n 3, 1) := by decide +kernel
theorem dX1_look_32 : decode cX1_look 32 = .ok (.invokestatic 84, 3) := by decide +kernel
theorem dX1_look_35 : decode cX1_look 35 = .ok (.ifCond .ne 6, 3) := by decide +kernel
theorem dX1_look_38 : decode cX1_look 38 = .ok (.goto 71, 3) := by decide +kernel
theorem dX1_look_41 : decode cX1_look 41 = .ok (.aload_n 0, 1) := by decide +kernel
theorem dX1_look_42 : decode cX1_look 42 = .ok (.getfield 21, 3) := by decide +kernel
theorem dX1_look_45 : decode cX1_look 45 = .ok (.iload_n 3, 1) := by decide +kernel
theorem dX1_look_46 : decode cX1_look 46 = .ok (.iaload, 1) := by decide +kernel
theorem dX1_look_47 : decode cX1_look 47 = .ok (.iconst 1, 1) := by decide +kernel
theorem dX1_look_48 : decode cX1_look 48 = .ok (.if_icmp .ne 23, 3) := by decide +kernel
theorem dX1_look_51 : decode cX1_look 51 = .ok (.aload_n 0, 1) := by decide +kernel
theorem dX1_look_52 : decode cX1_look 52 = .ok (.dup, 1) := by decide +kernel
theorem dX1_look_53 : decode cX1_look 53 = .ok (.getfield 60, 3) := by decide +kernel
theorem dX1_look_56 : decode cX1_look 56 = .ok (.iload_n 2, 1) := by decide +kernel
theorem dX1_look_57 : decode cX1_look 57 = .ok (.aload_n 0, 1) := by decide +kernel
theorem dX1_look_58 : decode cX1_look 58 = .ok (.getfield 18, 3) := by decide +kernel
theorem dX1_look_61 : decode cX1_look 61 = .ok (.iload_n 3, 1) := by decide +kernel
theorem dX1_look_62 : decode cX1_look 62 = .ok (.iaload, 1) := by decide +kernel
theorem dX1_look_63 : decode cX1_look 63 = .ok (.iand, 1) := by decide +kernel
theorem dX1_look_64 : decode cX1_look 64 = .ok (.ior, 1) := by decide +kernel
theorem dX1_look_65 : decode cX1_look 65 = .ok (.putfield 60, 3) := by decide +kernel
theorem dX1_look_68 : decode cX1_look 68 = .ok (.goto 30, 3) := by decide +kernel
theorem dX1_look_71 : decode cX1_look 71 = .ok (.aload_n 0, 1) := by decide +kernel
theorem dX1_look_72 : decode cX1_look 72 = .ok (.getfield 21, 3) := by decide +kernel
theorem dX1_look_75 : decode cX1_look 75 = .ok (.iload_n 3, 1) := by decide +kernel
theorem dX1_look_76 : decode cX1_look 76 = .ok (.iaload, 1) := by decide +kernel
theorem dX1_look_77 : decode cX1_look 77 = .ok (.iconst 2, 1) := by decide +kernel
theorem dX1_look_78 : decode cX1_look 78 = .ok (.if_icmp .ne 20, 3) := by decide +kernel
theorem dX1_look_81 : decode cX1_look 81 = .ok (.aload_n 0, 1) := by decide +kernel
theorem dX1_look_82 : decode cX1_look 82 = .ok (.dup, 1) := by decide +kernel
theorem dX1_look_83 : decode cX1_look 83 = .ok (.getfield 63, 3) := by decide +kernel
theorem dX1_look_86 : decode cX1_look 86 = .ok (.iload_n 2, 1) := by decide +kernel
theorem dX1_look_87 : decode cX1_look 87 = .ok (.aload_n 0, 1) := by decide +kernel
theorem dX1_look_88 : decode cX1_look 88 = .ok (.getfield 18, 3) := by decide +kernel
theorem dX1_look_91 : decode cX1_look 91 = .ok (.iload_n 3, 1) := by decide +kernel
theorem dX1_look_92 : decode cX1_look 92 = .ok (.iaload, 1) := by decide +kernel
theorem dX1_look_93 : decode cX1_look 93 = .ok (.iand, 1) := by decide +kernel
theorem dX1_look_94 : decode cX1_look 94 = .ok (.ior, 1) := by decide +kernel
theorem dX1_look_95 : decode cX1_look 95 = .ok (.putfield 63, 3) := by decide +kernel
theorem dX1_look_98 : decode cX1_look 98 = .ok (.iload_n 2, 1) := by decide +kernel
theorem dX1_look_99 : decode cX1_look 99 = .ok (.aload_n 0, 1) := by decide +kernel
theorem dX1_look_100 : decode cX1_look 100 = .ok (.getfield 18, 3) := by decide +kernel
theorem dX1_look_103 : decode cX1_look 103 = .ok (.iload_n 3, 1) := by decide +kernel
theorem dX1_look_104 : decode cX1_look 104 = .ok (.iaload, 1) := by decide +kernel
theorem dX1_look_105 : decode cX1_look 105 = .ok (.iconst (-1), 1) := by decide +kernel
theorem dX1_look_106 : decode cX1_look 106 = .ok (.ixor, 1) := by decide +kernel
theorem dX1_look_107 : decode cX1_look 107 = .ok (.iand, 1) := by decide +kernel
theorem dX1_look_108 : decode cX1_look 108 = .ok (.istore_n 2, 1) := by decide +kernel
theorem dX1_look_109 : decode cX1_look 109 = .ok (.iinc 3 1, 3) := by decide +kernel
theorem dX1_look_112 : decode cX1_look 112 = .ok (.goto (-90), 3) := by decide +kernel
theorem dX1_look_115 : decode cX1_look 115 = .ok (.return_, 1) := by decide +kernel
theorem dX1_differences_0 : decode cX1_differences 0 = .ok (.iconst 0, 1) := by decide +kernel
theorem dX1_differences_1 : decode cX1_differences 1 = .ok (.istore_n 2, 1) := by decide +kernel
theorem dX1_differences_2 : decode cX1_differences 2 = .ok (.iconst 0, 1) := by decide +kernel
theorem dX1_differences_3 : decode cX1_differences 3 = .ok (.istore_n 3, 1) := by decide +kernel
theorem dX1_differences_4 : decode cX1_differences 4 = .ok (.iload_n 3, 1) := by decide +kernel
theorem dX1_differences_5 : decode cX1_differences 5 = .ok (.bipush 32, 2) := by decide +kernel
theorem dX1_differences_7 : decode cX1_differences 7 = .ok (.if_icmp .ge 39, 3) := by decide +kernel
theorem dX1_differences_10 : decode cX1_differences 10 = .ok (.iconst 0, 1) := by decide +kernel
theorem dX1_differences_11 : decode cX1_differences 11 = .ok (.istore 4, 2) := by decide +kernel
theorem dX1_differences_13 : decode cX1_differences 13 = .ok (.iload 4, 2) := by decide +kernel
theorem dX1_differences_15 : decode cX1_differences 15 = .ok (.bipush 32, 2) := by decide +kernel
theorem dX1_differences_17 : decode cX1_differences 17 = .ok (.if_icmp .ge 23, 3) := by decide +kernel
theorem dX1_differences_20 : decode cX1_differences 20 = .ok (.iload_n 2, 1) := by decide +kernel
theorem dX1_differences_21 : decode cX1_differences 21 = .ok (.aload_n 0, 1) := by decide +kernel
theorem dX1_differences_22 : decode cX1_differences 22 = .ok (.aload_n 1, 1) := by decide +kernel
theorem dX1_differences_23 : decode cX1_differences 23 = .ok (.iload_n 3, 1) := by decide +kernel
theorem dX1_differences_24 : decode cX1_differences 24 = .ok (.iload 4, 2) := by decide +kernel
theorem dX1_differences_26 : decode cX1_differences 26 = .ok (.invokevirtual 98, 3) := by decide +kernel
theorem dX1_differences_29 : decode cX1_differences 29 = .ok (.invokestatic 78, 3) := by decide +kernel
theorem dX1_differences_32 : decode cX1_differences 32 = .ok (.iadd, 1) := by decide +kernel
theorem dX1_differences_33 : decode cX1_differences 33 = .ok (.istore_n 2, 1) := by decide +kernel
theorem dX1_differences_34 : decode cX1_differences 34 = .ok (.iinc 4 1, 3) := by decide +kernel
theorem dX1_differences_37 : decode cX1_differences 37 = .ok (.goto (-24), 3) := by decide +kernel
theorem dX1_differences_40 : decode cX1_differences 40 = .ok (.iinc 3 1, 3) := by decide +kernel
theorem dX1_differences_43 : decode cX1_differences 43 = .ok (.goto (-39), 3) := by decide +kernel
theorem dX1_differences_46 : decode cX1_differences 46 = .ok (.iload_n 2, 1) := by decide +kernel
theorem dX1_differences_47 : decode cX1_differences 47 = .ok (.ireturn, 1) := by decide +kernel
theorem dX1_firstDifference_0 : decode cX1_firstDifference 0 = .ok (.iconst 0, 1) := by decide +kernel
theorem dX1_firstDifference_1 : decode cX1_firstDifference 1 = .ok (.istore_n 2, 1) := by decide +kernel
theorem dX1_firstDifference_2 : decode cX1_firstDifference 2 = .ok (.iload_n 2, 1) := by decide +kernel
theorem dX1_firstDifference_3 : decode cX1_firstDifference 3 = .ok (.bipush 32, 2) := by decide +kernel
theorem dX1_firstDifference_5 : decode cX1_firstDifference 5 = .ok (.if_icmp .ge 53, 3) := by decide +kernel
theorem dX1_firstDifference_8 : decode cX1_firstDifference 8 = .ok (.iconst 0, 1) := by decide +kernel
theorem dX1_firstDifference_9 : decode cX1_firstDifference 9 = .ok (.istore_n 3, 1) := by decide +kernel
theorem dX1_firstDifference_10 : decode cX1_firstDifference 10 = .ok (.iload_n 3, 1) := by decide +kernel
theorem dX1_firstDifference_11 : decode cX1_firstDifference 11 = .ok (.bipush 32, 2) := by decide +kernel
theorem dX1_firstDifference_13 : decode cX1_firstDifference 13 = .ok (.if_icmp .ge 39, 3) := by decide +kernel
theorem dX1_firstDifference_16 : decode cX1_firstDifference 16 = .ok (.aload_n 0, 1) := by decide +kernel
theorem dX1_firstDifference_17 : decode cX1_firstDifference 17 = .ok (.aload_n 1, 1) := by decide +kernel
theorem dX1_firstDifference_18 : decode cX1_firstDifference 18 = .ok (.iload_n 2, 1) := by decide +kernel
theorem dX1_firstDifference_19 : decode cX1_firstDifference 19 = .ok (.iload_n 3, 1) := by decide +kernel
theorem dX1_firstDifference_20 : decode cX1_firstDifference 20 = .ok (.invokevirtual 98, 3) := by decide +kernel
theorem dX1_firstDifference_23 : decode cX1_firstDifference 23 = .ok (.istore 4, 2) := by decide +kernel
theorem dX1_firstDifference_25 : decode cX1_firstDifference 25 = .ok (.iload 4, 2) := by decide +kernel
theorem dX1_firstDifference_27 : decode cX1_firstDifference 27 = .ok (.ifCond .eq 19, 3) := by decide +kernel
theorem dX1_firstDifference_30 : decode cX1_firstDifference 30 = .ok (.iload_n 2, 1) := by decide +kernel
theorem dX1_firstDifference_31 : decode cX1_firstDifference 31 = .ok (.bipush 32, 2) := by decide +kernel
theorem dX1_firstDifference_33 : decode cX1_firstDifference 33 = .ok (.imul, 1) := by decide +kernel
theorem dX1_firstDifference_34 : decode cX1_firstDifference 34 = .ok (.iload_n 3, 1) := by decide +kernel
theorem dX1_firstDifference_35 : decode cX1_firstDifference 35 = .ok (.iadd, 1) := by decide +kernel
theorem dX1_firstDifference_36 : decode cX1_firstDifference 36 = .ok (.bipush 32, 2) := by decide +kernel
theorem dX1_firstDifference_38 : decode cX1_firstDifference 38 = .ok (.imul, 1) := by decide +kernel
theorem dX1_firstDifference_39 : decode cX1_firstDifference 39 = .ok (.iload 4, 2) := by decide +kernel
theorem dX1_firstDifference_41 : decode cX1_firstDifference 41 = .ok (.invokestatic 102, 3) := by decide +kernel
theorem dX1_firstDifference_44 : decode cX1_firstDifference 44 = .ok (.iadd, 1) := by decide +kernel
theorem dX1_firstDifference_45 : decode cX1_firstDifference 45 = .ok (.ireturn, 1) := by decide +kernel
theorem dX1_firstDifference_46 : decode cX1_firstDifference 46 = .ok (.iinc 3 1, 3) := by decide +kernel
theorem dX1_firstDifference_49 : decode cX1_firstDifference 49 = .ok (.goto (-39), 3) := by decide +kernel
theorem dX1_firstDifference_52 : decode cX1_firstDifference 52 = .ok (.iinc 2 1, 3) := by decide +kernel
theorem dX1_firstDifference_55 : decode cX1_firstDifference 55 = .ok (.goto (-53), 3) := by decide +kernel
theorem dX1_firstDifference_58 : decode cX1_firstDifference 58 = .ok (.iconst (-1), 1) := by decide +kernel
theorem dX1_firstDifference_59 : decode cX1_firstDifference 59 = .ok (.ireturn, 1) := by decide +kernel
theorem dX1_differingServices_0 : decode cX1_differingServices 0 = .ok (.iload_n 2, 1) := by decide +kernel
theorem dX1_differingServices_1 : decode cX1_differingServices 1 = .ok (.iconst 0, 1) := by decide +kernel
theorem dX1_differingServices_2 : decode cX1_differingServices 2 = .ok (.bipush 31, 2) := by decide +kernel
theorem dX1_differingServices_4 : decode cX1_differingServices 4 = .ok (.invokestatic 53, 3) := by decide +kernel
theorem dX1_differingServices_7 : decode cX1_differingServices 7 = .ok (.ifCond .eq 13, 3) := by decide +kernel
theorem dX1_differingServices_10 : decode cX1_differingServices 10 = .ok (.iload_n 3, 1) := by decide +kernel
theorem dX1_differingServices_11 : decode cX1_differingServices 11 = .ok (.iconst 0, 1) := by decide +kernel
theorem dX1_differingServices_12 : decode cX1_differingServices 12 = .ok (.bipush 31, 2) := by decide +kernel
theorem dX1_differingServices_14 : decode cX1_differingServices 14 = .ok (.invokestatic 53, 3) := by decide +kernel
theorem dX1_differingServices_17 : decode cX1_differingServices 17 = .ok (.ifCond .ne 5, 3) := by decide +kernel
theorem dX1_differingServices_20 : decode cX1_differingServices 20 = .ok (.iconst 0, 1) := by decide +kernel
theorem dX1_differingServices_21 : decode cX1_differingServices 21 = .ok (.ireturn, 1) := by decide +kernel
theorem dX1_differingServices_22 : decode cX1_differingServices 22 = .ok (.aload_n 0, 1) := by decide +kernel
theorem dX1_differingServices_23 : decode cX1_differingServices 23 = .ok (.aload_n 0, 1) := by decide +kernel
theorem dX1_differingServices_24 : decode cX1_differingServices 24 = .ok (.getfield 9, 3) := by decide +kernel
theorem dX1_differingServices_27 : decode cX1_differingServices 27 = .ok (.iload_n 2, 1) := by decide +kernel
theorem dX1_differingServices_28 : decode cX1_differingServices 28 = .ok (.iaload, 1) := by decide +kernel
theorem dX1_differingServices_29 : decode cX1_differingServices 29 = .ok (.aload_n 0, 1) := by decide +kernel
theorem dX1_differingServices_30 : decode cX1_differingServices 30 = .ok (.getfield 15, 3) := by decide +kernel
theorem dX1_differingServices_33 : decode cX1_differingServices 33 = .ok (.iload_n 3, 1) := by decide +kernel
theorem dX1_differingServices_34 : decode cX1_differingServices 34 = .ok (.iaload, 1) := by decide +kernel
theorem dX1_differingServices_35 : decode cX1_differingServices 35 = .ok (.iand, 1) := by decide +kernel
theorem dX1_differingServices_36 : decode cX1_differingServices 36 = .ok (.invokevirtual 91, 3) := by decide +kernel
theorem dX1_differingServices_39 : decode cX1_differingServices 39 = .ok (.aload_n 1, 1) := by decide +kernel
theorem dX1_differingServices_40 : decode cX1_differingServices 40 = .ok (.aload_n 1, 1) := by decide +kernel
theorem dX1_differingServices_41 : decode cX1_differingServices 41 = .ok (.getfield 9, 3) := by decide +kernel
theorem dX1_differingServices_44 : decode cX1_differingServices 44 = .ok (.iload_n 2, 1) := by decide +kernel
theorem dX1_differingServices_45 : decode cX1_differingServices 45 = .ok (.iaload, 1) := by decide +kernel
theorem dX1_differingServices_46 : decode cX1_differingServices 46 = .ok (.aload_n 1, 1) := by decide +kernel
theorem dX1_differingServices_47 : decode cX1_differingServices 47 = .ok (.getfield 15, 3) := by decide +kernel
theorem dX1_differingServices_50 : decode cX1_differingServices 50 = .ok (.iload_n 3, 1) := by decide +kernel
theorem dX1_differingServices_51 : decode cX1_differingServices 51 = .ok (.iaload, 1) := by decide +kernel
theorem dX1_differingServices_52 : decode cX1_differingServices 52 = .ok (.iand, 1) := by decide +kernel
theorem dX1_differingServices_53 : decode cX1_differingServices 53 = .ok (.invokevirtual 91, 3) := by decide +kernel
theorem dX1_differingServices_56 : decode cX1_differingServices 56 = .ok (.aload_n 0, 1) := by decide +kernel
theorem dX1_differingServices_57 : decode cX1_differingServices 57 = .ok (.getfield 60, 3) := by decide +kernel
theorem dX1_differingServices_60 : decode cX1_differingServices 60 = .ok (.aload_n 1, 1) := by decide +kernel
theorem dX1_differingServices_61 : decode cX1_differingServices 61 = .ok (.getfield 60, 3) := by decide +kernel
theorem dX1_differingServices_64 : decode cX1_differingServices 64 = .ok (.ixor, 1) := by decide +kernel
theorem dX1_differingServices_65 : decode cX1_differingServices 65 = .ok (.aload_n 0, 1) := by decide +kernel
theorem dX1_differingServices_66 : decode cX1_differingServices 66 = .ok (.getfield 63, 3) := by decide +kernel
theorem dX1_differingServices_69 : decode cX1_differingServices 69 = .ok (.aload_n 1, 1) := by decide +kernel
theorem dX1_differingServices_70 : decode cX1_differingServices 70 = .ok (.getfield 63, 3) := by decide +kernel
theorem dX1_differingServices_73 : decode cX1_differingServices 73 = .ok (.ixor, 1) := by decide +kernel
theorem dX1_differingServices_74 : decode cX1_differingServices 74 = .ok (.ior, 1) := by decide +kernel
theorem dX1_differingServices_75 : decode cX1_differingServices 75 = .ok (.ireturn, 1) := by decide +kernel
theorem dX1_leastOf_0 : decode cX1_leastOf 0 = .ok (.iconst 0, 1) := by decide +kernel
theorem dX1_leastOf_1 : decode cX1_leastOf 1 = .ok (.istore_n 1, 1) := by decide +kernel
theorem dX1_leastOf_2 : decode cX1_leastOf 2 = .ok (.iload_n 1, 1) := by decide +kernel
theorem dX1_leastOf_3 : decode cX1_leastOf 3 = .ok (.bipush 32, 2) := by decide +kernel
theorem dX1_leastOf_5 : decode cX1_leastOf 5 = .ok (.if_icmp .ge 19, 3) := by decide +kernel
theorem dX1_leastOf_8 : decode cX1_leastOf 8 = .ok (.iload_n 0, 1) := by decide +kernel
theorem dX1_leastOf_9 : decode cX1_leastOf 9 = .ok (.iload_n 1, 1) := by decide +kernel
theorem dX1_leastOf_10 : decode cX1_leastOf 10 = .ok (.invokestatic 84, 3) := by decide +kernel
theorem dX1_leastOf_13 : decode cX1_leastOf 13 = .ok (.ifCond .eq 5, 3) := by decide +kernel
theorem dX1_leastOf_16 : decode cX1_leastOf 16 = .ok (.iload_n 1, 1) := by decide +kernel
theorem dX1_leastOf_17 : decode cX1_leastOf 17 = .ok (.ireturn, 1) := by decide +kernel
theorem dX1_leastOf_18 : decode cX1_leastOf 18 = .ok (.iinc 1 1, 3) := by decide +kernel
theorem dX1_leastOf_21 : decode cX1_leastOf 21 = .ok (.goto (-19), 3) := by decide +kernel
theorem dX1_leastOf_24 : decode cX1_leastOf 24 = .ok (.iconst 0, 1) := by decide +kernel
theorem dX1_leastOf_25 : decode cX1_leastOf 25 = .ok (.ireturn, 1) := by decide +kernel
theorem dX2_init_0 : decode cX2_init 0 = .ok (.aload_n 0, 1) := by decide +kernel
theorem dX2_init_1 : decode cX2_init 1 = .ok (.invokespecial 3, 3) := by decide +kernel
theorem dX2_init_4 : decode cX2_init 4 = .ok (.aload_n 0, 1) := by decide +kernel
theorem dX2_init_5 : decode cX2_init 5 = .ok (.bipush 32, 2) := by decide +kernel
theorem dX2_init_7 : decode cX2_init 7 = .ok (.newarray .int, 2) := by decide +kernel
theorem dX2_init_9 : decode cX2_init 9 = .ok (.putfield 9, 3) := by decide +kernel
theorem dX2_init_12 : decode cX2_init 12 = .ok (.aload_n 0, 1) := by decide +kernel
theorem dX2_init_13 : decode cX2_init 13 = .ok (.new 15, 3) := by decide +kernel
theorem dX2_init_16 : decode cX2_init 16 = .ok (.dup, 1) := by decide +kernel
theorem dX2_init_17 : decode cX2_init 17 = .ok (.bipush 12, 2) := by decide +kernel
theorem dX2_init_19 : decode cX2_init 19 = .ok (.bipush 11, 2) := by decide +kernel
theorem dX2_init_21 : decode cX2_init 21 = .ok (.invokespecial 17, 3) := by decide +kernel
theorem dX2_init_24 : decode cX2_init 24 = .ok (.putfield 20, 3) := by decide +kernel
theorem dX2_init_27 : decode cX2_init 27 = .ok (.aload_n 0, 1) := by decide +kernel
theorem dX2_init_28 : decode cX2_init 28 = .ok (.new 15, 3) := by decide +kernel
theorem dX2_init_31 : decode cX2_init 31 = .ok (.dup, 1) := by decide +kernel
theorem dX2_init_32 : decode cX2_init 32 = .ok (.bipush 12, 2) := by decide +kernel
theorem dX2_init_34 : decode cX2_init 34 = .ok (.bipush 11, 2) := by decide +kernel
theorem dX2_init_36 : decode cX2_init 36 = .ok (.invokespecial 17, 3) := by decide +kernel
theorem dX2_init_39 : decode cX2_init 39 = .ok (.putfield 24, 3) := by decide +kernel
theorem dX2_init_42 : decode cX2_init 42 = .ok (.aload_n 0, 1) := by decide +kernel
theorem dX2_init_43 : decode cX2_init 43 = .ok (.new 15, 3) := by decide +kernel
theorem dX2_init_46 : decode cX2_init 46 = .ok (.dup, 1) := by decide +kernel
theorem dX2_init_47 : decode cX2_init 47 = .ok (.bipush 8, 2) := by decide +kernel
theorem dX2_init_49 : decode cX2_init 49 = .ok (.bipush 7, 2) := by decide +kernel
theorem dX2_init_51 : decode cX2_init 51 = .ok (.invokespecial 17, 3) := by decide +kernel
theorem dX2_init_54 : decode cX2_init 54 = .ok (.putfield 27, 3) := by decide +kernel
theorem dX2_init_57 : decode cX2_init 57 = .ok (.aload_n 0, 1) := by decide +kernel
theorem dX2_init_58 : decode cX2_init 58 = .ok (.new 15, 3) := by decide +kernel
theorem dX2_init_61 : decode cX2_init 61 = .ok (.dup, 1) := by decide +kernel
theorem dX2_init_62 : decode cX2_init 62 = .ok (.bipush 6, 2) := by decide +kernel
theorem dX2_init_64 : decode cX2_init 64 = .ok (.iconst 5, 1) := by decide +kernel
theorem dX2_init_65 : decode cX2_init 65 = .ok (.invokespecial 17, 3) := by decide +kernel
theorem dX2_init_68 : decode cX2_init 68 = .ok (.putfield 30, 3) := by decide +kernel
theorem dX2_init_71 : decode cX2_init 71 = .ok (.aload_n 0, 1) := by decide +kernel
theorem dX2_init_72 : decode cX2_init 72 = .ok (.bipush 7, 2) := by decide +kernel
theorem dX2_init_74 : decode cX2_init 74 = .ok (.newarray .int, 2) := by decide +kernel
theorem dX2_init_76 : decode cX2_init 76 = .ok (.putfield 33, 3) := by decide +kernel
theorem dX2_init_79 : decode cX2_init 79 = .ok (.aload_n 0, 1) := by decide +kernel
theorem dX2_init_80 : decode cX2_init 80 = .ok (.bipush 6, 2) := by decide +kernel
theorem dX2_init_82 : decode cX2_init 82 = .ok (.newarray .int, 2) := by decide +kernel
theorem dX2_init_84 : decode cX2_init 84 = .ok (.putfield 36, 3) := by decide +kernel
theorem dX2_init_87 : decode cX2_init 87 = .ok (.getstatic 39, 3) := by decide +kernel
theorem dX2_init_90 : decode cX2_init 90 = .ok (.iconst 0, 1) := by decide +kernel
theorem dX2_init_91 : decode cX2_init 91 = .ok (.aload_n 0, 1) := by decide +kernel
theorem dX2_init_92 : decode cX2_init 92 = .ok (.getfield 33, 3) := by decide +kernel
theorem dX2_init_95 : decode cX2_init 95 = .ok (.iconst 0, 1) := by decide +kernel
theorem dX2_init_96 : decode cX2_init 96 = .ok (.bipush 7, 2) := by decide +kernel
theorem dX2_init_98 : decode cX2_init 98 = .ok (.invokestatic 42, 3) := by decide +kernel
theorem dX2_init_101 : decode cX2_init 101 = .ok (.return_, 1) := by decide +kernel
theorem dX2_copyFrom_0 : decode cX2_copyFrom 0 = .ok (.aload_n 1, 1) := by decide +kernel
theorem dX2_copyFrom_1 : decode cX2_copyFrom 1 = .ok (.getfield 9, 3) := by decide +kernel
theorem dX2_copyFrom_4 : decode cX2_copyFrom 4 = .ok (.iconst 0, 1) := by decide +kernel
theorem dX2_copyFrom_5 : decode cX2_copyFrom 5 = .ok (.aload_n 0, 1) := by decide +kernel
theorem dX2_copyFrom_6 : decode cX2_copyFrom 6 = .ok (.getfield 9, 3) := by decide +kernel
theorem dX2_copyFrom_9 : decode cX2_copyFrom 9 = .ok (.iconst 0, 1) := by decide +kernel
theorem dX2_copyFrom_10 : decode cX2_copyFrom 10 = .ok (.bipush 32, 2) := by decide +kernel
theorem dX2_copyFrom_12 : decode cX2_copyFrom 12 = .ok (.invokestatic 42, 3) := by decide +kernel
theorem dX2_copyFrom_15 : decode cX2_copyFrom 15 = .ok (.aload_n 0, 1) := by decide +kernel
theorem dX2_copyFrom_16 : decode cX2_copyFrom 16 = .ok (.getfield 20, 3) := by decide +kernel
theorem dX2_copyFrom_19 : decode cX2_copyFrom 19 = .ok (.aload_n 1, 1) := by decide +kernel
theorem dX2_copyFrom_20 : decode cX2_copyFrom 20 = .ok (.getfield 20, 3) := by decide +kernel
theorem dX2_copyFrom_23 : decode cX2_copyFrom 23 = .ok (.invokevirtual 48, 3) := by decide +kernel
theorem dX2_copyFrom_26 : decode cX2_copyFrom 26 = .ok (.aload_n 0, 1) := by decide +kernel
theorem dX2_copyFrom_27 : decode cX2_copyFrom 27 = .ok (.getfield 24, 3) := by decide +kernel
theorem dX2_copyFrom_30 : decode cX2_copyFrom 30 = .ok (.aload_n 1, 1) := by decide +kernel
theorem dX2_copyFrom_31 : decode cX2_copyFrom 31 = .ok (.getfield 24, 3) := by decide +kernel
theorem dX2_copyFrom_34 : decode cX2_copyFrom 34 = .ok (.invokevirtual 48, 3) := by decide +kernel
theorem dX2_copyFrom_37 : decode cX2_copyFrom 37 = .ok (.aload_n 0, 1) := by decide +kernel
theorem dX2_copyFrom_38 : decode cX2_copyFrom 38 = .ok (.getfield 27, 3) := by decide +kernel
theorem dX2_copyFrom_41 : decode cX2_copyFrom 41 = .ok (.aload_n 1, 1) := by decide +kernel
theorem dX2_copyFrom_42 : decode cX2_copyFrom 42 = .ok (.getfield 27, 3) := by decide +kernel
theorem dX2_copyFrom_45 : decode cX2_copyFrom 45 = .ok (.invokevirtual 48, 3) := by decide +kernel
theorem dX2_copyFrom_48 : decode cX2_copyFrom 48 = .ok (.aload_n 0, 1) := by decide +kernel
theorem dX2_copyFrom_49 : decode cX2_copyFrom 49 = .ok (.getfield 30, 3) := by decide +kernel
theorem dX2_copyFrom_52 : decode cX2_copyFrom 52 = .ok (.aload_n 1, 1) := by decide +kernel
theorem dX2_copyFrom_53 : decode cX2_copyFrom 53 = .ok (.getfield 30, 3) := by decide +kernel
theorem dX2_copyFrom_56 : decode cX2_copyFrom 56 = .ok (.invokevirtual 48, 3) := by decide +kernel
theorem dX2_copyFrom_59 : decode cX2_copyFrom 59 = .ok (.aload_n 1, 1) := by decide +kernel
theorem dX2_copyFrom_60 : decode cX2_copyFrom 60 = .ok (.getfield 33, 3) := by decide +kernel
theorem dX2_copyFrom_63 : decode cX2_copyFrom 63 = .ok (.iconst 0, 1) := by decide +kernel
theorem dX2_copyFrom_64 : decode cX2_copyFrom 64 = .ok (.aload_n 0, 1) := by decide +kernel
theorem dX2_copyFrom_65 : decode cX2_copyFrom 65 = .ok (.getfield 33, 3) := by decide +kernel
theorem dX2_copyFrom_68 : decode cX2_copyFrom 68 = .ok (.iconst 0, 1) := by decide +kernel
theorem dX2_copyFrom_69 : decode cX2_copyFrom 69 = .ok (.bipush 7, 2) := by decide +kernel
theorem dX2_copyFrom_71 : decode cX2_copyFrom 71 = .ok (.invokestatic 42, 3) := by decide +kernel
theorem dX2_copyFrom_74 : decode cX2_copyFrom 74 = .ok (.aload_n 1, 1) := by decide +kernel
theorem dX2_copyFrom_75 : decode cX2_copyFrom 75 = .ok (.getfield 36, 3) := by decide +kernel
theorem dX2_copyFrom_78 : decode cX2_copyFrom 78 = .ok (.iconst 0, 1) := by decide +kernel
theorem dX2_copyFrom_79 : decode cX2_copyFrom 79 = .ok (.aload_n 0, 1) := by decide +kernel
theorem dX2_copyFrom_80 : decode cX2_copyFrom 80 = .ok (.getfield 36, 3) := by decide +kernel
theorem dX2_copyFrom_83 : decode cX2_copyFrom 83 = .ok (.iconst 0, 1) := by decide +kernel
theorem dX2_copyFrom_84 : decode cX2_copyFrom 84 = .ok (.bipush 6, 2) := by decide +kernel
theorem dX2_copyFrom_86 : decode cX2_copyFrom 86 = .ok (.invokestatic 42, 3) := by decide +kernel
theorem dX2_copyFrom_89 : decode cX2_copyFrom 89 = .ok (.aload_n 0, 1) := by decide +kernel
theorem dX2_copyFrom_90 : decode cX2_copyFrom 90 = .ok (.aload_n 1, 1) := by decide +kernel
theorem dX2_copyFrom_91 : decode cX2_copyFrom 91 = .ok (.getfield 52, 3) := by decide +kernel
theorem dX2_copyFrom_94 : decode cX2_copyFrom 94 = .ok (.putfield 52, 3) := by decide +kernel
theorem dX2_copyFrom_97 : decode cX2_copyFrom 97 = .ok (.return_, 1) := by decide +kernel
theorem dX2_ruleFor_0 : decode cX2_ruleFor 0 = .ok (.aload_n 0, 1) := by decide +kernel
theorem dX2_ruleFor_1 : decode cX2_ruleFor 1 = .ok (.iload_n 2, 1) := by decide +kernel
theorem dX2_ruleFor_2 : decode cX2_ruleFor 2 = .ok (.invokevirtual 56, 3) := by decide +kernel
theorem dX2_ruleFor_5 : decode cX2_ruleFor 5 = .ok (.istore 6, 2) := by decide +kernel
theorem dX2_ruleFor_7 : decode cX2_ruleFor 7 = .ok (.aload_n 0, 1) := by decide +kernel
theorem dX2_ruleFor_8 : decode cX2_ruleFor 8 = .ok (.iload_n 3, 1) := by decide +kernel
theorem dX2_ruleFor_9 : decode cX2_ruleFor 9 = .ok (.invokevirtual 56, 3) := by decide +kernel
theorem dX2_ruleFor_12 : decode cX2_ruleFor 12 = .ok (.istore 7, 2) := by decide +kernel
theorem dX2_ruleFor_14 : decode cX2_ruleFor 14 = .ok (.iconst 0, 1) := by decide +kernel
theorem dX2_ruleFor_15 : decode cX2_ruleFor 15 = .ok (.istore 8, 2) := by decide +kernel
theorem dX2_ruleFor_17 : decode cX2_ruleFor 17 = .ok (.iload 8, 2) := by decide +kernel
theorem dX2_ruleFor_19 : decode cX2_ruleFor 19 = .ok (.aload_n 1, 1) := by decide +kernel
theorem dX2_ruleFor_20 : decode cX2_ruleFor 20 = .ok (.invokevirtual 60, 3) := by decide +kernel
theorem dX2_ruleFor_23 : decode cX2_ruleFor 23 = .ok (.if_icmp .ge 51, 3) := by decide +kernel
theorem dX2_ruleFor_26 : decode cX2_ruleFor 26 = .ok (.aload_n 1, 1) := by decide +kernel
theorem dX2_ruleFor_27 : decode cX2_ruleFor 27 = .ok (.iload 8, 2) := by decide +kernel
theorem dX2_ruleFor_29 : decode cX2_ruleFor 29 = .ok (.iconst 0, 1) := by decide +kernel
theorem dX2_ruleFor_30 : decode cX2_ruleFor 30 = .ok (.iload_n 2, 1) := by decide +kernel
theorem dX2_ruleFor_31 : decode cX2_ruleFor 31 = .ok (.iload 6, 2) := by decide +kernel
theorem dX2_ruleFor_33 : decode cX2_ruleFor 33 = .ok (.invokestatic 64, 3) := by decide +kernel
theorem dX2_ruleFor_36 : decode cX2_ruleFor 36 = .ok (.ifCond .eq 32, 3) := by decide +kernel
theorem dX2_ruleFor_39 : decode cX2_ruleFor 39 = .ok (.aload_n 1, 1) := by decide +kernel
theorem dX2_ruleFor_40 : decode cX2_ruleFor 40 = .ok (.iload 8, 2) := by decide +kernel
theorem dX2_ruleFor_42 : decode cX2_ruleFor 42 = .ok (.iconst 1, 1) := by decide +kernel
theorem dX2_ruleFor_43 : decode cX2_ruleFor 43 = .ok (.iload_n 3, 1) := by decide +kernel
theorem dX2_ruleFor_44 : decode cX2_ruleFor 44 = .ok (.iload 7, 2) := by decide +kernel
theorem dX2_ruleFor_46 : decode cX2_ruleFor 46 = .ok (.invokestatic 64, 3) := by decide +kernel
theorem dX2_ruleFor_49 : decode cX2_ruleFor 49 = .ok (.ifCond .eq 19, 3) := by decide +kernel
theorem dX2_ruleFor_52 : decode cX2_ruleFor 52 = .ok (.aload_n 1, 1) := by decide +kernel
theorem dX2_ruleFor_53 : decode cX2_ruleFor 53 = .ok (.iload 8, 2) := by decide +kernel
theorem dX2_ruleFor_55 : decode cX2_ruleFor 55 = .ok (.iload 4, 2) := by decide +kernel
theorem dX2_ruleFor_57 : decode cX2_ruleFor 57 = .ok (.iload 5, 2) := by decide +kernel
theorem dX2_ruleFor_59 : decode cX2_ruleFor 59 = .ok (.invokestatic 68, 3) := by decide +kernel
theorem dX2_ruleFor_62 : decode cX2_ruleFor 62 = .ok (.ifCond .eq 6, 3) := by decide +kernel
theorem dX2_ruleFor_65 : decode cX2_ruleFor 65 = .ok (.iload 8, 2) := by decide +kernel
theorem dX2_ruleFor_67 : decode cX2_ruleFor 67 = .ok (.ireturn, 1) := by decide +kernel
theorem dX2_ruleFor_68 : decode cX2_ruleFor 68 = .ok (.iinc 8 1, 3) := by decide +kernel
theorem dX2_ruleFor_71 : decode cX2_ruleFor 71 = .ok (.goto (-54), 3) := by decide +kernel
theorem dX2_ruleFor_74 : decode cX2_ruleFor 74 = .ok (.iconst (-1), 1) := by decide +kernel
theorem dX2_ruleFor_75 : decode cX2_ruleFor 75 = .ok (.ireturn, 1) := by decide +kernel
theorem dX2_actionFor_0 : decode cX2_actionFor 0 = .ok (.aload_n 0, 1) := by decide +kernel
theorem dX2_actionFor_1 : decode cX2_actionFor 1 = .ok (.aload_n 1, 1) := by decide +kernel
theorem dX2_actionFor_2 : decode cX2_actionFor 2 = .ok (.iload_n 2, 1) := by decide +kernel
theorem dX2_actionFor_3 : decode cX2_actionFor 3 = .ok (.iload_n 3, 1) := by decide +kernel
theorem dX2_actionFor_4 : decode cX2_actionFor 4 = .ok (.iload 4, 2) := by decide +kernel
theorem dX2_actionFor_6 : decode cX2_actionFor 6 = .ok (.iload 5, 2) := by decide +kernel
theorem dX2_actionFor_8 : decode cX2_actionFor 8 = .ok (.invokevirtual 72, 3) := by decide +kernel
theorem dX2_actionFor_11 : decode cX2_actionFor 11 = .ok (.istore 6, 2) := by decide +kernel
theorem dX2_actionFor_13 : decode cX2_actionFor 13 = .ok (.iload 6, 2) := by decide +kernel
theorem dX2_actionFor_15 : decode cX2_actionFor 15 = .ok (.iconst (-1), 1) := by decide +kernel
theorem dX2_actionFor_16 : decode cX2_actionFor 16 = .ok (.if_icmp .ne 7, 3) := by decide +kernel
theorem dX2_actionFor_19 : decode cX2_actionFor 19 = .ok (.iconst 0, 1) := by decide +kernel
theorem dX2_actionFor_20 : decode cX2_actionFor 20 = .ok (.goto 11, 3) := by decide +kernel
theorem dX2_actionFor_23 : decode cX2_actionFor 23 = .ok (.aload_n 1, 1) := by decide +kernel
theorem dX2_actionFor_24 : decode cX2_actionFor 24 = .ok (.iload 6, 2) := by decide +kernel
theorem dX2_actionFor_26 : decode cX2_actionFor 26 = .ok (.bipush 9, 2) := by decide +kernel
theorem dX2_actionFor_28 : decode cX2_actionFor 28 = .ok (.invokevirtual 76, 3) := by decide +kernel
theorem dX2_actionFor_31 : decode cX2_actionFor 31 = .ok (.ireturn, 1) := by decide +kernel
theorem dX2_zoneAt_0 : decode cX2_zoneAt 0 = .ok (.iload_n 1, 1) := by decide +kernel
theorem dX2_zoneAt_1 : decode cX2_zoneAt 1 = .ok (.iconst 0, 1) := by decide +kernel
theorem dX2_zoneAt_2 : decode cX2_zoneAt 2 = .ok (.bipush 31, 2) := by decide +kernel
theorem dX2_zoneAt_4 : decode cX2_zoneAt 4 = .ok (.invokestatic 80, 3) := by decide +kernel
theorem dX2_zoneAt_7 : decode cX2_zoneAt 7 = .ok (.ifCond .eq 12, 3) := by decide +kernel
theorem dX2_zoneAt_10 : decode cX2_zoneAt 10 = .ok (.aload_n 0, 1) := by decide +kernel
theorem dX2_zoneAt_11 : decode cX2_zoneAt 11 = .ok (.getfield 9, 3) := by decide +kernel
theorem dX2_zoneAt_14 : decode cX2_zoneAt 14 = .ok (.iload_n 1, 1) := by decide +kernel
theorem dX2_zoneAt_15 : decode cX2_zoneAt 15 = .ok (.iaload, 1) := by decide +kernel
theorem dX2_zoneAt_16 : decode cX2_zoneAt 16 = .ok (.goto 4, 3) := by decide +kernel
theorem dX2_zoneAt_19 : decode cX2_zoneAt 19 = .ok (.iconst (-1), 1) := by decide +kernel
theorem dX2_zoneAt_20 : decode cX2_zoneAt 20 = .ok (.ireturn, 1) := by decide +kernel
theorem dX2_enterStage_0 : decode cX2_enterStage 0 = .ok (.iload_n 2, 1) := by decide +kernel
theorem dX2_enterStage_1 : decode cX2_enterStage 1 = .ok (.iconst 1, 1) := by decide +kernel
theorem dX2_enterStage_2 : decode cX2_enterStage 2 = .ok (.bipush 7, 2) := by decide +kernel
theorem dX2_enterStage_4 : decode cX2_enterStage 4 = .ok (.invokestatic 80, 3) := by decide +kernel
theorem dX2_enterStage_7 : decode cX2_enterStage 7 = .ok (.ifCond .ne 4, 3) := by decide +kernel
theorem dX2_enterStage_10 : decode cX2_enterStage 10 = .ok (.return_, 1) := by decide +kernel
theorem dX2_enterStage_11 : decode cX2_enterStage 11 = .ok (.aload_n 0, 1) := by decide +kernel
theorem dX2_enterStage_12 : decode cX2_enterStage 12 = .ok (.getfield 27, 3) := by decide +kernel
theorem dX2_enterStage_15 : decode cX2_enterStage 15 = .ok (.iload_n 1, 1) := by decide +kernel
theorem dX2_enterStage_16 : decode cX2_enterStage 16 = .ok (.iconst 4, 1) := by decide +kernel
theorem dX2_enterStage_17 : decode cX2_enterStage 17 = .ok (.iload_n 2, 1) := by decide +kernel
theorem dX2_enterStage_18 : decode cX2_enterStage 18 = .ok (.invokevirtual 84, 3) := by decide +kernel
theorem dX2_enterStage_21 : decode cX2_enterStage 21 = .ok (.aload_n 0, 1) := by decide +kernel
theorem dX2_enterStage_22 : decode cX2_enterStage 22 = .ok (.getfield 27, 3) := by decide +kernel
theorem dX2_enterStage_25 : decode cX2_enterStage 25 = .ok (.iload_n 1, 1) := by decide +kernel
theorem dX2_enterStage_26 : decode cX2_enterStage 26 = .ok (.iconst 5, 1) := by decide +kernel
theorem dX2_enterStage_27 : decode cX2_enterStage 27 = .ok (.aload_n 0, 1) := by decide +kernel
theorem dX2_enterStage_28 : decode cX2_enterStage 28 = .ok (.getfield 52, 3) := by decide +kernel
theorem dX2_enterStage_31 : decode cX2_enterStage 31 = .ok (.aload_n 0, 1) := by decide +kernel
theorem dX2_enterStage_32 : decode cX2_enterStage 32 = .ok (.getfield 33, 3) := by decide +kernel
theorem dX2_enterStage_35 : decode cX2_enterStage 35 = .ok (.iload_n 2, 1) := by decide +kernel
theorem dX2_enterStage_36 : decode cX2_enterStage 36 = .ok (.iconst 1, 1) := by decide +kernel
theorem dX2_enterStage_37 : decode cX2_enterStage 37 = .ok (.isub, 1) := by decide +kernel
theorem dX2_enterStage_38 : decode cX2_enterStage 38 = .ok (.iaload, 1) := by decide +kernel
theorem dX2_enterStage_39 : decode cX2_enterStage 39 = .ok (.iadd, 1) := by decide +kernel
theorem dX2_enterStage_40 : decode cX2_enterStage 40 = .ok (.invokevirtual 84, 3) := by decide +kernel
theorem dX2_enterStage_43 : decode cX2_enterStage 43 = .ok (.return_, 1) := by decide +kernel
theorem dX2_raise_0 : decode cX2_raise 0 = .ok (.iload_n 1, 1) := by decide +kernel
theorem dX2_raise_1 : decode cX2_raise 1 = .ok (.iconst 0, 1) := by decide +kernel
theorem dX2_raise_2 : decode cX2_raise 2 = .ok (.iconst 5, 1) := by decide +kernel
theorem dX2_raise_3 : decode cX2_raise 3 = .ok (.invokestatic 80, 3) := by decide +kernel
theorem dX2_raise_6 : decode cX2_raise 6 = .ok (.ifCond .eq 13, 3) := by decide +kernel
theorem dX2_raise_9 : decode cX2_raise 9 = .ok (.aload_n 0, 1) := by decide +kernel
theorem dX2_raise_10 : decode cX2_raise 10 = .ok (.getfield 36, 3) := by decide +kernel
theorem dX2_raise_13 : decode cX2_raise 13 = .ok (.iload_n 1, 1) := by decide +kernel
theorem dX2_raise_14 : decode cX2_raise 14 = .ok (.dup2, 1) := by decide +kernel
theorem dX2_raise_15 : decode cX2_raise 15 = .ok (.iaload, 1) := by decide +kernel
theorem dX2_raise_16 : decode cX2_raise 16 = .ok (.iload_n 2, 1) := by decide +kernel
theorem dX2_raise_17 : decode cX2_raise 17 = .ok (.iadd, 1) := by decide +kernel
theorem dX2_raise_18 : decode cX2_raise 18 = .ok (.iastore, 1) := by decide +kernel
theorem dX2_raise_19 : decode cX2_raise 19 = .ok (.return_, 1) := by decide +kernel
theorem dX3_init_0 : decode cX3_init 0 = .ok (.aload_n 0, 1) := by decide +kernel
theorem dX3_init_1 : decode cX3_init 1 = .ok (.invokespecial 3, 3) := by decide +kernel
theorem dX3_init_4 : decode cX3_init 4 = .ok (.aload_n 0, 1) := by decide +kernel
theorem dX3_init_5 : decode cX3_init 5 = .ok (.iconst 0, 1) := by decide +kernel
theorem dX3_init_6 : decode cX3_init 6 = .ok (.iload_n 1, 1) := by decide +kernel
theorem dX3_init_7 : decode cX3_init 7 = .ok (.invokestatic 9, 3) := by decide +kernel
theorem dX3_init_10 : decode cX3_init 10 = .ok (.putfield 15, 3) := by decide +kernel
theorem dX3_init_13 : decode cX3_init 13 = .ok (.aload_n 0, 1) := by decide +kernel
theorem dX3_init_14 : decode cX3_init 14 = .ok (.iconst 0, 1) := by decide +kernel
theorem dX3_init_15 : decode cX3_init 15 = .ok (.iload_n 2, 1) := by decide +kernel
theorem dX3_init_16 : decode cX3_init 16 = .ok (.invokestatic 9, 3) := by decide +kernel
theorem dX3_init_19 : decode cX3_init 19 = .ok (.putfield 21, 3) := by decide +kernel
theorem dX3_init_22 : decode cX3_init 22 = .ok (.aload_n 0, 1) := by decide +kernel
theorem dX3_init_23 : decode cX3_init 23 = .ok (.aload_n 0, 1) := by decide +kernel
theorem dX3_init_24 : decode cX3_init 24 = .ok (.getfield 15, 3) := by decide +kernel
theorem dX3_init_27 : decode cX3_init 27 = .ok (.aload_n 0, 1) := by decide +kernel
theorem dX3_init_28 : decode cX3_init 28 = .ok (.getfield 21, 3) := by decide +kernel
theorem dX3_init_31 : decode cX3_init 31 = .ok (.imul, 1) := by decide +kernel
theorem dX3_init_32 : decode cX3_init 32 = .ok (.newarray .int, 2) := by decide +kernel
theorem dX3_init_34 : decode cX3_init 34 = .ok (.putfield 24, 3) := by decide +kernel
theorem dX3_init_37 : decode cX3_init 37 = .ok (.return_, 1) := by decide +kernel
theorem dX3_size_0 : decode cX3_size 0 = .ok (.aload_n 0, 1) := by decide +kernel
theorem dX3_size_1 : decode cX3_size 1 = .ok (.getfield 28, 3) := by decide +kernel
theorem dX3_size_4 : decode cX3_size 4 = .ok (.ireturn, 1) := by decide +kernel
theorem dX3_isFull_0 : decode cX3_isFull 0 = .ok (.aload_n 0, 1) := by decide +kernel
theorem dX3_isFull_1 : decode cX3_isFull 1 = .ok (.getfield 28, 3) := by decide +kernel
theorem dX3_isFull_4 : decode cX3_isFull 4 = .ok (.aload_n 0, 1) := by decide +kernel
theorem dX3_isFull_5 : decode cX3_isFull 5 = .ok (.getfield 15, 3) := by decide +kernel
theorem dX3_isFull_8 : decode cX3_isFull 8 = .ok (.if_icmp .lt 7, 3) := by decide +kernel
theorem dX3_isFull_11 : decode cX3_isFull 11 = .ok (.iconst 1, 1) := by decide +kernel
theorem dX3_isFull_12 : decode cX3_isFull 12 = .ok (.goto 4, 3) := by decide +kernel
theorem dX3_isFull_15 : decode cX3_isFull 15 = .ok (.iconst 0, 1) := by decide +kernel
theorem dX3_isFull_16 : decode cX3_isFull 16 = .ok (.ireturn, 1) := by decide +kernel
theorem dX3_empty_0 : decode cX3_empty 0 = .ok (.aload_n 0, 1) := by decide +kernel
theorem dX3_empty_1 : decode cX3_empty 1 = .ok (.iconst 0, 1) := by decide +kernel
theorem dX3_empty_2 : decode cX3_empty 2 = .ok (.putfield 28, 3) := by decide +kernel
theorem dX3_empty_5 : decode cX3_empty 5 = .ok (.return_, 1) := by decide +kernel
theorem dX3_has_0 : decode cX3_has 0 = .ok (.iload_n 1, 1) := by decide +kernel
theorem dX3_has_1 : decode cX3_has 1 = .ok (.ifCond .lt 27, 3) := by decide +kernel
theorem dX3_has_4 : decode cX3_has 4 = .ok (.iload_n 1, 1) := by decide +kernel
theorem dX3_has_5 : decode cX3_has 5 = .ok (.aload_n 0, 1) := by decide +kernel
theorem dX3_has_6 : decode cX3_has 6 = .ok (.getfield 28, 3) := by decide +kernel
theorem dX3_has_9 : decode cX3_has 9 = .ok (.if_icmp .ge 19, 3) := by decide +kernel
theorem dX3_has_12 : decode cX3_has 12 = .ok (.iload_n 2, 1) := by decide +kernel
theorem dX3_has_13 : decode cX3_has 13 = .ok (.ifCond .lt 15, 3) := by decide +kernel
theorem dX3_has_16 : decode cX3_has 16 = .ok (.iload_n 2, 1) := by decide +kernel
theorem dX3_has_17 : decode cX3_has 17 = .ok (.aload_n 0, 1) := by decide +kernel
theorem dX3_has_18 : decode cX3_has 18 = .ok (.getfield 21, 3) := by decide +kernel
theorem dX3_has_21 : decode cX3_has 21 = .ok (.if_icmp .ge 7, 3) := by decide +kernel
theorem dX3_has_24 : decode cX3_has 24 = .ok (.iconst 1, 1) := by decide +kernel
theorem dX3_has_25 : decode cX3_has 25 = .ok (.goto 4, 3) := by decide +kernel
theorem dX3_has_28 : decode cX3_has 28 = .ok (.iconst 0, 1) := by decide +kernel
theorem dX3_has_29 : decode cX3_has 29 = .ok (.ireturn, 1) := by decide +kernel
theorem dX3_get_0 : decode cX3_get 0 = .ok (.aload_n 0, 1) := by decide +kernel
theorem dX3_get_1 : decode cX3_get 1 = .ok (.iload_n 1, 1) := by decide +kernel
theorem dX3_get_2 : decode cX3_get 2 = .ok (.iload_n 2, 1) := by decide +kernel
theorem dX3_get_3 : decode cX3_get 3 = .ok (.invokevirtual 31, 3) := by decide +kernel
theorem dX3_get_6 : decode cX3_get 6 = .ok (.ifCond .eq 19, 3) := by decide +kernel
theorem dX3_get_9 : decode cX3_get 9 = .ok (.aload_n 0, 1) := by decide +kernel
theorem dX3_get_10 : decode cX3_get 10 = .ok (.getfield 24, 3) := by decide +kernel
theorem dX3_get_13 : decode cX3_get 13 = .ok (.iload_n 1, 1) := by decide +kernel
theorem dX3_get_14 : decode cX3_get 14 = .ok (.aload_n 0, 1) := by decide +kernel
theorem dX3_get_15 : decode cX3_get 15 = .ok (.getfield 21, 3) := by decide +kernel
theorem dX3_get_18 : decode cX3_get 18 = .ok (.imul, 1) := by decide +kernel
theorem dX3_get_19 : decode cX3_get 19 = .ok (.iload_n 2, 1) := by decide +kernel
theorem dX3_get_20 : decode cX3_get 20 = .ok (.iadd, 1) := by decide +kernel
theorem dX3_get_21 : decode cX3_get 21 = .ok (.iaload, 1) := by decide +kernel
theorem dX3_get_22 : decode cX3_get 22 = .ok (.goto 4, 3) := by decide +kernel
theorem dX3_get_25 : decode cX3_get 25 = .ok (.iconst 0, 1) := by decide +kernel
theorem dX3_get_26 : decode cX3_get 26 = .ok (.ireturn, 1) := by decide +kernel
theorem dX3_put_0 : decode cX3_put 0 = .ok (.aload_n 0, 1) := by decide +kernel
theorem dX3_put_1 : decode cX3_put 1 = .ok (.iload_n 1, 1) := by decide +kernel
theorem dX3_put_2 : decode cX3_put 2 = .ok (.iload_n 2, 1) := by decide +kernel
theorem dX3_put_3 : decode cX3_put 3 = .ok (.invokevirtual 31, 3) := by decide +kernel
theorem dX3_put_6 : decode cX3_put 6 = .ok (.ifCond .eq 17, 3) := by decide +kernel
theorem dX3_put_9 : decode cX3_put 9 = .ok (.aload_n 0, 1) := by decide +kernel
theorem dX3_put_10 : decode cX3_put 10 = .ok (.getfield 24, 3) := by decide +kernel
theorem dX3_put_13 : decode cX3_put 13 = .ok (.iload_n 1, 1) := by decide +kernel
theorem dX3_put_14 : decode cX3_put 14 = .ok (.aload_n 0, 1) := by decide +kernel
theorem dX3_put_15 : decode cX3_put 15 = .ok (.getfield 21, 3) := by decide +kernel
theorem dX3_put_18 : decode cX3_put 18 = .ok (.imul, 1) := by decide +kernel
theorem dX3_put_19 : decode cX3_put 19 = .ok (.iload_n 2, 1) := by decide +kernel
theorem dX3_put_20 : decode cX3_put 20 = .ok (.iadd, 1) := by decide +kernel
theorem dX3_put_21 : decode cX3_put 21 = .ok (.iload_n 3, 1) := by decide +kernel
theorem dX3_put_22 : decode cX3_put 22 = .ok (.iastore, 1) := by decide +kernel
theorem dX3_put_23 : decode cX3_put 23 = .ok (.return_, 1) := by decide +kernel
theorem dX3_insert_0 : decode cX3_insert 0 = .ok (.aload_n 0, 1) := by decide +kernel
theorem dX3_insert_1 : decode cX3_insert 1 = .ok (.invokevirtual 35, 3) := by decide +kernel
theorem dX3_insert_4 : decode cX3_insert 4 = .ok (.ifCond .ne 15, 3) := by decide +kernel
theorem dX3_insert_7 : decode cX3_insert 7 = .ok (.iload_n 1, 1) := by decide +kernel
theorem dX3_insert_8 : decode cX3_insert 8 = .ok (.ifCond .lt 11, 3) := by decide +kernel
theorem dX3_insert_11 : decode cX3_insert 11 = .ok (.iload_n 1, 1) := by decide +kernel
theorem dX3_insert_12 : decode cX3_insert 12 = .ok (.aload_n 0, 1) := by decide +kernel
theorem dX3_insert_13 : decode cX3_insert 13 = .ok (.getfield 28, 3) := by decide +kernel
theorem dX3_insert_16 : decode cX3_insert 16 = .ok (.if_icmp .le 4, 3) := by decide +kernel
theorem dX3_insert_19 : decode cX3_insert 19 = .ok (.return_, 1) := by decide +kernel
theorem dX3_insert_20 : decode cX3_insert 20 = .ok (.aload_n 0, 1) := by decide +kernel
theorem dX3_insert_21 : decode cX3_insert 21 = .ok (.getfield 24, 3) := by decide +kernel
theorem dX3_insert_24 : decode cX3_insert 24 = .ok (.iload_n 1, 1) := by decide +kernel
theorem dX3_insert_25 : decode cX3_insert 25 = .ok (.aload_n 0, 1) := by decide +kernel
theorem dX3_insert_26 : decode cX3_insert 26 = .ok (.getfield 21, 3) := by decide +kernel
theorem dX3_insert_29 : decode cX3_insert 29 = .ok (.imul, 1) := by decide +kernel
theorem dX3_insert_30 : decode cX3_insert 30 = .ok (.aload_n 0, 1) := by decide +kernel
theorem dX3_insert_31 : decode cX3_insert 31 = .ok (.getfield 24, 3) := by decide +kernel
theorem dX3_insert_34 : decode cX3_insert 34 = .ok (.iload_n 1, 1) := by decide +kernel
theorem dX3_insert_35 : decode cX3_insert 35 = .ok (.iconst 1, 1) := by decide +kernel
theorem dX3_insert_36 : decode cX3_insert 36 = .ok (.iadd, 1) := by decide +kernel
theorem dX3_insert_37 : decode cX3_insert 37 = .ok (.aload_n 0, 1) := by decide +kernel
theorem dX3_insert_38 : decode cX3_insert 38 = .ok (.getfield 21, 3) := by decide +kernel
theorem dX3_insert_41 : decode cX3_insert 41 = .ok (.imul, 1) := by decide +kernel
theorem dX3_insert_42 : decode cX3_insert 42 = .ok (.aload_n 0, 1) := by decide +kernel
theorem dX3_insert_43 : decode cX3_insert 43 = .ok (.getfield 28, 3) := by decide +kernel
theorem dX3_insert_46 : decode cX3_insert 46 = .ok (.iload_n 1, 1) := by decide +kernel
theorem dX3_insert_47 : decode cX3_insert 47 = .ok (.isub, 1) := by decide +kernel
theorem dX3_insert_48 : decode cX3_insert 48 = .ok (.aload_n 0, 1) := by decide +kernel
theorem dX3_insert_49 : decode cX3_insert 49 = .ok (.getfield 21, 3) := by decide +kernel
theorem dX3_insert_52 : decode cX3_insert 52 = .ok (.imul, 1) := by decide +kernel
theorem dX3_insert_53 : decode cX3_insert 53 = .ok (.invokestatic 39, 3) := by decide +kernel
theorem dX3_insert_56 : decode cX3_insert 56 = .ok (.aload_n 0, 1) := by decide +kernel
theorem dX3_insert_57 : decode cX3_insert 57 = .ok (.dup, 1) := by decide +kernel
theorem dX3_insert_58 : decode cX3_insert 58 = .ok (.getfield 28, 3) := by decide +kernel
theorem dX3_insert_61 : decode cX3_insert 61 = .ok (.iconst 1, 1) := by decide +kernel
theorem dX3_insert_62 : decode cX3_insert 62 = .ok (.iadd, 1) := by decide +kernel
theorem dX3_insert_63 : decode cX3_insert 63 = .ok (.putfield 28, 3) := by decide +kernel
theorem dX3_insert_66 : decode cX3_insert 66 = .ok (.return_, 1) := by decide +kernel
theorem dX3_remove_0 : decode cX3_remove 0 = .ok (.iload_n 1, 1) := by decide +kernel
theorem dX3_remove_1 : decode cX3_remove 1 = .ok (.ifCond .lt 11, 3) := by decide +kernel
theorem dX3_remove_4 : decode cX3_remove 4 = .ok (.iload_n 1, 1) := by decide +kernel
theorem dX3_remove_5 : decode cX3_remove 5 = .ok (.aload_n 0, 1) := by decide +kernel
theorem dX3_remove_6 : decode cX3_remove 6 = .ok (.getfield 28, 3) := by decide +kernel
theorem dX3_remove_9 : decode cX3_remove 9 = .ok (.if_icmp .lt 4, 3) := by decide +kernel
