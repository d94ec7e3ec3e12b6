theorem dX3_remove_12 : decode cX3_remove 12 = .ok (.return_, 1) := by decide +kernel
theorem dX3_remove_13 : decode cX3_remove 13 = .ok (.aload_n 0, 1) := by decide +kernel
theorem dX3_remove_14 : decode cX3_remove 14 = .ok (.dup, 1) := by decide +kernel
theorem dX3_remove_15 : decode cX3_remove 15 = .ok (.getfield 28, 3) := by decide +kernel
theorem dX3_remove_18 : decode cX3_remove 18 = .ok (.iconst 1, 1) := by decide +kernel
theorem dX3_remove_19 : decode cX3_remove 19 = .ok (.isub, 1) := by decide +kernel
theorem dX3_remove_20 : decode cX3_remove 20 = .ok (.putfield 28, 3) := by decide +kernel
theorem dX3_remove_23 : decode cX3_remove 23 = .ok (.aload_n 0, 1) := by decide +kernel
theorem dX3_remove_24 : decode cX3_remove 24 = .ok (.getfield 24, 3) := by decide +kernel
theorem dX3_remove_27 : decode cX3_remove 27 = .ok (.iload_n 1, 1) := by decide +kernel
theorem dX3_remove_28 : decode cX3_remove 28 = .ok (.iconst 1, 1) := by decide +kernel
theorem dX3_remove_29 : decode cX3_remove 29 = .ok (.iadd, 1) := by decide +kernel
theorem dX3_remove_30 : decode cX3_remove 30 = .ok (.aload_n 0, 1) := by decide +kernel
theorem dX3_remove_31 : decode cX3_remove 31 = .ok (.getfield 21, 3) := by decide +kernel
theorem dX3_remove_34 : decode cX3_remove 34 = .ok (.imul, 1) := by decide +kernel
theorem dX3_remove_35 : decode cX3_remove 35 = .ok (.aload_n 0, 1) := by decide +kernel
theorem dX3_remove_36 : decode cX3_remove 36 = .ok (.getfield 24, 3) := by decide +kernel
theorem dX3_remove_39 : decode cX3_remove 39 = .ok (.iload_n 1, 1) := by decide +kernel
theorem dX3_remove_40 : decode cX3_remove 40 = .ok (.aload_n 0, 1) := by decide +kernel
theorem dX3_remove_41 : decode cX3_remove 41 = .ok (.getfield 21, 3) := by decide +kernel
theorem dX3_remove_44 : decode cX3_remove 44 = .ok (.imul, 1) := by decide +kernel
theorem dX3_remove_45 : decode cX3_remove 45 = .ok (.aload_n 0, 1) := by decide +kernel
theorem dX3_remove_46 : decode cX3_remove 46 = .ok (.getfield 28, 3) := by decide +kernel
theorem dX3_remove_49 : decode cX3_remove 49 = .ok (.iload_n 1, 1) := by decide +kernel
theorem dX3_remove_50 : decode cX3_remove 50 = .ok (.isub, 1) := by decide +kernel
theorem dX3_remove_51 : decode cX3_remove 51 = .ok (.aload_n 0, 1) := by decide +kernel
theorem dX3_remove_52 : decode cX3_remove 52 = .ok (.getfield 21, 3) := by decide +kernel
theorem dX3_remove_55 : decode cX3_remove 55 = .ok (.imul, 1) := by decide +kernel
theorem dX3_remove_56 : decode cX3_remove 56 = .ok (.invokestatic 39, 3) := by decide +kernel
theorem dX3_remove_59 : decode cX3_remove 59 = .ok (.return_, 1) := by decide +kernel
theorem dX3_exchange_0 : decode cX3_exchange 0 = .ok (.iconst 0, 1) := by decide +kernel
theorem dX3_exchange_1 : decode cX3_exchange 1 = .ok (.istore_n 3, 1) := by decide +kernel
theorem dX3_exchange_2 : decode cX3_exchange 2 = .ok (.iload_n 3, 1) := by decide +kernel
theorem dX3_exchange_3 : decode cX3_exchange 3 = .ok (.aload_n 0, 1) := by decide +kernel
theorem dX3_exchange_4 : decode cX3_exchange 4 = .ok (.getfield 21, 3) := by decide +kernel
theorem dX3_exchange_7 : decode cX3_exchange 7 = .ok (.if_icmp .ge 37, 3) := by decide +kernel
theorem dX3_exchange_10 : decode cX3_exchange 10 = .ok (.aload_n 0, 1) := by decide +kernel
theorem dX3_exchange_11 : decode cX3_exchange 11 = .ok (.iload_n 1, 1) := by decide +kernel
theorem dX3_exchange_12 : decode cX3_exchange 12 = .ok (.iload_n 3, 1) := by decide +kernel
theorem dX3_exchange_13 : decode cX3_exchange 13 = .ok (.invokevirtual 45, 3) := by decide +kernel
theorem dX3_exchange_16 : decode cX3_exchange 16 = .ok (.istore 4, 2) := by decide +kernel
theorem dX3_exchange_18 : decode cX3_exchange 18 = .ok (.aload_n 0, 1) := by decide +kernel
theorem dX3_exchange_19 : decode cX3_exchange 19 = .ok (.iload_n 1, 1) := by decide +kernel
theorem dX3_exchange_20 : decode cX3_exchange 20 = .ok (.iload_n 3, 1) := by decide +kernel
theorem dX3_exchange_21 : decode cX3_exchange 21 = .ok (.aload_n 0, 1) := by decide +kernel
theorem dX3_exchange_22 : decode cX3_exchange 22 = .ok (.iload_n 2, 1) := by decide +kernel
theorem dX3_exchange_23 : decode cX3_exchange 23 = .ok (.iload_n 3, 1) := by decide +kernel
theorem dX3_exchange_24 : decode cX3_exchange 24 = .ok (.invokevirtual 45, 3) := by decide +kernel
theorem dX3_exchange_27 : decode cX3_exchange 27 = .ok (.invokevirtual 48, 3) := by decide +kernel
theorem dX3_exchange_30 : decode cX3_exchange 30 = .ok (.aload_n 0, 1) := by decide +kernel
theorem dX3_exchange_31 : decode cX3_exchange 31 = .ok (.iload_n 2, 1) := by decide +kernel
theorem dX3_exchange_32 : decode cX3_exchange 32 = .ok (.iload_n 3, 1) := by decide +kernel
theorem dX3_exchange_33 : decode cX3_exchange 33 = .ok (.iload 4, 2) := by decide +kernel
theorem dX3_exchange_35 : decode cX3_exchange 35 = .ok (.invokevirtual 48, 3) := by decide +kernel
theorem dX3_exchange_38 : decode cX3_exchange 38 = .ok (.iinc 3 1, 3) := by decide +kernel
theorem dX3_exchange_41 : decode cX3_exchange 41 = .ok (.goto (-39), 3) := by decide +kernel
theorem dX3_exchange_44 : decode cX3_exchange 44 = .ok (.return_, 1) := by decide +kernel
theorem dX3_rowOfCase_0 : decode cX3_rowOfCase 0 = .ok (.iconst 0, 1) := by decide +kernel
theorem dX3_rowOfCase_1 : decode cX3_rowOfCase 1 = .ok (.istore 5, 2) := by decide +kernel
theorem dX3_rowOfCase_3 : decode cX3_rowOfCase 3 = .ok (.iload 5, 2) := by decide +kernel
theorem dX3_rowOfCase_5 : decode cX3_rowOfCase 5 = .ok (.aload_n 0, 1) := by decide +kernel
theorem dX3_rowOfCase_6 : decode cX3_rowOfCase 6 = .ok (.getfield 28, 3) := by decide +kernel
theorem dX3_rowOfCase_9 : decode cX3_rowOfCase 9 = .ok (.if_icmp .ge 57, 3) := by decide +kernel
theorem dX3_rowOfCase_12 : decode cX3_rowOfCase 12 = .ok (.aload_n 0, 1) := by decide +kernel
theorem dX3_rowOfCase_13 : decode cX3_rowOfCase 13 = .ok (.iload 5, 2) := by decide +kernel
theorem dX3_rowOfCase_15 : decode cX3_rowOfCase 15 = .ok (.iconst 0, 1) := by decide +kernel
theorem dX3_rowOfCase_16 : decode cX3_rowOfCase 16 = .ok (.invokevirtual 45, 3) := by decide +kernel
theorem dX3_rowOfCase_19 : decode cX3_rowOfCase 19 = .ok (.iload_n 1, 1) := by decide +kernel
theorem dX3_rowOfCase_20 : decode cX3_rowOfCase 20 = .ok (.if_icmp .ne 40, 3) := by decide +kernel
theorem dX3_rowOfCase_23 : decode cX3_rowOfCase 23 = .ok (.aload_n 0, 1) := by decide +kernel
theorem dX3_rowOfCase_24 : decode cX3_rowOfCase 24 = .ok (.iload 5, 2) := by decide +kernel
theorem dX3_rowOfCase_26 : decode cX3_rowOfCase 26 = .ok (.iconst 1, 1) := by decide +kernel
theorem dX3_rowOfCase_27 : decode cX3_rowOfCase 27 = .ok (.invokevirtual 45, 3) := by decide +kernel
theorem dX3_rowOfCase_30 : decode cX3_rowOfCase 30 = .ok (.iload_n 2, 1) := by decide +kernel
theorem dX3_rowOfCase_31 : decode cX3_rowOfCase 31 = .ok (.if_icmp .ne 29, 3) := by decide +kernel
theorem dX3_rowOfCase_34 : decode cX3_rowOfCase 34 = .ok (.aload_n 0, 1) := by decide +kernel
theorem dX3_rowOfCase_35 : decode cX3_rowOfCase 35 = .ok (.iload 5, 2) := by decide +kernel
theorem dX3_rowOfCase_37 : decode cX3_rowOfCase 37 = .ok (.iconst 2, 1) := by decide +kernel
theorem dX3_rowOfCase_38 : decode cX3_rowOfCase 38 = .ok (.invokevirtual 45, 3) := by decide +kernel
theorem dX3_rowOfCase_41 : decode cX3_rowOfCase 41 = .ok (.iload_n 3, 1) := by decide +kernel
theorem dX3_rowOfCase_42 : decode cX3_rowOfCase 42 = .ok (.if_icmp .ne 18, 3) := by decide +kernel
theorem dX3_rowOfCase_45 : decode cX3_rowOfCase 45 = .ok (.aload_n 0, 1) := by decide +kernel
theorem dX3_rowOfCase_46 : decode cX3_rowOfCase 46 = .ok (.iload 5, 2) := by decide +kernel
theorem dX3_rowOfCase_48 : decode cX3_rowOfCase 48 = .ok (.iconst 3, 1) := by decide +kernel
theorem dX3_rowOfCase_49 : decode cX3_rowOfCase 49 = .ok (.invokevirtual 45, 3) := by decide +kernel
theorem dX3_rowOfCase_52 : decode cX3_rowOfCase 52 = .ok (.iload 4, 2) := by decide +kernel
theorem dX3_rowOfCase_54 : decode cX3_rowOfCase 54 = .ok (.if_icmp .ne 6, 3) := by decide +kernel
theorem dX3_rowOfCase_57 : decode cX3_rowOfCase 57 = .ok (.iload 5, 2) := by decide +kernel
theorem dX3_rowOfCase_59 : decode cX3_rowOfCase 59 = .ok (.ireturn, 1) := by decide +kernel
theorem dX3_rowOfCase_60 : decode cX3_rowOfCase 60 = .ok (.iinc 5 1, 3) := by decide +kernel
theorem dX3_rowOfCase_63 : decode cX3_rowOfCase 63 = .ok (.goto (-60), 3) := by decide +kernel
theorem dX3_rowOfCase_66 : decode cX3_rowOfCase 66 = .ok (.iconst (-1), 1) := by decide +kernel
theorem dX3_rowOfCase_67 : decode cX3_rowOfCase 67 = .ok (.ireturn, 1) := by decide +kernel
theorem dX3_copyFrom_0 : decode cX3_copyFrom 0 = .ok (.aload_n 1, 1) := by decide +kernel
theorem dX3_copyFrom_1 : decode cX3_copyFrom 1 = .ok (.getfield 24, 3) := by decide +kernel
theorem dX3_copyFrom_4 : decode cX3_copyFrom 4 = .ok (.arraylength, 1) := by decide +kernel
theorem dX3_copyFrom_5 : decode cX3_copyFrom 5 = .ok (.aload_n 0, 1) := by decide +kernel
theorem dX3_copyFrom_6 : decode cX3_copyFrom 6 = .ok (.getfield 24, 3) := by decide +kernel
theorem dX3_copyFrom_9 : decode cX3_copyFrom 9 = .ok (.arraylength, 1) := by decide +kernel
theorem dX3_copyFrom_10 : decode cX3_copyFrom 10 = .ok (.if_icmp .eq 4, 3) := by decide +kernel
theorem dX3_copyFrom_13 : decode cX3_copyFrom 13 = .ok (.return_, 1) := by decide +kernel
theorem dX3_copyFrom_14 : decode cX3_copyFrom 14 = .ok (.aload_n 1, 1) := by decide +kernel
theorem dX3_copyFrom_15 : decode cX3_copyFrom 15 = .ok (.getfield 24, 3) := by decide +kernel
theorem dX3_copyFrom_18 : decode cX3_copyFrom 18 = .ok (.iconst 0, 1) := by decide +kernel
theorem dX3_copyFrom_19 : decode cX3_copyFrom 19 = .ok (.aload_n 0, 1) := by decide +kernel
theorem dX3_copyFrom_20 : decode cX3_copyFrom 20 = .ok (.getfield 24, 3) := by decide +kernel
theorem dX3_copyFrom_23 : decode cX3_copyFrom 23 = .ok (.iconst 0, 1) := by decide +kernel
theorem dX3_copyFrom_24 : decode cX3_copyFrom 24 = .ok (.aload_n 0, 1) := by decide +kernel
theorem dX3_copyFrom_25 : decode cX3_copyFrom 25 = .ok (.getfield 24, 3) := by decide +kernel
theorem dX3_copyFrom_28 : decode cX3_copyFrom 28 = .ok (.arraylength, 1) := by decide +kernel
theorem dX3_copyFrom_29 : decode cX3_copyFrom 29 = .ok (.invokestatic 39, 3) := by decide +kernel
theorem dX3_copyFrom_32 : decode cX3_copyFrom 32 = .ok (.aload_n 0, 1) := by decide +kernel
theorem dX3_copyFrom_33 : decode cX3_copyFrom 33 = .ok (.aload_n 1, 1) := by decide +kernel
theorem dX3_copyFrom_34 : decode cX3_copyFrom 34 = .ok (.getfield 28, 3) := by decide +kernel
theorem dX3_copyFrom_37 : decode cX3_copyFrom 37 = .ok (.putfield 28, 3) := by decide +kernel
theorem dX3_copyFrom_40 : decode cX3_copyFrom 40 = .ok (.return_, 1) := by decide +kernel
theorem dX3_mixInto_0 : decode cX3_mixInto 0 = .ok (.lload_n 1, 1) := by decide +kernel
theorem dX3_mixInto_1 : decode cX3_mixInto 1 = .ok (.lstore_n 3, 1) := by decide +kernel
theorem dX3_mixInto_2 : decode cX3_mixInto 2 = .ok (.iconst 0, 1) := by decide +kernel
theorem dX3_mixInto_3 : decode cX3_mixInto 3 = .ok (.istore 5, 2) := by decide +kernel
theorem dX3_mixInto_5 : decode cX3_mixInto 5 = .ok (.iload 5, 2) := by decide +kernel
theorem dX3_mixInto_7 : decode cX3_mixInto 7 = .ok (.aload_n 0, 1) := by decide +kernel
theorem dX3_mixInto_8 : decode cX3_mixInto 8 = .ok (.getfield 28, 3) := by decide +kernel
theorem dX3_mixInto_11 : decode cX3_mixInto 11 = .ok (.if_icmp .ge 43, 3) := by decide +kernel
theorem dX3_mixInto_14 : decode cX3_mixInto 14 = .ok (.iconst 0, 1) := by decide +kernel
theorem dX3_mixInto_15 : decode cX3_mixInto 15 = .ok (.istore 6, 2) := by decide +kernel
theorem dX3_mixInto_17 : decode cX3_mixInto 17 = .ok (.iload 6, 2) := by decide +kernel
theorem dX3_mixInto_19 : decode cX3_mixInto 19 = .ok (.aload_n 0, 1) := by decide +kernel
theorem dX3_mixInto_20 : decode cX3_mixInto 20 = .ok (.getfield 21, 3) := by decide +kernel
theorem dX3_mixInto_23 : decode cX3_mixInto 23 = .ok (.if_icmp .ge 25, 3) := by decide +kernel
theorem dX3_mixInto_26 : decode cX3_mixInto 26 = .ok (.ldc2_w 52, 3) := by decide +kernel
theorem dX3_mixInto_29 : decode cX3_mixInto 29 = .ok (.lload_n 3, 1) := by decide +kernel
theorem dX3_mixInto_30 : decode cX3_mixInto 30 = .ok (.lmul, 1) := by decide +kernel
theorem dX3_mixInto_31 : decode cX3_mixInto 31 = .ok (.aload_n 0, 1) := by decide +kernel
theorem dX3_mixInto_32 : decode cX3_mixInto 32 = .ok (.iload 5, 2) := by decide +kernel
theorem dX3_mixInto_34 : decode cX3_mixInto 34 = .ok (.iload 6, 2) := by decide +kernel
theorem dX3_mixInto_36 : decode cX3_mixInto 36 = .ok (.invokevirtual 45, 3) := by decide +kernel
theorem dX3_mixInto_39 : decode cX3_mixInto 39 = .ok (.i2l, 1) := by decide +kernel
theorem dX3_mixInto_40 : decode cX3_mixInto 40 = .ok (.ladd, 1) := by decide +kernel
theorem dX3_mixInto_41 : decode cX3_mixInto 41 = .ok (.lstore_n 3, 1) := by decide +kernel
theorem dX3_mixInto_42 : decode cX3_mixInto 42 = .ok (.iinc 6 1, 3) := by decide +kernel
theorem dX3_mixInto_45 : decode cX3_mixInto 45 = .ok (.goto (-28), 3) := by decide +kernel
theorem dX3_mixInto_48 : decode cX3_mixInto 48 = .ok (.iinc 5 1, 3) := by decide +kernel
theorem dX3_mixInto_51 : decode cX3_mixInto 51 = .ok (.goto (-46), 3) := by decide +kernel
theorem dX3_mixInto_54 : decode cX3_mixInto 54 = .ok (.lload_n 3, 1) := by decide +kernel
theorem dX3_mixInto_55 : decode cX3_mixInto 55 = .ok (.lreturn, 1) := by decide +kernel
theorem dX4_init_0 : decode cX4_init 0 = .ok (.aload_n 0, 1) := by decide +kernel
theorem dX4_init_1 : decode cX4_init 1 = .ok (.invokespecial 5, 3) := by decide +kernel
theorem dX4_init_4 : decode cX4_init 4 = .ok (.aload_n 0, 1) := by decide +kernel
theorem dX4_init_5 : decode cX4_init 5 = .ok (.bipush 120, 2) := by decide +kernel
theorem dX4_init_7 : decode cX4_init 7 = .ok (.newarray .int, 2) := by decide +kernel
theorem dX4_init_9 : decode cX4_init 9 = .ok (.putfield 11, 3) := by decide +kernel
theorem dX4_init_12 : decode cX4_init 12 = .ok (.aload_n 0, 1) := by decide +kernel
theorem dX4_init_13 : decode cX4_init 13 = .ok (.new 15, 3) := by decide +kernel
theorem dX4_init_16 : decode cX4_init 16 = .ok (.dup, 1) := by decide +kernel
theorem dX4_init_17 : decode cX4_init 17 = .ok (.bipush 12, 2) := by decide +kernel
theorem dX4_init_19 : decode cX4_init 19 = .ok (.bipush 11, 2) := by decide +kernel
theorem dX4_init_21 : decode cX4_init 21 = .ok (.invokespecial 17, 3) := by decide +kernel
theorem dX4_init_24 : decode cX4_init 24 = .ok (.putfield 20, 3) := by decide +kernel
theorem dX4_init_27 : decode cX4_init 27 = .ok (.return_, 1) := by decide +kernel
theorem dX4_length_0 : decode cX4_length 0 = .ok (.aload_n 0, 1) := by decide +kernel
theorem dX4_length_1 : decode cX4_length 1 = .ok (.getfield 24, 3) := by decide +kernel
theorem dX4_length_4 : decode cX4_length 4 = .ok (.ireturn, 1) := by decide +kernel
theorem dX4_append_0 : decode cX4_append 0 = .ok (.aload_n 0, 1) := by decide +kernel
theorem dX4_append_1 : decode cX4_append 1 = .ok (.getfield 24, 3) := by decide +kernel
theorem dX4_append_4 : decode cX4_append 4 = .ok (.iconst 0, 1) := by decide +kernel
theorem dX4_append_5 : decode cX4_append 5 = .ok (.bipush 119, 2) := by decide +kernel
theorem dX4_append_7 : decode cX4_append 7 = .ok (.invokestatic 28, 3) := by decide +kernel
theorem dX4_append_10 : decode cX4_append 10 = .ok (.ifCond .eq 23, 3) := by decide +kernel
theorem dX4_append_13 : decode cX4_append 13 = .ok (.aload_n 0, 1) := by decide +kernel
theorem dX4_append_14 : decode cX4_append 14 = .ok (.getfield 11, 3) := by decide +kernel
theorem dX4_append_17 : decode cX4_append 17 = .ok (.aload_n 0, 1) := by decide +kernel
theorem dX4_append_18 : decode cX4_append 18 = .ok (.getfield 24, 3) := by decide +kernel
theorem dX4_append_21 : decode cX4_append 21 = .ok (.iload_n 1, 1) := by decide +kernel
theorem dX4_append_22 : decode cX4_append 22 = .ok (.iastore, 1) := by decide +kernel
theorem dX4_append_23 : decode cX4_append 23 = .ok (.aload_n 0, 1) := by decide +kernel
theorem dX4_append_24 : decode cX4_append 24 = .ok (.dup, 1) := by decide +kernel
theorem dX4_append_25 : decode cX4_append 25 = .ok (.getfield 24, 3) := by decide +kernel
theorem dX4_append_28 : decode cX4_append 28 = .ok (.iconst 1, 1) := by decide +kernel
theorem dX4_append_29 : decode cX4_append 29 = .ok (.iadd, 1) := by decide +kernel
theorem dX4_append_30 : decode cX4_append 30 = .ok (.putfield 24, 3) := by decide +kernel
theorem dX4_append_33 : decode cX4_append 33 = .ok (.return_, 1) := by decide +kernel
theorem dX4_empty_0 : decode cX4_empty 0 = .ok (.aload_n 0, 1) := by decide +kernel
theorem dX4_empty_1 : decode cX4_empty 1 = .ok (.iconst 0, 1) := by decide +kernel
theorem dX4_empty_2 : decode cX4_empty 2 = .ok (.putfield 24, 3) := by decide +kernel
theorem dX4_empty_5 : decode cX4_empty 5 = .ok (.return_, 1) := by decide +kernel
theorem dX4_findRules_0 : decode cX4_findRules 0 = .ok (.aload_n 0, 1) := by decide +kernel
theorem dX4_findRules_1 : decode cX4_findRules 1 = .ok (.getfield 20, 3) := by decide +kernel
theorem dX4_findRules_4 : decode cX4_findRules 4 = .ok (.invokevirtual 32, 3) := by decide +kernel
theorem dX4_findRules_7 : decode cX4_findRules 7 = .ok (.aload_n 0, 1) := by decide +kernel
theorem dX4_findRules_8 : decode cX4_findRules 8 = .ok (.iconst 0, 1) := by decide +kernel
theorem dX4_findRules_9 : decode cX4_findRules 9 = .ok (.putfield 35, 3) := by decide +kernel
theorem dX4_findRules_12 : decode cX4_findRules 12 = .ok (.aload_n 0, 1) := by decide +kernel
theorem dX4_findRules_13 : decode cX4_findRules 13 = .ok (.iconst (-1), 1) := by decide +kernel
theorem dX4_findRules_14 : decode cX4_findRules 14 = .ok (.putfield 38, 3) := by decide +kernel
theorem dX4_findRules_17 : decode cX4_findRules 17 = .ok (.iconst 0, 1) := by decide +kernel
theorem dX4_findRules_18 : decode cX4_findRules 18 = .ok (.istore_n 1, 1) := by decide +kernel
theorem dX4_findRules_19 : decode cX4_findRules 19 = .ok (.iload_n 1, 1) := by decide +kernel
theorem dX4_findRules_20 : decode cX4_findRules 20 = .ok (.bipush 12, 2) := by decide +kernel
theorem dX4_findRules_22 : decode cX4_findRules 22 = .ok (.if_icmp .gt 55, 3) := by decide +kernel
theorem dX4_findRules_25 : decode cX4_findRules 25 = .ok (.aload_n 0, 1) := by decide +kernel
theorem dX4_findRules_26 : decode cX4_findRules 26 = .ok (.getfield 38, 3) := by decide +kernel
theorem dX4_findRules_29 : decode cX4_findRules 29 = .ok (.iconst (-1), 1) := by decide +kernel
theorem dX4_findRules_30 : decode cX4_findRules 30 = .ok (.if_icmp .ne 47, 3) := by decide +kernel
theorem dX4_findRules_33 : decode cX4_findRules 33 = .ok (.aload_n 0, 1) := by decide +kernel
theorem dX4_findRules_34 : decode cX4_findRules 34 = .ok (.invokevirtual 41, 3) := by decide +kernel
theorem dX4_findRules_37 : decode cX4_findRules 37 = .ok (.aload_n 0, 1) := by decide +kernel
theorem dX4_findRules_38 : decode cX4_findRules 38 = .ok (.getfield 35, 3) := by decide +kernel
theorem dX4_findRules_41 : decode cX4_findRules 41 = .ok (.aload_n 0, 1) := by decide +kernel
theorem dX4_findRules_42 : decode cX4_findRules 42 = .ok (.getfield 24, 3) := by decide +kernel
theorem dX4_findRules_45 : decode cX4_findRules 45 = .ok (.if_icmp .lt 5, 3) := by decide +kernel
theorem dX4_findRules_48 : decode cX4_findRules 48 = .ok (.iconst (-1), 1) := by decide +kernel
theorem dX4_findRules_49 : decode cX4_findRules 49 = .ok (.ireturn, 1) := by decide +kernel
theorem dX4_findRules_50 : decode cX4_findRules 50 = .ok (.iload_n 1, 1) := by decide +kernel
theorem dX4_findRules_51 : decode cX4_findRules 51 = .ok (.bipush 12, 2) := by decide +kernel
theorem dX4_findRules_53 : decode cX4_findRules 53 = .ok (.if_icmp .ne 14, 3) := by decide +kernel
theorem dX4_findRules_56 : decode cX4_findRules 56 = .ok (.aload_n 0, 1) := by decide +kernel
theorem dX4_findRules_57 : decode cX4_findRules 57 = .ok (.aload_n 0, 1) := by decide +kernel
theorem dX4_findRules_58 : decode cX4_findRules 58 = .ok (.getfield 35, 3) := by decide +kernel
theorem dX4_findRules_61 : decode cX4_findRules 61 = .ok (.putfield 38, 3) := by decide +kernel
theorem dX4_findRules_64 : decode cX4_findRules 64 = .ok (.goto 7, 3) := by decide +kernel
theorem dX4_findRules_67 : decode cX4_findRules 67 = .ok (.aload_n 0, 1) := by decide +kernel
theorem dX4_findRules_68 : decode cX4_findRules 68 = .ok (.invokevirtual 44, 3) := by decide +kernel
theorem dX4_findRules_71 : decode cX4_findRules 71 = .ok (.iinc 1 1, 3) := by decide +kernel
theorem dX4_findRules_74 : decode cX4_findRules 74 = .ok (.goto (-55), 3) := by decide +kernel
theorem dX4_findRules_77 : decode cX4_findRules 77 = .ok (.aload_n 0, 1) := by decide +kernel
theorem dX4_findRules_78 : decode cX4_findRules 78 = .ok (.getfield 38, 3) := by decide +kernel
theorem dX4_findRules_81 : decode cX4_findRules 81 = .ok (.ireturn, 1) := by decide +kernel
theorem dX4_readRule_0 : decode cX4_readRule 0 = .ok (.aload_n 0, 1) := by decide +kernel
theorem dX4_readRule_1 : decode cX4_readRule 1 = .ok (.getfield 35, 3) := by decide +kernel
theorem dX4_readRule_4 : decode cX4_readRule 4 = .ok (.istore_n 1, 1) := by decide +kernel
theorem dX4_readRule_5 : decode cX4_readRule 5 = .ok (.aload_n 0, 1) := by decide +kernel
theorem dX4_readRule_6 : decode cX4_readRule 6 = .ok (.invokevirtual 47, 3) := by decide +kernel
theorem dX4_readRule_9 : decode cX4_readRule 9 = .ok (.istore_n 2, 1) := by decide +kernel
theorem dX4_readRule_10 : decode cX4_readRule 10 = .ok (.iload_n 2, 1) := by decide +kernel
theorem dX4_readRule_11 : decode cX4_readRule 11 = .ok (.iconst 0, 1) := by decide +kernel
theorem dX4_readRule_12 : decode cX4_readRule 12 = .ok (.iconst 2, 1) := by decide +kernel
theorem dX4_readRule_13 : decode cX4_readRule 13 = .ok (.invokestatic 28, 3) := by decide +kernel
theorem dX4_readRule_16 : decode cX4_readRule 16 = .ok (.ifCond .ne 9, 3) := by decide +kernel
theorem dX4_readRule_19 : decode cX4_readRule 19 = .ok (.aload_n 0, 1) := by decide +kernel
theorem dX4_readRule_20 : decode cX4_readRule 20 = .ok (.iload_n 1, 1) := by decide +kernel
theorem dX4_readRule_21 : decode cX4_readRule 21 = .ok (.putfield 38, 3) := by decide +kernel
theorem dX4_readRule_24 : decode cX4_readRule 24 = .ok (.return_, 1) := by decide +kernel
theorem dX4_readRule_25 : decode cX4_readRule 25 = .ok (.aload_n 0, 1) := by decide +kernel
theorem dX4_readRule_26 : decode cX4_readRule 26 = .ok (.getfield 20, 3) := by decide +kernel
theorem dX4_readRule_29 : decode cX4_readRule 29 = .ok (.aload_n 0, 1) := by decide +kernel
theorem dX4_readRule_30 : decode cX4_readRule 30 = .ok (.getfield 20, 3) := by decide +kernel
theorem dX4_readRule_33 : decode cX4_readRule 33 = .ok (.invokevirtual 51, 3) := by decide +kernel
theorem dX4_readRule_36 : decode cX4_readRule 36 = .ok (.iload_n 2, 1) := by decide +kernel
theorem dX4_readRule_37 : decode cX4_readRule 37 = .ok (.invokestatic 54, 3) := by decide +kernel
theorem dX4_readRule_40 : decode cX4_readRule 40 = .ok (.aload_n 0, 1) := by decide +kernel
theorem dX4_readRule_41 : decode cX4_readRule 41 = .ok (.iconst 0, 1) := by decide +kernel
theorem dX4_readRule_42 : decode cX4_readRule 42 = .ok (.putfield 58, 3) := by decide +kernel
theorem dX4_readRule_45 : decode cX4_readRule 45 = .ok (.iconst 0, 1) := by decide +kernel
theorem dX4_readRule_46 : decode cX4_readRule 46 = .ok (.istore_n 3, 1) := by decide +kernel
theorem dX4_readRule_47 : decode cX4_readRule 47 = .ok (.iload_n 3, 1) := by decide +kernel
theorem dX4_readRule_48 : decode cX4_readRule 48 = .ok (.bipush 6, 2) := by decide +kernel
theorem dX4_readRule_50 : decode cX4_readRule 50 = .ok (.if_icmp .gt 58, 3) := by decide +kernel
theorem dX4_readRule_53 : decode cX4_readRule 53 = .ok (.aload_n 0, 1) := by decide +kernel
theorem dX4_readRule_54 : decode cX4_readRule 54 = .ok (.getfield 38, 3) := by decide +kernel
theorem dX4_readRule_57 : decode cX4_readRule 57 = .ok (.iconst (-1), 1) := by decide +kernel
theorem dX4_readRule_58 : decode cX4_readRule 58 = .ok (.if_icmp .ne 50, 3) := by decide +kernel
theorem dX4_readRule_61 : decode cX4_readRule 61 = .ok (.aload_n 0, 1) := by decide +kernel
theorem dX4_readRule_62 : decode cX4_readRule 62 = .ok (.invokevirtual 41, 3) := by decide +kernel
theorem dX4_readRule_65 : decode cX4_readRule 65 = .ok (.aload_n 0, 1) := by decide +kernel
theorem dX4_readRule_66 : decode cX4_readRule 66 = .ok (.aload_n 0, 1) := by decide +kernel
theorem dX4_readRule_67 : decode cX4_readRule 67 = .ok (.getfield 35, 3) := by decide +kernel
theorem dX4_readRule_70 : decode cX4_readRule 70 = .ok (.invokevirtual 61, 3) := by decide +kernel
theorem dX4_readRule_73 : decode cX4_readRule 73 = .ok (.bipush 59, 2) := by decide +kernel
theorem dX4_readRule_75 : decode cX4_readRule 75 = .ok (.if_icmp .ne 14, 3) := by decide +kernel
theorem dX4_readRule_78 : decode cX4_readRule 78 = .ok (.aload_n 0, 1) := by decide +kernel
theorem dX4_readRule_79 : decode cX4_readRule 79 = .ok (.dup, 1) := by decide +kernel
theorem dX4_readRule_80 : decode cX4_readRule 80 = .ok (.getfield 35, 3) := by decide +kernel
theorem dX4_readRule_83 : decode cX4_readRule 83 = .ok (.iconst 1, 1) := by decide +kernel
theorem dX4_readRule_84 : decode cX4_readRule 84 = .ok (.iadd, 1) := by decide +kernel
theorem dX4_readRule_85 : decode cX4_readRule 85 = .ok (.putfield 35, 3) := by decide +kernel
theorem dX4_readRule_88 : decode cX4_readRule 88 = .ok (.return_, 1) := by decide +kernel
theorem dX4_readRule_89 : decode cX4_readRule 89 = .ok (.aload_n 0, 1) := by decide +kernel
theorem dX4_readRule_90 : decode cX4_readRule 90 = .ok (.aload_n 0, 1) := by decide +kernel
theorem dX4_readRule_91 : decode cX4_readRule 91 = .ok (.getfield 20, 3) := by decide +kernel
theorem dX4_readRule_94 : decode cX4_readRule 94 = .ok (.invokevirtual 51, 3) := by decide +kernel
theorem dX4_readRule_97 : decode cX4_readRule 97 = .ok (.iconst 1, 1) := by decide +kernel
theorem dX4_readRule_98 : decode cX4_readRule 98 = .ok (.isub, 1) := by decide +kernel
theorem dX4_readRule_99 : decode cX4_readRule 99 = .ok (.invokevirtual 65, 3) := by decide +kernel
theorem dX4_readRule_102 : decode cX4_readRule 102 = .ok (.iinc 3 1, 3) := by decide +kernel
theorem dX4_readRule_105 : decode cX4_readRule 105 = .ok (.goto (-58), 3) := by decide +kernel
theorem dX4_readRule_108 : decode cX4_readRule 108 = .ok (.return_, 1) := by decide +kernel
theorem dX4_readPart_0 : decode cX4_readPart 0 = .ok (.aload_n 0, 1) := by decide +kernel
theorem dX4_readPart_1 : decode cX4_readPart 1 = .ok (.getfield 35, 3) := by decide +kernel
theorem dX4_readPart_4 : decode cX4_readPart 4 = .ok (.istore_n 2, 1) := by decide +kernel
theorem dX4_readPart_5 : decode cX4_readPart 5 = .ok (.aload_n 0, 1) := by decide +kernel
theorem dX4_readPart_6 : decode cX4_readPart 6 = .ok (.invokevirtual 47, 3) := by decide +kernel
theorem dX4_readPart_9 : decode cX4_readPart 9 = .ok (.istore_n 3, 1) := by decide +kernel
theorem dX4_readPart_10 : decode cX4_readPart 10 = .ok (.iload_n 3, 1) := by decide +kernel
theorem dX4_readPart_11 : decode cX4_readPart 11 = .ok (.bipush 8, 2) := by decide +kernel
theorem dX4_readPart_13 : decode cX4_readPart 13 = .ok (.invokestatic 69, 3) := by decide +kernel
theorem dX4_readPart_16 : decode cX4_readPart 16 = .ok (.iconst 3, 1) := by decide +kernel
theorem dX4_readPart_17 : decode cX4_readPart 17 = .ok (.isub, 1) := by decide +kernel
theorem dX4_readPart_18 : decode cX4_readPart 18 = .ok (.istore 4, 2) := by decide +kernel
theorem dX4_readPart_20 : decode cX4_readPart 20 = .ok (.iload 4, 2) := by decide +kernel
theorem dX4_readPart_22 : decode cX4_readPart 22 = .ok (.ifCond .lt 16, 3) := by decide +kernel
theorem dX4_readPart_25 : decode cX4_readPart 25 = .ok (.aload_n 0, 1) := by decide +kernel
theorem dX4_readPart_26 : decode cX4_readPart 26 = .ok (.getfield 58, 3) := by decide +kernel
theorem dX4_readPart_29 : decode cX4_readPart 29 = .ok (.iload 4, 2) := by decide +kernel
theorem dX4_readPart_31 : decode cX4_readPart 31 = .ok (.iushr, 1) := by decide +kernel
theorem dX4_readPart_32 : decode cX4_readPart 32 = .ok (.iconst 1, 1) := by decide +kernel
theorem dX4_readPart_33 : decode cX4_readPart 33 = .ok (.iand, 1) := by decide +kernel
theorem dX4_readPart_34 : decode cX4_readPart 34 = .ok (.iconst 1, 1) := by decide +kernel
theorem dX4_readPart_35 : decode cX4_readPart 35 = .ok (.if_icmp .ne 9, 3) := by decide +kernel
theorem dX4_readPart_38 : decode cX4_readPart 38 = .ok (.aload_n 0, 1) := by decide +kernel
theorem dX4_readPart_39 : decode cX4_readPart 39 = .ok (.iload_n 2, 1) := by decide +kernel
theorem dX4_readPart_40 : decode cX4_readPart 40 = .ok (.putfield 38, 3) := by decide +kernel
theorem dX4_readPart_43 : decode cX4_readPart 43 = .ok (.return_, 1) := by decide +kernel
theorem dX4_readPart_44 : decode cX4_readPart 44 = .ok (.aload_n 0, 1) := by decide +kernel
theorem dX4_readPart_45 : decode cX4_readPart 45 = .ok (.dup, 1) := by decide +kernel
theorem dX4_readPart_46 : decode cX4_readPart 46 = .ok (.getfield 58, 3) := by decide +kernel
theorem dX4_readPart_49 : decode cX4_readPart 49 = .ok (.iconst 1, 1) := by decide +kernel
theorem dX4_readPart_50 : decode cX4_readPart 50 = .ok (.iload 4, 2) := by decide +kernel
theorem dX4_readPart_52 : decode cX4_readPart 52 = .ok (.ishl, 1) := by decide +kernel
theorem dX4_readPart_53 : decode cX4_readPart 53 = .ok (.ior, 1) := by decide +kernel
theorem dX4_readPart_54 : decode cX4_readPart 54 = .ok (.putfield 58, 3) := by decide +kernel
theorem dX4_readPart_57 : decode cX4_readPart 57 = .ok (.iload_n 3, 1) := by decide +kernel
theorem dX4_readPart_58 : decode cX4_readPart 58 = .ok (.tableswitch 86 3 7 #[34, 44, 54, 64, 74], 34) := by decide +kernel
theorem dX4_readPart_92 : decode cX4_readPart 92 = .ok (.aload_n 0, 1) := by decide +kernel
theorem dX4_readPart_93 : decode cX4_readPart 93 = .ok (.iload_n 1, 1) := by decide +kernel
theorem dX4_readPart_94 : decode cX4_readPart 94 = .ok (.iconst 0, 1) := by decide +kernel
theorem dX4_readPart_95 : decode cX4_readPart 95 = .ok (.iconst 0, 1) := by decide +kernel
theorem dX4_readPart_96 : decode cX4_readPart 96 = .ok (.invokevirtual 75, 3) := by decide +kernel
theorem dX4_readPart_99 : decode cX4_readPart 99 = .ok (.goto 66, 3) := by decide +kernel
theorem dX4_readPart_102 : decode cX4_readPart 102 = .ok (.aload_n 0, 1) := by decide +kernel
theorem dX4_readPart_103 : decode cX4_readPart 103 = .ok (.iload_n 1, 1) := by decide +kernel
theorem dX4_readPart_104 : decode cX4_readPart 104 = .ok (.iconst 1, 1) := by decide +kernel
theorem dX4_readPart_105 : decode cX4_readPart 105 = .ok (.iconst 1, 1) := by decide +kernel
theorem dX4_readPart_106 : decode cX4_readPart 106 = .ok (.invokevirtual 75, 3) := by decide +kernel
theorem dX4_readPart_109 : decode cX4_readPart 109 = .ok (.goto 56, 3) := by decide +kernel
theorem dX4_readPart_112 : decode cX4_readPart 112 = .ok (.aload_n 0, 1) := by decide +kernel
theorem dX4_readPart_113 : decode cX4_readPart 113 = .ok (.iload_n 1, 1) := by decide +kernel
theorem dX4_readPart_114 : decode cX4_readPart 114 = .ok (.iconst 2, 1) := by decide +kernel
theorem dX4_readPart_115 : decode cX4_readPart 115 = .ok (.iconst 3, 1) := by decide +kernel
theorem dX4_readPart_116 : decode cX4_readPart 116 = .ok (.invokevirtual 75, 3) := by decide +kernel
theorem dX4_readPart_119 : decode cX4_readPart 119 = .ok (.goto 46, 3) := by decide +kernel
theorem dX4_readPart_122 : decode cX4_readPart 122 = .ok (.aload_n 0, 1) := by decide +kernel
theorem dX4_readPart_123 : decode cX4_readPart 123 = .ok (.iload_n 1, 1) := by decide +kernel
theorem dX4_readPart_124 : decode cX4_readPart 124 = .ok (.iconst 4, 1) := by decide +kernel
theorem dX4_readPart_125 : decode cX4_readPart 125 = .ok (.iconst 5, 1) := by decide +kernel
theorem dX4_readPart_126 : decode cX4_readPart 126 = .ok (.invokevirtual 75, 3) := by decide +kernel
theorem dX4_readPart_129 : decode cX4_readPart 129 = .ok (.goto 36, 3) := by decide +kernel
theorem dX4_readPart_132 : decode cX4_readPart 132 = .ok (.aload_n 0, 1) := by decide +kernel
theorem dX4_readPart_133 : decode cX4_readPart 133 = .ok (.iload_n 1, 1) := by decide +kernel
theorem dX4_readPart_134 : decode cX4_readPart 134 = .ok (.bipush 6, 2) := by decide +kernel
theorem dX4_readPart_136 : decode cX4_readPart 136 = .ok (.bipush 7, 2) := by decide +kernel
theorem dX4_readPart_138 : decode cX4_readPart 138 = .ok (.invokevirtual 75, 3) := by decide +kernel
theorem dX4_readPart_141 : decode cX4_readPart 141 = .ok (.goto 24, 3) := by decide +kernel
theorem dX4_readPart_144 : decode cX4_readPart 144 = .ok (.aload_n 0, 1) := by decide +kernel
theorem dX4_readPart_145 : decode cX4_readPart 145 = .ok (.getfield 20, 3) := by decide +kernel
theorem dX4_readPart_148 : decode cX4_readPart 148 = .ok (.iload_n 1, 1) := by decide +kernel
theorem dX4_readPart_149 : decode cX4_readPart 149 = .ok (.bipush 8, 2) := by decide +kernel
theorem dX4_readPart_151 : decode cX4_readPart 151 = .ok (.iload_n 3, 1) := by decide +kernel
theorem dX4_readPart_152 : decode cX4_readPart 152 = .ok (.bipush 8, 2) := by decide +kernel
theorem dX4_readPart_154 : decode cX4_readPart 154 = .ok (.if_icmp .ne 7, 3) := by decide +kernel
theorem dX4_readPart_157 : decode cX4_readPart 157 = .ok (.iconst 0, 1) := by decide +kernel
theorem dX4_readPart_158 : decode cX4_readPart 158 = .ok (.goto 4, 3) := by decide +kernel
theorem dX4_readPart_161 : decode cX4_readPart 161 = .ok (.iconst 1, 1) := by decide +kernel
theorem dX4_readPart_162 : decode cX4_readPart 162 = .ok (.invokevirtual 79, 3) := by decide +kernel
theorem dX4_readPart_165 : decode cX4_readPart 165 = .ok (.return_, 1) := by decide +kernel
theorem dX4_readNumbers_0 : decode cX4_readNumbers 0 = .ok (.iload_n 2, 1) := by decide +kernel
theorem dX4_readNumbers_1 : decode cX4_readNumbers 1 = .ok (.istore 4, 2) := by decide +kernel
theorem dX4_readNumbers_3 : decode cX4_readNumbers 3 = .ok (.iload 4, 2) := by decide +kernel
theorem dX4_readNumbers_5 : decode cX4_readNumbers 5 = .ok (.iload_n 3, 1) := by decide +kernel
theorem dX4_readNumbers_6 : decode cX4_readNumbers 6 = .ok (.if_icmp .gt 40, 3) := by decide +kernel
theorem dX4_readNumbers_9 : decode cX4_readNumbers 9 = .ok (.aload_n 0, 1) := by decide +kernel
theorem dX4_readNumbers_10 : decode cX4_readNumbers 10 = .ok (.getfield 38, 3) := by decide +kernel
theorem dX4_readNumbers_13 : decode cX4_readNumbers 13 = .ok (.iconst (-1), 1) := by decide +kernel
theorem dX4_readNumbers_14 : decode cX4_readNumbers 14 = .ok (.if_icmp .ne 32, 3) := by decide +kernel
theorem dX4_readNumbers_17 : decode cX4_readNumbers 17 = .ok (.aload_n 0, 1) := by decide +kernel
theorem dX4_readNumbers_18 : decode cX4_readNumbers 18 = .ok (.invokevirtual 41, 3) := by decide +kernel
theorem dX4_readNumbers_21 : decode cX4_readNumbers 21 = .ok (.aload_n 0, 1) := by decide +kernel
theorem dX4_readNumbers_22 : decode cX4_readNumbers 22 = .ok (.getfield 20, 3) := by decide +kernel
theorem dX4_readNumbers_25 : decode cX4_readNumbers 25 = .ok (.iload_n 1, 1) := by decide +kernel
theorem dX4_readNumbers_26 : decode cX4_readNumbers 26 = .ok (.iload 4, 2) := by decide +kernel
theorem dX4_readNumbers_28 : decode cX4_readNumbers 28 = .ok (.aload_n 0, 1) := by decide +kernel
theorem dX4_readNumbers_29 : decode cX4_readNumbers 29 = .ok (.iload 4, 2) := by decide +kernel
theorem dX4_readNumbers_31 : decode cX4_readNumbers 31 = .ok (.invokestatic 82, 3) := by decide +kernel
theorem dX4_readNumbers_34 : decode cX4_readNumbers 34 = .ok (.invokevirtual 85, 3) := by decide +kernel
theorem dX4_readNumbers_37 : decode cX4_readNumbers 37 = .ok (.invokevirtual 79, 3) := by decide +kernel
theorem dX4_readNumbers_40 : decode cX4_readNumbers 40 = .ok (.iinc 4 1, 3) := by decide +kernel
theorem dX4_readNumbers_43 : decode cX4_readNumbers 43 = .ok (.goto (-40), 3) := by decide +kernel
theorem dX4_readNumbers_46 : decode cX4_readNumbers 46 = .ok (.return_, 1) := by decide +kernel
theorem dX4_readNumber_0 : decode cX4_readNumber 0 = .ok (.aload_n 0, 1) := by decide +kernel
theorem dX4_readNumber_1 : decode cX4_readNumber 1 = .ok (.getfield 35, 3) := by decide +kernel
theorem dX4_readNumber_4 : decode cX4_readNumber 4 = .ok (.istore_n 2, 1) := by decide +kernel
theorem dX4_readNumber_5 : decode cX4_readNumber 5 = .ok (.iconst 0, 1) := by decide +kernel
theorem dX4_readNumber_6 : decode cX4_readNumber 6 = .ok (.istore_n 3, 1) := by decide +kernel
theorem dX4_readNumber_7 : decode cX4_readNumber 7 = .ok (.aload_n 0, 1) := by decide +kernel
theorem dX4_readNumber_8 : decode cX4_readNumber 8 = .ok (.getfield 35, 3) := by decide +kernel
theorem dX4_readNumber_11 : decode cX4_readNumber 11 = .ok (.iload_n 2, 1) := by decide +kernel
theorem dX4_readNumber_12 : decode cX4_readNumber 12 = .ok (.iconst 2, 1) := by decide +kernel
theorem dX4_readNumber_13 : decode cX4_readNumber 13 = .ok (.iadd, 1) := by decide +kernel
theorem dX4_readNumber_14 : decode cX4_readNumber 14 = .ok (.if_icmp .ge 47, 3) := by decide +kernel
theorem dX4_readNumber_17 : decode cX4_readNumber 17 = .ok (.aload_n 0, 1) := by decide +kernel
theorem dX4_readNumber_18 : decode cX4_readNumber 18 = .ok (.aload_n 0, 1) := by decide +kernel
theorem dX4_readNumber_19 : decode cX4_readNumber 19 = .ok (.getfield 35, 3) := by decide +kernel
theorem dX4_readNumber_22 : decode cX4_readNumber 22 = .ok (.invokevirtual 61, 3) := by decide +kernel
theorem dX4_readNumber_25 : decode cX4_readNumber 25 = .ok (.invokestatic 88, 3) := by decide +kernel
theorem dX4_readNumber_28 : decode cX4_readNumber 28 = .ok (.ifCond .eq 33, 3) := by decide +kernel
theorem dX4_readNumber_31 : decode cX4_readNumber 31 = .ok (.bipush 10, 2) := by decide +kernel
theorem dX4_readNumber_33 : decode cX4_readNumber 33 = .ok (.iload_n 3, 1) := by decide +kernel
theorem dX4_readNumber_34 : decode cX4_readNumber 34 = .ok (.imul, 1) := by decide +kernel
theorem dX4_readNumber_35 : decode cX4_readNumber 35 = .ok (.aload_n 0, 1) := by decide +kernel
theorem dX4_readNumber_36 : decode cX4_readNumber 36 = .ok (.aload_n 0, 1) := by decide +kernel
theorem dX4_readNumber_37 : decode cX4_readNumber 37 = .ok (.getfield 35, 3) := by decide +kernel
theorem dX4_readNumber_40 : decode cX4_readNumber 40 = .ok (.invokevirtual 61, 3) := by decide +kernel
theorem dX4_readNumber_43 : decode cX4_readNumber 43 = .ok (.iadd, 1) := by decide +kernel
theorem dX4_readNumber_44 : decode cX4_readNumber 44 = .ok (.bipush 48, 2) := by decide +kernel
theorem dX4_readNumber_46 : decode cX4_readNumber 46 = .ok (.isub, 1) := by decide +kernel
theorem dX4_readNumber_47 : decode cX4_readNumber 47 = .ok (.istore_n 3, 1) := by decide +kernel
theorem dX4_readNumber_48 : decode cX4_readNumber 48 = .ok (.aload_n 0, 1) := by decide +kernel
theorem dX4_readNumber_49 : decode cX4_readNumber 49 = .ok (.dup, 1) := by decide +kernel
theorem dX4_readNumber_50 : decode cX4_readNumber 50 = .ok (.getfield 35, 3) := by decide +kernel
theorem dX4_readNumber_53 : decode cX4_readNumber 53 = .ok (.iconst 1, 1) := by decide +kernel
theorem dX4_readNumber_54 : decode cX4_readNumber 54 = .ok (.iadd, 1) := by decide +kernel
theorem dX4_readNumber_55 : decode cX4_readNumber 55 = .ok (.putfield 35, 3) := by decide +kernel
theorem dX4_readNumber_58 : decode cX4_readNumber 58 = .ok (.goto (-51), 3) := by decide +kernel
theorem dX4_readNumber_61 : decode cX4_readNumber 61 = .ok (.aload_n 0, 1) := by decide +kernel
theorem dX4_readNumber_62 : decode cX4_readNumber 62 = .ok (.getfield 35, 3) := by decide +kernel
theorem dX4_readNumber_65 : decode cX4_readNumber 65 = .ok (.iload_n 2, 1) := by decide +kernel
theorem dX4_readNumber_66 : decode cX4_readNumber 66 = .ok (.if_icmp .eq 17, 3) := by decide +kernel
theorem dX4_readNumber_69 : decode cX4_readNumber 69 = .ok (.aload_n 0, 1) := by decide +kernel
theorem dX4_readNumber_70 : decode cX4_readNumber 70 = .ok (.aload_n 0, 1) := by decide +kernel
theorem dX4_readNumber_71 : decode cX4_readNumber 71 = .ok (.getfield 35, 3) := by decide +kernel
theorem dX4_readNumber_74 : decode cX4_readNumber 74 = .ok (.invokevirtual 61, 3) := by decide +kernel
theorem dX4_readNumber_77 : decode cX4_readNumber 77 = .ok (.invokestatic 88, 3) := by decide +kernel
theorem dX4_readNumber_80 : decode cX4_readNumber 80 = .ok (.ifCond .eq 14, 3) := by decide +kernel
theorem dX4_readNumber_83 : decode cX4_readNumber 83 = .ok (.aload_n 0, 1) := by decide +kernel
theorem dX4_readNumber_84 : decode cX4_readNumber 84 = .ok (.aload_n 0, 1) := by decide +kernel
theorem dX4_readNumber_85 : decode cX4_readNumber 85 = .ok (.getfield 35, 3) := by decide +kernel
theorem dX4_readNumber_88 : decode cX4_readNumber 88 = .ok (.putfield 38, 3) := by decide +kernel
theorem dX4_readNumber_91 : decode cX4_readNumber 91 = .ok (.goto 13, 3) := by decide +kernel
theorem dX4_readNumber_94 : decode cX4_readNumber 94 = .ok (.iload_n 3, 1) := by decide +kernel
theorem dX4_readNumber_95 : decode cX4_readNumber 95 = .ok (.iload_n 1, 1) := by decide +kernel
theorem dX4_readNumber_96 : decode cX4_readNumber 96 = .ok (.if_icmp .le 8, 3) := by decide +kernel
theorem dX4_readNumber_99 : decode cX4_readNumber 99 = .ok (.aload_n 0, 1) := by decide +kernel
theorem dX4_readNumber_100 : decode cX4_readNumber 100 = .ok (.iload_n 2, 1) := by decide +kernel
theorem dX4_readNumber_101 : decode cX4_readNumber 101 = .ok (.putfield 38, 3) := by decide +kernel
theorem dX4_readNumber_104 : decode cX4_readNumber 104 = .ok (.iload_n 3, 1) := by decide +kernel
theorem dX4_readNumber_105 : decode cX4_readNumber 105 = .ok (.ireturn, 1) := by decide +kernel
theorem dX4_readWord_0 : decode cX4_readWord 0 = .ok (.iconst 0, 1) := by decide +kernel
theorem dX4_readWord_1 : decode cX4_readWord 1 = .ok (.istore_n 1, 1) := by decide +kernel
theorem dX4_readWord_2 : decode cX4_readWord 2 = .ok (.iload_n 1, 1) := by decide +kernel
theorem dX4_readWord_3 : decode cX4_readWord 3 = .ok (.bipush 10, 2) := by decide +kernel
theorem dX4_readWord_5 : decode cX4_readWord 5 = .ok (.if_icmp .ge 37, 3) := by decide +kernel
theorem dX4_readWord_8 : decode cX4_readWord 8 = .ok (.iload_n 1, 1) := by decide +kernel
theorem dX4_readWord_9 : decode cX4_readWord 9 = .ok (.invokestatic 92, 3) := by decide +kernel
theorem dX4_readWord_12 : decode cX4_readWord 12 = .ok (.astore_n 2, 1) := by decide +kernel
theorem dX4_readWord_13 : decode cX4_readWord 13 = .ok (.aload_n 0, 1) := by decide +kernel
theorem dX4_readWord_14 : decode cX4_readWord 14 = .ok (.aload_n 2, 1) := by decide +kernel
theorem dX4_readWord_15 : decode cX4_readWord 15 = .ok (.invokevirtual 96, 3) := by decide +kernel
theorem dX4_readWord_18 : decode cX4_readWord 18 = .ok (.ifCond .eq 18, 3) := by decide +kernel
theorem dX4_readWord_21 : decode cX4_readWord 21 = .ok (.aload_n 0, 1) := by decide +kernel
theorem dX4_readWord_22 : decode cX4_readWord 22 = .ok (.dup, 1) := by decide +kernel
theorem dX4_readWord_23 : decode cX4_readWord 23 = .ok (.getfield 35, 3) := by decide +kernel
theorem dX4_readWord_26 : decode cX4_readWord 26 = .ok (.aload_n 2, 1) := by decide +kernel
theorem dX4_readWord_27 : decode cX4_readWord 27 = .ok (.invokevirtual 100, 3) := by decide +kernel
theorem dX4_readWord_30 : decode cX4_readWord 30 = .ok (.iadd, 1) := by decide +kernel
theorem dX4_readWord_31 : decode cX4_readWord 31 = .ok (.putfield 35, 3) := by decide +kernel
theorem dX4_readWord_34 : decode cX4_readWord 34 = .ok (.iload_n 1, 1) := by decide +kernel
theorem dX4_readWord_35 : decode cX4_readWord 35 = .ok (.ireturn, 1) := by decide +kernel
theorem dX4_readWord_36 : decode cX4_readWord 36 = .ok (.iinc 1 1, 3) := by decide +kernel
theorem dX4_readWord_39 : decode cX4_readWord 39 = .ok (.goto (-37), 3) := by decide +kernel
theorem dX4_readWord_42 : decode cX4_readWord 42 = .ok (.iconst (-1), 1) := by decide +kernel
theorem dX4_readWord_43 : decode cX4_readWord 43 = .ok (.ireturn, 1) := by decide +kernel
theorem dX4_standsHere_0 : decode cX4_standsHere 0 = .ok (.iconst 0, 1) := by decide +kernel
theorem dX4_standsHere_1 : decode cX4_standsHere 1 = .ok (.istore_n 2, 1) := by decide +kernel
theorem dX4_standsHere_2 : decode cX4_standsHere 2 = .ok (.iload_n 2, 1) := by decide +kernel
theorem dX4_standsHere_3 : decode cX4_standsHere 3 = .ok (.aload_n 1, 1) := by decide +kernel
theorem dX4_standsHere_4 : decode cX4_standsHere 4 = .ok (.invokevirtual 100, 3) := by decide +kernel
theorem dX4_standsHere_7 : decode cX4_standsHere 7 = .ok (.if_icmp .ge 29, 3) := by decide +kernel
theorem dX4_standsHere_10 : decode cX4_standsHere 10 = .ok (.aload_n 0, 1) := by decide +kernel
theorem dX4_standsHere_11 : decode cX4_standsHere 11 = .ok (.aload_n 0, 1) := by decide +kernel
theorem dX4_standsHere_12 : decode cX4_standsHere 12 = .ok (.getfield 35, 3) := by decide +kernel
theorem dX4_standsHere_15 : decode cX4_standsHere 15 = .ok (.iload_n 2, 1) := by decide +kernel
theorem dX4_standsHere_16 : decode cX4_standsHere 16 = .ok (.iadd, 1) := by decide +kernel
theorem dX4_standsHere_17 : decode cX4_standsHere 17 = .ok (.invokevirtual 61, 3) := by decide +kernel
theorem dX4_standsHere_20 : decode cX4_standsHere 20 = .ok (.aload_n 1, 1) := by decide +kernel
theorem dX4_standsHere_21 : decode cX4_standsHere 21 = .ok (.iload_n 2, 1) := by decide +kernel
theorem dX4_standsHere_22 : decode cX4_standsHere 22 = .ok (.invokevirtual 104, 3) := by decide +kernel
theorem dX4_standsHere_25 : decode cX4_standsHere 25 = .ok (.if_icmp .eq 5, 3) := by decide +kernel
theorem dX4_standsHere_28 : decode cX4_standsHere 28 = .ok (.iconst 0, 1) := by decide +kernel
theorem dX4_standsHere_29 : decode cX4_standsHere 29 = .ok (.ireturn, 1) := by decide +kernel
theorem dX4_standsHere_30 : decode cX4_standsHere 30 = .ok (.iinc 2 1, 3) := by decide +kernel
theorem dX4_standsHere_33 : decode cX4_standsHere 33 = .ok (.goto (-31), 3) := by decide +kernel
theorem dX4_standsHere_36 : decode cX4_standsHere 36 = .ok (.aload_n 0, 1) := by decide +kernel
theorem dX4_standsHere_37 : decode cX4_standsHere 37 = .ok (.aload_n 0, 1) := by decide +kernel
theorem dX4_standsHere_38 : decode cX4_standsHere 38 = .ok (.getfield 35, 3) := by decide +kernel
theorem dX4_standsHere_41 : decode cX4_standsHere 41 = .ok (.aload_n 1, 1) := by decide +kernel
theorem dX4_standsHere_42 : decode cX4_standsHere 42 = .ok (.invokevirtual 100, 3) := by decide +kernel
theorem dX4_standsHere_45 : decode cX4_standsHere 45 = .ok (.iadd, 1) := by decide +kernel
theorem dX4_standsHere_46 : decode cX4_standsHere 46 = .ok (.invokevirtual 61, 3) := by decide +kernel
theorem dX4_standsHere_49 : decode cX4_standsHere 49 = .ok (.invokestatic 108, 3) := by decide +kernel
theorem dX4_standsHere_52 : decode cX4_standsHere 52 = .ok (.ifCond .ne 7, 3) := by decide +kernel
theorem dX4_standsHere_55 : decode cX4_standsHere 55 = .ok (.iconst 1, 1) := by decide +kernel
theorem dX4_standsHere_56 : decode cX4_standsHere 56 = .ok (.goto 4, 3) := by decide +kernel
theorem dX4_standsHere_59 : decode cX4_standsHere 59 = .ok (.iconst 0, 1) := by decide +kernel
theorem dX4_standsHere_60 : decode cX4_standsHere 60 = .ok (.ireturn, 1) := by decide +kernel
theorem dX4_nameOf_0 : decode cX4_nameOf 0 = .ok (.iload_n 0, 1) := by decide +kernel
theorem dX4_nameOf_1 : decode cX4_nameOf 1 = .ok (.tableswitch 78 0 8 #[51, 54, 57, 60, 63, 66, 69, 72, 75], 51) := by decide +kernel
theorem dX4_nameOf_52 : decode cX4_nameOf 52 = .ok (.ldc 111, 2) := by decide +kernel
theorem dX4_nameOf_54 : decode cX4_nameOf 54 = .ok (.areturn, 1) := by decide +kernel
theorem dX4_nameOf_55 : decode cX4_nameOf 55 = .ok (.ldc 113, 2) := by decide +kernel
theorem dX4_nameOf_57 : decode cX4_nameOf 57 = .ok (.areturn, 1) := by decide +kernel
theorem dX4_nameOf_58 : decode cX4_nameOf 58 = .ok (.ldc 115, 2) := by decide +kernel
theorem dX4_nameOf_60 : decode cX4_nameOf 60 = .ok (.areturn, 1) := by decide +kernel
theorem dX4_nameOf_61 : decode cX4_nameOf 61 = .ok (.ldc 117, 2) := by decide +kernel
theorem dX4_nameOf_63 : decode cX4_nameOf 63 = .ok (.areturn, 1) := by decide +kernel
theorem dX4_nameOf_64 : decode cX4_nameOf 64 = .ok (.ldc 119, 2) := by decide +kernel
theorem dX4_nameOf_66 : decode cX4_nameOf 66 = .ok (.areturn, 1) := by decide +kernel
theorem dX4_nameOf_67 : decode cX4_nameOf 67 = .ok (.ldc 121, 2) := by decide +kernel
theorem dX4_nameOf_69 : decode cX4_nameOf 69 = .ok (.areturn, 1) := by decide +kernel
theorem dX4_nameOf_70 : decode cX4_nameOf 70 = .ok (.ldc 123, 2) := by decide +kernel
theorem dX4_nameOf_72 : decode cX4_nameOf 72 = .ok (.areturn, 1) := by decide +kernel
theorem dX4_nameOf_73 : decode cX4_nameOf 73 = .ok (.ldc 125, 2) := by decide +kernel
theorem dX4_nameOf_75 : decode cX4_nameOf 75 = .ok (.areturn, 1) := by decide +kernel
theorem dX4_nameOf_76 : decode cX4_nameOf 76 = .ok (.ldc 127, 2) := by decide +kernel
theorem dX4_nameOf_78 : decode cX4_nameOf 78 = .ok (.areturn, 1) := by decide +kernel
theorem dX4_nameOf_79 : decode cX4_nameOf 79 = .ok (.ldc 129, 2) := by decide +kernel
theorem dX4_nameOf_81 : decode cX4_nameOf 81 = .ok (.areturn, 1) := by decide +kernel
theorem dX4_skipBlanks_0 : decode cX4_skipBlanks 0 = .ok (.aload_n 0, 1) := by decide +kernel
theorem dX4_skipBlanks_1 : decode cX4_skipBlanks 1 = .ok (.getfield 35, 3) := by decide +kernel
theorem dX4_skipBlanks_4 : decode cX4_skipBlanks 4 = .ok (.aload_n 0, 1) := by decide +kernel
theorem dX4_skipBlanks_5 : decode cX4_skipBlanks 5 = .ok (.getfield 24, 3) := by decide +kernel
theorem dX4_skipBlanks_8 : decode cX4_skipBlanks 8 = .ok (.if_icmp .ge 29, 3) := by decide +kernel
theorem dX4_skipBlanks_11 : decode cX4_skipBlanks 11 = .ok (.aload_n 0, 1) := by decide +kernel
theorem dX4_skipBlanks_12 : decode cX4_skipBlanks 12 = .ok (.aload_n 0, 1) := by decide +kernel
theorem dX4_skipBlanks_13 : decode cX4_skipBlanks 13 = .ok (.getfield 35, 3) := by decide +kernel
theorem dX4_skipBlanks_16 : decode cX4_skipBlanks 16 = .ok (.invokevirtual 61, 3) := by decide +kernel
theorem dX4_skipBlanks_19 : decode cX4_skipBlanks 19 = .ok (.bipush 32, 2) := by decide +kernel
theorem dX4_skipBlanks_21 : decode cX4_skipBlanks 21 = .ok (.if_icmp .ne 16, 3) := by decide +kernel
theorem dX4_skipBlanks_24 : decode cX4_skipBlanks 24 = .ok (.aload_n 0, 1) := by decide +kernel
theorem dX4_skipBlanks_25 : decode cX4_skipBlanks 25 = .ok (.dup, 1) := by decide +kernel
theorem dX4_skipBlanks_26 : decode cX4_skipBlanks 26 = .ok (.getfield 35, 3) := by decide +kernel
theorem dX4_skipBlanks_29 : decode cX4_skipBlanks 29 = .ok (.iconst 1, 1) := by decide +kernel
theorem dX4_skipBlanks_30 : decode cX4_skipBlanks 30 = .ok (.iadd, 1) := by decide +kernel
theorem dX4_skipBlanks_31 : decode cX4_skipBlanks 31 = .ok (.putfield 35, 3) := by decide +kernel
theorem dX4_skipBlanks_34 : decode cX4_skipBlanks 34 = .ok (.goto (-34), 3) := by decide +kernel
theorem dX4_skipBlanks_37 : decode cX4_skipBlanks 37 = .ok (.return_, 1) := by decide +kernel
theorem dX4_byteAt_0 : decode cX4_byteAt 0 = .ok (.iload_n 1, 1) := by decide +kernel
theorem dX4_byteAt_1 : decode cX4_byteAt 1 = .ok (.ifCond .lt 26, 3) := by decide +kernel
theorem dX4_byteAt_4 : decode cX4_byteAt 4 = .ok (.iload_n 1, 1) := by decide +kernel
theorem dX4_byteAt_5 : decode cX4_byteAt 5 = .ok (.aload_n 0, 1) := by decide +kernel
theorem dX4_byteAt_6 : decode cX4_byteAt 6 = .ok (.getfield 24, 3) := by decide +kernel
theorem dX4_byteAt_9 : decode cX4_byteAt 9 = .ok (.if_icmp .ge 18, 3) := by decide +kernel
theorem dX4_byteAt_12 : decode cX4_byteAt 12 = .ok (.iload_n 1, 1) := by decide +kernel
theorem dX4_byteAt_13 : decode cX4_byteAt 13 = .ok (.bipush 120, 2) := by decide +kernel
theorem dX4_byteAt_15 : decode cX4_byteAt 15 = .ok (.if_icmp .ge 12, 3) := by decide +kernel
theorem dX4_byteAt_18 : decode cX4_byteAt 18 = .ok (.aload_n 0, 1) := by decide +kernel
theorem dX4_byteAt_19 : decode cX4_byteAt 19 = .ok (.getfield 11, 3) := by decide +kernel
theorem dX4_byteAt_22 : decode cX4_byteAt 22 = .ok (.iload_n 1, 1) := by decide +kernel
theorem dX4_byteAt_23 : decode cX4_byteAt 23 = .ok (.iaload, 1) := by decide +kernel
theorem dX4_byteAt_24 : decode cX4_byteAt 24 = .ok (.goto 4, 3) := by decide +kernel
theorem dX4_byteAt_27 : decode cX4_byteAt 27 = .ok (.iconst (-1), 1) := by decide +kernel
theorem dX4_byteAt_28 : decode cX4_byteAt 28 = .ok (.ireturn, 1) := by decide +kernel
theorem dX4_isLetter_0 : decode cX4_isLetter 0 = .ok (.iload_n 0, 1) := by decide +kernel
theorem dX4_isLetter_1 : decode cX4_isLetter 1 = .ok (.bipush 97, 2) := by decide +kernel
theorem dX4_isLetter_3 : decode cX4_isLetter 3 = .ok (.if_icmp .lt 13, 3) := by decide +kernel
theorem dX4_isLetter_6 : decode cX4_isLetter 6 = .ok (.iload_n 0, 1) := by decide +kernel
theorem dX4_isLetter_7 : decode cX4_isLetter 7 = .ok (.bipush 122, 2) := by decide +kernel
theorem dX4_isLetter_9 : decode cX4_isLetter 9 = .ok (.if_icmp .gt 7, 3) := by decide +kernel
theorem dX4_isLetter_12 : decode cX4_isLetter 12 = .ok (.iconst 1, 1) := by decide +kernel
theorem dX4_isLetter_13 : decode cX4_isLetter 13 = .ok (.goto 4, 3) := by decide +kernel
theorem dX4_isLetter_16 : decode cX4_isLetter 16 = .ok (.iconst 0, 1) := by decide +kernel
theorem dX4_isLetter_17 : decode cX4_isLetter 17 = .ok (.ireturn, 1) := by decide +kernel
theorem dX4_isDigit_0 : decode cX4_isDigit 0 = .ok (.iload_n 0, 1) := by decide +kernel
theorem dX4_isDigit_1 : decode cX4_isDigit 1 = .ok (.bipush 48, 2) := by decide +kernel
theorem dX4_isDigit_3 : decode cX4_isDigit 3 = .ok (.if_icmp .lt 13, 3) := by decide +kernel
theorem dX4_isDigit_6 : decode cX4_isDigit 6 = .ok (.iload_n 0, 1) := by decide +kernel
theorem dX4_isDigit_7 : decode cX4_isDigit 7 = .ok (.bipush 57, 2) := by decide +kernel
theorem dX4_isDigit_9 : decode cX4_isDigit 9 = .ok (.if_icmp .gt 7, 3) := by decide +kernel
theorem dX4_isDigit_12 : decode cX4_isDigit 12 = .ok (.iconst 1, 1) := by decide +kernel
theorem dX4_isDigit_13 : decode cX4_isDigit 13 = .ok (.goto 4, 3) := by decide +kernel
theorem dX4_isDigit_16 : decode cX4_isDigit 16 = .ok (.iconst 0, 1) := by decide +kernel
theorem dX4_isDigit_17 : decode cX4_isDigit 17 = .ok (.ireturn, 1) := by decide +kernel
theorem dX5_init_0 : decode cX5_init 0 = .ok (.aload_n 0, 1) := by decide +kernel
theorem dX5_init_1 : decode cX5_init 1 = .ok (.invokespecial 3, 3) := by decide +kernel
theorem dX5_init_4 : decode cX5_init 4 = .ok (.aload_n 0, 1) := by decide +kernel
theorem dX5_init_5 : decode cX5_init 5 = .ok (.new 9, 3) := by decide +kernel
theorem dX5_init_8 : decode cX5_init 8 = .ok (.dup, 1) := by decide +kernel
theorem dX5_init_9 : decode cX5_init 9 = .ok (.invokespecial 11, 3) := by decide +kernel
theorem dX5_init_12 : decode cX5_init 12 = .ok (.putfield 12, 3) := by decide +kernel
theorem dX5_init_15 : decode cX5_init 15 = .ok (.aload_n 0, 1) := by decide +kernel
theorem dX5_init_16 : decode cX5_init 16 = .ok (.new 16, 3) := by decide +kernel
theorem dX5_init_19 : decode cX5_init 19 = .ok (.dup, 1) := by decide +kernel
theorem dX5_init_20 : decode cX5_init 20 = .ok (.invokespecial 18, 3) := by decide +kernel
theorem dX5_init_23 : decode cX5_init 23 = .ok (.putfield 19, 3) := by decide +kernel
theorem dX5_init_26 : decode cX5_init 26 = .ok (.aload_n 0, 1) := by decide +kernel
theorem dX5_init_27 : decode cX5_init 27 = .ok (.new 23, 3) := by decide +kernel
theorem dX5_init_30 : decode cX5_init 30 = .ok (.dup, 1) := by decide +kernel
theorem dX5_init_31 : decode cX5_init 31 = .ok (.invokespecial 25, 3) := by decide +kernel
theorem dX5_init_34 : decode cX5_init 34 = .ok (.putfield 26, 3) := by decide +kernel
theorem dX5_init_37 : decode cX5_init 37 = .ok (.aload_n 0, 1) := by decide +kernel
theorem dX5_init_38 : decode cX5_init 38 = .ok (.new 30, 3) := by decide +kernel
theorem dX5_init_41 : decode cX5_init 41 = .ok (.dup, 1) := by decide +kernel
theorem dX5_init_42 : decode cX5_init 42 = .ok (.invokespecial 32, 3) := by decide +kernel
theorem dX5_init_45 : decode cX5_init 45 = .ok (.putfield 33, 3) := by decide +kernel
theorem dX5_init_48 : decode cX5_init 48 = .ok (.aload_n 0, 1) := by decide +kernel
theorem dX5_init_49 : decode cX5_init 49 = .ok (.new 30, 3) := by decide +kernel
theorem dX5_init_52 : decode cX5_init 52 = .ok (.dup, 1) := by decide +kernel
theorem dX5_init_53 : decode cX5_init 53 = .ok (.invokespecial 32, 3) := by decide +kernel
theorem dX5_init_56 : decode cX5_init 56 = .ok (.putfield 37, 3) := by decide +kernel
theorem dX5_init_59 : decode cX5_init 59 = .ok (.return_, 1) := by decide +kernel
theorem dX5_zone_0 : decode cX5_zone 0 = .ok (.iload_n 1, 1) := by decide +kernel
theorem dX5_zone_1 : decode cX5_zone 1 = .ok (.iconst 0, 1) := by decide +kernel
theorem dX5_zone_2 : decode cX5_zone 2 = .ok (.iconst 5, 1) := by decide +kernel
theorem dX5_zone_3 : decode cX5_zone 3 = .ok (.invokestatic 40, 3) := by decide +kernel
theorem dX5_zone_6 : decode cX5_zone 6 = .ok (.ifCond .eq 22, 3) := by decide +kernel
theorem dX5_zone_9 : decode cX5_zone 9 = .ok (.iload_n 3, 1) := by decide +kernel
theorem dX5_zone_10 : decode cX5_zone 10 = .ok (.iconst 0, 1) := by decide +kernel
theorem dX5_zone_11 : decode cX5_zone 11 = .ok (.bipush 31, 2) := by decide +kernel
theorem dX5_zone_13 : decode cX5_zone 13 = .ok (.invokestatic 40, 3) := by decide +kernel
theorem dX5_zone_16 : decode cX5_zone 16 = .ok (.ifCond .eq 12, 3) := by decide +kernel
theorem dX5_zone_19 : decode cX5_zone 19 = .ok (.iload_n 2, 1) := by decide +kernel
theorem dX5_zone_20 : decode cX5_zone 20 = .ok (.iconst 0, 1) := by decide +kernel
theorem dX5_zone_21 : decode cX5_zone 21 = .ok (.iload_n 3, 1) := by decide +kernel
theorem dX5_zone_22 : decode cX5_zone 22 = .ok (.invokestatic 40, 3) := by decide +kernel
theorem dX5_zone_25 : decode cX5_zone 25 = .ok (.ifCond .ne 10, 3) := by decide +kernel
theorem dX5_zone_28 : decode cX5_zone 28 = .ok (.aload_n 0, 1) := by decide +kernel
theorem dX5_zone_29 : decode cX5_zone 29 = .ok (.bipush (-2), 2) := by decide +kernel
theorem dX5_zone_31 : decode cX5_zone 31 = .ok (.invokevirtual 44, 3) := by decide +kernel
theorem dX5_zone_34 : decode cX5_zone 34 = .ok (.ireturn, 1) := by decide +kernel
theorem dX5_zone_35 : decode cX5_zone 35 = .ok (.aload_n 0, 1) := by decide +kernel
theorem dX5_zone_36 : decode cX5_zone 36 = .ok (.getfield 19, 3) := by decide +kernel
theorem dX5_zone_39 : decode cX5_zone 39 = .ok (.aload_n 0, 1) := by decide +kernel
theorem dX5_zone_40 : decode cX5_zone 40 = .ok (.getfield 12, 3) := by decide +kernel
theorem dX5_zone_43 : decode cX5_zone 43 = .ok (.invokevirtual 48, 3) := by decide +kernel
theorem dX5_zone_46 : decode cX5_zone 46 = .ok (.iconst 0, 1) := by decide +kernel
theorem dX5_zone_47 : decode cX5_zone 47 = .ok (.istore 4, 2) := by decide +kernel
theorem dX5_zone_49 : decode cX5_zone 49 = .ok (.iload_n 2, 1) := by decide +kernel
theorem dX5_zone_50 : decode cX5_zone 50 = .ok (.istore 5, 2) := by decide +kernel
theorem dX5_zone_52 : decode cX5_zone 52 = .ok (.iload 5, 2) := by decide +kernel
theorem dX5_zone_54 : decode cX5_zone 54 = .ok (.iload_n 3, 1) := by decide +kernel
theorem dX5_zone_55 : decode cX5_zone 55 = .ok (.if_icmp .gt 37, 3) := by decide +kernel
theorem dX5_zone_58 : decode cX5_zone 58 = .ok (.aload_n 0, 1) := by decide +kernel
theorem dX5_zone_59 : decode cX5_zone 59 = .ok (.getfield 12, 3) := by decide +kernel
theorem dX5_zone_62 : decode cX5_zone 62 = .ok (.getfield 52, 3) := by decide +kernel
theorem dX5_zone_65 : decode cX5_zone 65 = .ok (.iload 5, 2) := by decide +kernel
theorem dX5_zone_67 : decode cX5_zone 67 = .ok (.iaload, 1) := by decide +kernel
theorem dX5_zone_68 : decode cX5_zone 68 = .ok (.iload_n 1, 1) := by decide +kernel
theorem dX5_zone_69 : decode cX5_zone 69 = .ok (.if_icmp .eq 17, 3) := by decide +kernel
theorem dX5_zone_72 : decode cX5_zone 72 = .ok (.aload_n 0, 1) := by decide +kernel
theorem dX5_zone_73 : decode cX5_zone 73 = .ok (.getfield 12, 3) := by decide +kernel
theorem dX5_zone_76 : decode cX5_zone 76 = .ok (.getfield 52, 3) := by decide +kernel
theorem dX5_zone_79 : decode cX5_zone 79 = .ok (.iload 5, 2) := by decide +kernel
theorem dX5_zone_81 : decode cX5_zone 81 = .ok (.iload_n 1, 1) := by decide +kernel
theorem dX5_zone_82 : decode cX5_zone 82 = .ok (.iastore, 1) := by decide +kernel
theorem dX5_zone_83 : decode cX5_zone 83 = .ok (.iinc 4 1, 3) := by decide +kernel
theorem dX5_zone_86 : decode cX5_zone 86 = .ok (.iinc 5 1, 3) := by decide +kernel
theorem dX5_zone_89 : decode cX5_zone 89 = .ok (.goto (-37), 3) := by decide +kernel
theorem dX5_zone_92 : decode cX5_zone 92 = .ok (.iload 4, 2) := by decide +kernel
theorem dX5_zone_94 : decode cX5_zone 94 = .ok (.ireturn, 1) := by decide +kernel
theorem dX5_zoneOf_0 : decode cX5_zoneOf 0 = .ok (.iload_n 1, 1) := by decide +kernel
theorem dX5_zoneOf_1 : decode cX5_zoneOf 1 = .ok (.iconst 0, 1) := by decide +kernel
theorem dX5_zoneOf_2 : decode cX5_zoneOf 2 = .ok (.bipush 31, 2) := by decide +kernel
theorem dX5_zoneOf_4 : decode cX5_zoneOf 4 = .ok (.invokestatic 40, 3) := by decide +kernel
theorem dX5_zoneOf_7 : decode cX5_zoneOf 7 = .ok (.ifCond .ne 10, 3) := by decide +kernel
theorem dX5_zoneOf_10 : decode cX5_zoneOf 10 = .ok (.aload_n 0, 1) := by decide +kernel
theorem dX5_zoneOf_11 : decode cX5_zoneOf 11 = .ok (.bipush (-2), 2) := by decide +kernel
theorem dX5_zoneOf_13 : decode cX5_zoneOf 13 = .ok (.invokevirtual 44, 3) := by decide +kernel
theorem dX5_zoneOf_16 : decode cX5_zoneOf 16 = .ok (.ireturn, 1) := by decide +kernel
theorem dX5_zoneOf_17 : decode cX5_zoneOf 17 = .ok (.aload_n 0, 1) := by decide +kernel
theorem dX5_zoneOf_18 : decode cX5_zoneOf 18 = .ok (.getfield 12, 3) := by decide +kernel
theorem dX5_zoneOf_21 : decode cX5_zoneOf 21 = .ok (.getfield 52, 3) := by decide +kernel
theorem dX5_zoneOf_24 : decode cX5_zoneOf 24 = .ok (.iload_n 1, 1) := by decide +kernel
theorem dX5_zoneOf_25 : decode cX5_zoneOf 25 = .ok (.iaload, 1) := by decide +kernel
theorem dX5_zoneOf_26 : decode cX5_zoneOf 26 = .ok (.ireturn, 1) := by decide +kernel
theorem dX5_rule_0 : decode cX5_rule 0 = .ok (.iload_n 1, 1) := by decide +kernel
theorem dX5_rule_1 : decode cX5_rule 1 = .ok (.iconst 0, 1) := by decide +kernel
theorem dX5_rule_2 : decode cX5_rule 2 = .ok (.aload_n 0, 1) := by decide +kernel
theorem dX5_rule_3 : decode cX5_rule 3 = .ok (.getfield 12, 3) := by decide +kernel
theorem dX5_rule_6 : decode cX5_rule 6 = .ok (.getfield 56, 3) := by decide +kernel
theorem dX5_rule_9 : decode cX5_rule 9 = .ok (.invokevirtual 60, 3) := by decide +kernel
theorem dX5_rule_12 : decode cX5_rule 12 = .ok (.invokestatic 40, 3) := by decide +kernel
theorem dX5_rule_15 : decode cX5_rule 15 = .ok (.ifCond .eq 12, 3) := by decide +kernel
theorem dX5_rule_18 : decode cX5_rule 18 = .ok (.iload_n 2, 1) := by decide +kernel
theorem dX5_rule_19 : decode cX5_rule 19 = .ok (.iconst 0, 1) := by decide +kernel
theorem dX5_rule_20 : decode cX5_rule 20 = .ok (.iconst 2, 1) := by decide +kernel
theorem dX5_rule_21 : decode cX5_rule 21 = .ok (.invokestatic 40, 3) := by decide +kernel
theorem dX5_rule_24 : decode cX5_rule 24 = .ok (.ifCond .ne 10, 3) := by decide +kernel
theorem dX5_rule_27 : decode cX5_rule 27 = .ok (.aload_n 0, 1) := by decide +kernel
theorem dX5_rule_28 : decode cX5_rule 28 = .ok (.bipush (-2), 2) := by decide +kernel
theorem dX5_rule_30 : decode cX5_rule 30 = .ok (.invokevirtual 44, 3) := by decide +kernel
theorem dX5_rule_33 : decode cX5_rule 33 = .ok (.ireturn, 1) := by decide +kernel
theorem dX5_rule_34 : decode cX5_rule 34 = .ok (.aload_n 0, 1) := by decide +kernel
theorem dX5_rule_35 : decode cX5_rule 35 = .ok (.getfield 12, 3) := by decide +kernel
theorem dX5_rule_38 : decode cX5_rule 38 = .ok (.getfield 56, 3) := by decide +kernel
theorem dX5_rule_41 : decode cX5_rule 41 = .ok (.invokevirtual 66, 3) := by decide +kernel
theorem dX5_rule_44 : decode cX5_rule 44 = .ok (.ifCond .eq 10, 3) := by decide +kernel
theorem dX5_rule_47 : decode cX5_rule 47 = .ok (.aload_n 0, 1) := by decide +kernel
theorem dX5_rule_48 : decode cX5_rule 48 = .ok (.bipush (-4), 2) := by decide +kernel
theorem dX5_rule_50 : decode cX5_rule 50 = .ok (.invokevirtual 44, 3) := by decide +kernel
theorem dX5_rule_53 : decode cX5_rule 53 = .ok (.ireturn, 1) := by decide +kernel
theorem dX5_rule_54 : decode cX5_rule 54 = .ok (.aload_n 0, 1) := by decide +kernel
theorem dX5_rule_55 : decode cX5_rule 55 = .ok (.getfield 19, 3) := by decide +kernel
theorem dX5_rule_58 : decode cX5_rule 58 = .ok (.aload_n 0, 1) := by decide +kernel
theorem dX5_rule_59 : decode cX5_rule 59 = .ok (.getfield 12, 3) := by decide +kernel
theorem dX5_rule_62 : decode cX5_rule 62 = .ok (.invokevirtual 48, 3) := by decide +kernel
theorem dX5_rule_65 : decode cX5_rule 65 = .ok (.aload_n 0, 1) := by decide +kernel
theorem dX5_rule_66 : decode cX5_rule 66 = .ok (.getfield 12, 3) := by decide +kernel
theorem dX5_rule_69 : decode cX5_rule 69 = .ok (.getfield 56, 3) := by decide +kernel
theorem dX5_rule_72 : decode cX5_rule 72 = .ok (.iload_n 1, 1) := by decide +kernel
theorem dX5_rule_73 : decode cX5_rule 73 = .ok (.iload_n 2, 1) := by decide +kernel
theorem dX5_rule_74 : decode cX5_rule 74 = .ok (.invokestatic 70, 3) := by decide +kernel
theorem dX5_rule_77 : decode cX5_rule 77 = .ok (.aload_n 0, 1) := by decide +kernel
theorem dX5_rule_78 : decode cX5_rule 78 = .ok (.getfield 12, 3) := by decide +kernel
theorem dX5_rule_81 : decode cX5_rule 81 = .ok (.getfield 56, 3) := by decide +kernel
theorem dX5_rule_84 : decode cX5_rule 84 = .ok (.invokevirtual 60, 3) := by decide +kernel
theorem dX5_rule_87 : decode cX5_rule 87 = .ok (.ireturn, 1) := by decide +kernel
theorem dX5_sets_0 : decode cX5_sets 0 = .ok (.aload_n 0, 1) := by decide +kernel
theorem dX5_sets_1 : decode cX5_sets 1 = .ok (.iload_n 1, 1) := by decide +kernel
theorem dX5_sets_2 : decode cX5_sets 2 = .ok (.invokevirtual 74, 3) := by decide +kernel
theorem dX5_sets_5 : decode cX5_sets 5 = .ok (.ifCond .eq 25, 3) := by decide +kernel
theorem dX5_sets_8 : decode cX5_sets 8 = .ok (.iload_n 2, 1) := by decide +kernel
theorem dX5_sets_9 : decode cX5_sets 9 = .ok (.iconst 0, 1) := by decide +kernel
theorem dX5_sets_10 : decode cX5_sets 10 = .ok (.bipush 9, 2) := by decide +kernel
theorem dX5_sets_12 : decode cX5_sets 12 = .ok (.invokestatic 40, 3) := by decide +kernel
theorem dX5_sets_15 : decode cX5_sets 15 = .ok (.ifCond .eq 15, 3) := by decide +kernel
theorem dX5_sets_18 : decode cX5_sets 18 = .ok (.iload_n 3, 1) := by decide +kernel
theorem dX5_sets_19 : decode cX5_sets 19 = .ok (.iconst 0, 1) := by decide +kernel
theorem dX5_sets_20 : decode cX5_sets 20 = .ok (.iload_n 2, 1) := by decide +kernel
theorem dX5_sets_21 : decode cX5_sets 21 = .ok (.invokestatic 78, 3) := by decide +kernel
theorem dX5_sets_24 : decode cX5_sets 24 = .ok (.invokestatic 40, 3) := by decide +kernel
theorem dX5_sets_27 : decode cX5_sets 27 = .ok (.ifCond .ne 10, 3) := by decide +kernel
theorem dX5_sets_30 : decode cX5_sets 30 = .ok (.aload_n 0, 1) := by decide +kernel
theorem dX5_sets_31 : decode cX5_sets 31 = .ok (.bipush (-2), 2) := by decide +kernel
theorem dX5_sets_33 : decode cX5_sets 33 = .ok (.invokevirtual 44, 3) := by decide +kernel
theorem dX5_sets_36 : decode cX5_sets 36 = .ok (.ireturn, 1) := by decide +kernel
theorem dX5_sets_37 : decode cX5_sets 37 = .ok (.aload_n 0, 1) := by decide +kernel
theorem dX5_sets_38 : decode cX5_sets 38 = .ok (.getfield 19, 3) := by decide +kernel
theorem dX5_sets_41 : decode cX5_sets 41 = .ok (.aload_n 0, 1) := by decide +kernel
theorem dX5_sets_42 : decode cX5_sets 42 = .ok (.getfield 12, 3) := by decide +kernel
theorem dX5_sets_45 : decode cX5_sets 45 = .ok (.invokevirtual 48, 3) := by decide +kernel
theorem dX5_sets_48 : decode cX5_sets 48 = .ok (.aload_n 0, 1) := by decide +kernel
theorem dX5_sets_49 : decode cX5_sets 49 = .ok (.getfield 12, 3) := by decide +kernel
theorem dX5_sets_52 : decode cX5_sets 52 = .ok (.getfield 56, 3) := by decide +kernel
theorem dX5_sets_55 : decode cX5_sets 55 = .ok (.iload_n 1, 1) := by decide +kernel
theorem dX5_sets_56 : decode cX5_sets 56 = .ok (.iload_n 2, 1) := by decide +kernel
theorem dX5_sets_57 : decode cX5_sets 57 = .ok (.invokevirtual 81, 3) := by decide +kernel
theorem dX5_sets_60 : decode cX5_sets 60 = .ok (.istore 4, 2) := by decide +kernel
theorem dX5_sets_62 : decode cX5_sets 62 = .ok (.aload_n 0, 1) := by decide +kernel
theorem dX5_sets_63 : decode cX5_sets 63 = .ok (.getfield 12, 3) := by decide +kernel
theorem dX5_sets_66 : decode cX5_sets 66 = .ok (.getfield 56, 3) := by decide +kernel
theorem dX5_sets_69 : decode cX5_sets 69 = .ok (.iload_n 1, 1) := by decide +kernel
theorem dX5_sets_70 : decode cX5_sets 70 = .ok (.iload_n 2, 1) := by decide +kernel
theorem dX5_sets_71 : decode cX5_sets 71 = .ok (.iload_n 3, 1) := by decide +kernel
theorem dX5_sets_72 : decode cX5_sets 72 = .ok (.invokevirtual 85, 3) := by decide +kernel
theorem dX5_sets_75 : decode cX5_sets 75 = .ok (.iload 4, 2) := by decide +kernel
theorem dX5_sets_77 : decode cX5_sets 77 = .ok (.ireturn, 1) := by decide +kernel
theorem dX5_drops_0 : decode cX5_drops 0 = .ok (.aload_n 0, 1) := by decide +kernel
theorem dX5_drops_1 : decode cX5_drops 1 = .ok (.iload_n 1, 1) := by decide +kernel
theorem dX5_drops_2 : decode cX5_drops 2 = .ok (.invokevirtual 74, 3) := by decide +kernel
theorem dX5_drops_5 : decode cX5_drops 5 = .ok (.ifCond .ne 10, 3) := by decide +kernel
theorem dX5_drops_8 : decode cX5_drops 8 = .ok (.aload_n 0, 1) := by decide +kernel
theorem dX5_drops_9 : decode cX5_drops 9 = .ok (.bipush (-2), 2) := by decide +kernel
theorem dX5_drops_11 : decode cX5_drops 11 = .ok (.invokevirtual 44, 3) := by decide +kernel
theorem dX5_drops_14 : decode cX5_drops 14 = .ok (.ireturn, 1) := by decide +kernel
theorem dX5_drops_15 : decode cX5_drops 15 = .ok (.aload_n 0, 1) := by decide +kernel
theorem dX5_drops_16 : decode cX5_drops 16 = .ok (.getfield 19, 3) := by decide +kernel
theorem dX5_drops_19 : decode cX5_drops 19 = .ok (.aload_n 0, 1) := by decide +kernel
theorem dX5_drops_20 : decode cX5_drops 20 = .ok (.getfield 12, 3) := by decide +kernel
theorem dX5_drops_23 : decode cX5_drops 23 = .ok (.invokevirtual 48, 3) := by decide +kernel
theorem dX5_drops_26 : decode cX5_drops 26 = .ok (.aload_n 0, 1) := by decide +kernel
theorem dX5_drops_27 : decode cX5_drops 27 = .ok (.getfield 12, 3) := by decide +kernel
theorem dX5_drops_30 : decode cX5_drops 30 = .ok (.getfield 56, 3) := by decide +kernel
theorem dX5_drops_33 : decode cX5_drops 33 = .ok (.iload_n 1, 1) := by decide +kernel
theorem dX5_drops_34 : decode cX5_drops 34 = .ok (.invokevirtual 89, 3) := by decide +kernel
theorem dX5_drops_37 : decode cX5_drops 37 = .ok (.aload_n 0, 1) := by decide +kernel
theorem dX5_drops_38 : decode cX5_drops 38 = .ok (.getfield 12, 3) := by decide +kernel
theorem dX5_drops_41 : decode cX5_drops 41 = .ok (.getfield 56, 3) := by decide +kernel
theorem dX5_drops_44 : decode cX5_drops 44 = .ok (.invokevirtual 60, 3) := by decide +kernel
theorem dX5_drops_47 : decode cX5_drops 47 = .ok (.ireturn, 1) := by decide +kernel
theorem dX5_moves_0 : decode cX5_moves 0 = .ok (.aload_n 0, 1) := by decide +kernel
theorem dX5_moves_1 : decode cX5_moves 1 = .ok (.iload_n 1, 1) := by decide +kernel
theorem dX5_moves_2 : decode cX5_moves 2 = .ok (.invokevirtual 74, 3) := by decide +kernel
theorem dX5_moves_5 : decode cX5_moves 5 = .ok (.ifCond .eq 11, 3) := by decide +kernel
theorem dX5_moves_8 : decode cX5_moves 8 = .ok (.aload_n 0, 1) := by decide +kernel
theorem dX5_moves_9 : decode cX5_moves 9 = .ok (.iload_n 2, 1) := by decide +kernel
theorem dX5_moves_10 : decode cX5_moves 10 = .ok (.invokevirtual 74, 3) := by decide +kernel
theorem dX5_moves_13 : decode cX5_moves 13 = .ok (.ifCond .ne 10, 3) := by decide +kernel
theorem dX5_moves_16 : decode cX5_moves 16 = .ok (.aload_n 0, 1) := by decide +kernel
theorem dX5_moves_17 : decode cX5_moves 17 = .ok (.bipush (-2), 2) := by decide +kernel
theorem dX5_moves_19 : decode cX5_moves 19 = .ok (.invokevirtual 44, 3) := by decide +kernel
theorem dX5_moves_22 : decode cX5_moves 22 = .ok (.ireturn, 1) := by decide +kernel
theorem dX5_moves_23 : decode cX5_moves 23 = .ok (.aload_n 0, 1) := by decide +kernel
theorem dX5_moves_24 : decode cX5_moves 24 = .ok (.getfield 19, 3) := by decide +kernel
theorem dX5_moves_27 : decode cX5_moves 27 = .ok (.aload_n 0, 1) := by decide +kernel
theorem dX5_moves_28 : decode cX5_moves 28 = .ok (.getfield 12, 3) := by decide +kernel
theorem dX5_moves_31 : decode cX5_moves 31 = .ok (.invokevirtual 48, 3) := by decide +kernel
theorem dX5_moves_34 : decode cX5_moves 34 = .ok (.iload_n 1, 1) := by decide +kernel
theorem dX5_moves_35 : decode cX5_moves 35 = .ok (.istore_n 3, 1) := by decide +kernel
theorem dX5_moves_36 : decode cX5_moves 36 = .ok (.iload_n 3, 1) := by decide +kernel
theorem dX5_moves_37 : decode cX5_moves 37 = .ok (.iload_n 2, 1) := by decide +kernel
theorem dX5_moves_38 : decode cX5_moves 38 = .ok (.if_icmp .ge 23, 3) := by decide +kernel
theorem dX5_moves_41 : decode cX5_moves 41 = .ok (.aload_n 0, 1) := by decide +kernel
theorem dX5_moves_42 : decode cX5_moves 42 = .ok (.getfield 12, 3) := by decide +kernel
theorem dX5_moves_45 : decode cX5_moves 45 = .ok (.getfield 56, 3) := by decide +kernel
theorem dX5_moves_48 : decode cX5_moves 48 = .ok (.iload_n 3, 1) := by decide +kernel
theorem dX5_moves_49 : decode cX5_moves 49 = .ok (.iload_n 3, 1) := by decide +kernel
theorem dX5_moves_50 : decode cX5_moves 50 = .ok (.iconst 1, 1) := by decide +kernel
theorem dX5_moves_51 : decode cX5_moves 51 = .ok (.iadd, 1) := by decide +kernel
theorem dX5_moves_52 : decode cX5_moves 52 = .ok (.invokevirtual 93, 3) := by decide +kernel
theorem dX5_moves_55 : decode cX5_moves 55 = .ok (.iinc 3 1, 3) := by decide +kernel
theorem dX5_moves_58 : decode cX5_moves 58 = .ok (.goto (-22), 3) := by decide +kernel
theorem dX5_moves_61 : decode cX5_moves 61 = .ok (.iload_n 1, 1) := by decide +kernel
theorem dX5_moves_62 : decode cX5_moves 62 = .ok (.istore_n 3, 1) := by decide +kernel
theorem dX5_moves_63 : decode cX5_moves 63 = .ok (.iload_n 3, 1) := by decide +kernel
theorem dX5_moves_64 : decode cX5_moves 64 = .ok (.iload_n 2, 1) := by decide +kernel
theorem dX5_moves_65 : decode cX5_moves 65 = .ok (.if_icmp .le 23, 3) := by decide +kernel
theorem dX5_moves_68 : decode cX5_moves 68 = .ok (.aload_n 0, 1) := by decide +kernel
theorem dX5_moves_69 : decode cX5_moves 69 = .ok (.getfield 12, 3) := by decide +kernel
theorem dX5_moves_72 : decode cX5_moves 72 = .ok (.getfield 56, 3) := by decide +kernel
theorem dX5_moves_75 : decode cX5_moves 75 = .ok (.iload_n 3, 1) := by decide +kernel
theorem dX5_moves_76 : decode cX5_moves 76 = .ok (.iload_n 3, 1) := by decide +kernel
theorem dX5_moves_77 : decode cX5_moves 77 = .ok (.iconst 1, 1) := by decide +kernel
theorem dX5_moves_78 : decode cX5_moves 78 = .ok (.isub, 1) := by decide +kernel
theorem dX5_moves_79 : decode cX5_moves 79 = .ok (.invokevirtual 93, 3) := by decide +kernel
theorem dX5_moves_82 : decode cX5_moves 82 = .ok (.iinc 3 (-1), 3) := by decide +kernel
theorem dX5_moves_85 : decode cX5_moves 85 = .ok (.goto (-22), 3) := by decide +kernel
theorem dX5_moves_88 : decode cX5_moves 88 = .ok (.iload_n 1, 1) := by decide +kernel
theorem dX5_moves_89 : decode cX5_moves 89 = .ok (.ireturn, 1) := by decide +kernel
theorem dX5_of_0 : decode cX5_of 0 = .ok (.aload_n 0, 1) := by decide +kernel
theorem dX5_of_1 : decode cX5_of 1 = .ok (.iload_n 1, 1) := by decide +kernel
theorem dX5_of_2 : decode cX5_of 2 = .ok (.invokevirtual 74, 3) := by decide +kernel
theorem dX5_of_5 : decode cX5_of 5 = .ok (.ifCond .eq 13, 3) := by decide +kernel
theorem dX5_of_8 : decode cX5_of 8 = .ok (.iload_n 2, 1) := by decide +kernel
theorem dX5_of_9 : decode cX5_of 9 = .ok (.iconst 0, 1) := by decide +kernel
theorem dX5_of_10 : decode cX5_of 10 = .ok (.bipush 10, 2) := by decide +kernel
theorem dX5_of_12 : decode cX5_of 12 = .ok (.invokestatic 40, 3) := by decide +kernel
theorem dX5_of_15 : decode cX5_of 15 = .ok (.ifCond .ne 10, 3) := by decide +kernel
theorem dX5_of_18 : decode cX5_of 18 = .ok (.aload_n 0, 1) := by decide +kernel
theorem dX5_of_19 : decode cX5_of 19 = .ok (.bipush (-2), 2) := by decide +kernel
theorem dX5_of_21 : decode cX5_of 21 = .ok (.invokevirtual 44, 3) := by decide +kernel
theorem dX5_of_24 : decode cX5_of 24 = .ok (.ireturn, 1) := by decide +kernel
theorem dX5_of_25 : decode cX5_of 25 = .ok (.aload_n 0, 1) := by decide +kernel
theorem dX5_of_26 : decode cX5_of 26 = .ok (.getfield 12, 3) := by decide +kernel
theorem dX5_of_29 : decode cX5_of 29 = .ok (.getfield 56, 3) := by decide +kernel
theorem dX5_of_32 : decode cX5_of 32 = .ok (.iload_n 1, 1) := by decide +kernel
theorem dX5_of_33 : decode cX5_of 33 = .ok (.iload_n 2, 1) := by decide +kernel
theorem dX5_of_34 : decode cX5_of 34 = .ok (.invokevirtual 81, 3) := by decide +kernel
theorem dX5_of_37 : decode cX5_of 37 = .ok (.ireturn, 1) := by decide +kernel
theorem dX5_keeps_0 : decode cX5_keeps 0 = .ok (.aload_n 0, 1) := by decide +kernel
theorem dX5_keeps_1 : decode cX5_keeps 1 = .ok (.getfield 19, 3) := by decide +kernel
theorem dX5_keeps_4 : decode cX5_keeps 4 = .ok (.aload_n 0, 1) := by decide +kernel
theorem dX5_keeps_5 : decode cX5_keeps 5 = .ok (.getfield 12, 3) := by decide +kernel
theorem dX5_keeps_8 : decode cX5_keeps 8 = .ok (.invokevirtual 48, 3) := by decide +kernel
theorem dX5_keeps_11 : decode cX5_keeps 11 = .ok (.aload_n 0, 1) := by decide +kernel
theorem dX5_keeps_12 : decode cX5_keeps 12 = .ok (.getfield 12, 3) := by decide +kernel
theorem dX5_keeps_15 : decode cX5_keeps 15 = .ok (.getfield 56, 3) := by decide +kernel
theorem dX5_keeps_18 : decode cX5_keeps 18 = .ok (.aload_n 0, 1) := by decide +kernel
theorem dX5_keeps_19 : decode cX5_keeps 19 = .ok (.getfield 12, 3) := by decide +kernel
theorem dX5_keeps_22 : decode cX5_keeps 22 = .ok (.getfield 97, 3) := by decide +kernel
theorem dX5_keeps_25 : decode cX5_keeps 25 = .ok (.invokestatic 100, 3) := by decide +kernel
theorem dX5_keeps_28 : decode cX5_keeps 28 = .ok (.aload_n 0, 1) := by decide +kernel
theorem dX5_keeps_29 : decode cX5_keeps 29 = .ok (.getfield 12, 3) := by decide +kernel
theorem dX5_keeps_32 : decode cX5_keeps 32 = .ok (.getfield 56, 3) := by decide +kernel
theorem dX5_keeps_35 : decode cX5_keeps 35 = .ok (.invokevirtual 60, 3) := by decide +kernel
theorem dX5_keeps_38 : decode cX5_keeps 38 = .ok (.ireturn, 1) := by decide +kernel
theorem dX5_takes_0 : decode cX5_takes 0 = .ok (.aload_n 0, 1) := by decide +kernel
theorem dX5_takes_1 : decode cX5_takes 1 = .ok (.getfield 19, 3) := by decide +kernel
theorem dX5_takes_4 : decode cX5_takes 4 = .ok (.aload_n 0, 1) := by decide +kernel
theorem dX5_takes_5 : decode cX5_takes 5 = .ok (.getfield 12, 3) := by decide +kernel
theorem dX5_takes_8 : decode cX5_takes 8 = .ok (.invokevirtual 48, 3) := by decide +kernel
theorem dX5_takes_11 : decode cX5_takes 11 = .ok (.aload_n 0, 1) := by decide +kernel
theorem dX5_takes_12 : decode cX5_takes 12 = .ok (.getfield 12, 3) := by decide +kernel
theorem dX5_takes_15 : decode cX5_takes 15 = .ok (.getfield 97, 3) := by decide +kernel
theorem dX5_takes_18 : decode cX5_takes 18 = .ok (.aload_n 0, 1) := by decide +kernel
theorem dX5_takes_19 : decode cX5_takes 19 = .ok (.getfield 12, 3) := by decide +kernel
theorem dX5_takes_22 : decode cX5_takes 22 = .ok (.getfield 56, 3) := by decide +kernel
theorem dX5_takes_25 : decode cX5_takes 25 = .ok (.invokestatic 100, 3) := by decide +kernel
theorem dX5_takes_28 : decode cX5_takes 28 = .ok (.aload_n 0, 1) := by decide +kernel
theorem dX5_takes_29 : decode cX5_takes 29 = .ok (.getfield 12, 3) := by decide +kernel
theorem dX5_takes_32 : decode cX5_takes 32 = .ok (.getfield 56, 3) := by decide +kernel
theorem dX5_takes_35 : decode cX5_takes 35 = .ok (.invokevirtual 60, 3) := by decide +kernel
theorem dX5_takes_38 : decode cX5_takes 38 = .ok (.ireturn, 1) := by decide +kernel
theorem dX5_decides_0 : decode cX5_decides 0 = .ok (.iload_n 1, 1) := by decide +kernel
theorem dX5_decides_1 : decode cX5_decides 1 = .ok (.iload_n 2, 1) := by decide +kernel
theorem dX5_decides_2 : decode cX5_decides 2 = .ok (.iload_n 3, 1) := by decide +kernel
theorem dX5_decides_3 : decode cX5_decides 3 = .ok (.iload 4, 2) := by decide +kernel
theorem dX5_decides_5 : decode cX5_decides 5 = .ok (.invokestatic 104, 3) := by decide +kernel
theorem dX5_decides_8 : decode cX5_decides 8 = .ok (.ifCond .ne 10, 3) := by decide +kernel
theorem dX5_decides_11 : decode cX5_decides 11 = .ok (.aload_n 0, 1) := by decide +kernel
theorem dX5_decides_12 : decode cX5_decides 12 = .ok (.bipush (-2), 2) := by decide +kernel
theorem dX5_decides_14 : decode cX5_decides 14 = .ok (.invokevirtual 44, 3) := by decide +kernel
theorem dX5_decides_17 : decode cX5_decides 17 = .ok (.ireturn, 1) := by decide +kernel
theorem dX5_decides_18 : decode cX5_decides 18 = .ok (.aload_n 0, 1) := by decide +kernel
theorem dX5_decides_19 : decode cX5_decides 19 = .ok (.getfield 12, 3) := by decide +kernel
theorem dX5_decides_22 : decode cX5_decides 22 = .ok (.aload_n 0, 1) := by decide +kernel
theorem dX5_decides_23 : decode cX5_decides 23 = .ok (.getfield 12, 3) := by decide +kernel
theorem dX5_decides_26 : decode cX5_decides 26 = .ok (.getfield 56, 3) := by decide +kernel
theorem dX5_decides_29 : decode cX5_decides 29 = .ok (.iload_n 1, 1) := by decide +kernel
theorem dX5_decides_30 : decode cX5_decides 30 = .ok (.iload_n 2, 1) := by decide +kernel
theorem dX5_decides_31 : decode cX5_decides 31 = .ok (.iload_n 3, 1) := by decide +kernel
theorem dX5_decides_32 : decode cX5_decides 32 = .ok (.iload 4, 2) := by decide +kernel
theorem dX5_decides_34 : decode cX5_decides 34 = .ok (.invokevirtual 108, 3) := by decide +kernel
theorem dX5_decides_37 : decode cX5_decides 37 = .ok (.ireturn, 1) := by decide +kernel
theorem dX5_cases_0 : decode cX5_cases 0 = .ok (.aload_n 0, 1) := by decide +kernel
theorem dX5_cases_1 : decode cX5_cases 1 = .ok (.iload_n 1, 1) := by decide +kernel
theorem dX5_cases_2 : decode cX5_cases 2 = .ok (.invokevirtual 74, 3) := by decide +kernel
theorem dX5_cases_5 : decode cX5_cases 5 = .ok (.ifCond .eq 12, 3) := by decide +kernel
theorem dX5_cases_8 : decode cX5_cases 8 = .ok (.iload_n 2, 1) := by decide +kernel
theorem dX5_cases_9 : decode cX5_cases 9 = .ok (.iconst 0, 1) := by decide +kernel
theorem dX5_cases_10 : decode cX5_cases 10 = .ok (.iconst 1, 1) := by decide +kernel
theorem dX5_cases_11 : decode cX5_cases 11 = .ok (.invokestatic 40, 3) := by decide +kernel
theorem dX5_cases_14 : decode cX5_cases 14 = .ok (.ifCond .ne 10, 3) := by decide +kernel
theorem dX5_cases_17 : decode cX5_cases 17 = .ok (.aload_n 0, 1) := by decide +kernel
theorem dX5_cases_18 : decode cX5_cases 18 = .ok (.bipush (-2), 2) := by decide +kernel
theorem dX5_cases_20 : decode cX5_cases 20 = .ok (.invokevirtual 44, 3) := by decide +kernel
theorem dX5_cases_23 : decode cX5_cases 23 = .ok (.ireturn, 1) := by decide +kernel
theorem dX5_cases_24 : decode cX5_cases 24 = .ok (.aload_n 0, 1) := by decide +kernel
theorem dX5_cases_25 : decode cX5_cases 25 = .ok (.getfield 33, 3) := by decide +kernel
theorem dX5_cases_28 : decode cX5_cases 28 = .ok (.aload_n 0, 1) := by decide +kernel
theorem dX5_cases_29 : decode cX5_cases 29 = .ok (.getfield 12, 3) := by decide +kernel
theorem dX5_cases_32 : decode cX5_cases 32 = .ok (.getfield 56, 3) := by decide +kernel
theorem dX5_cases_35 : decode cX5_cases 35 = .ok (.aload_n 0, 1) := by decide +kernel
theorem dX5_cases_36 : decode cX5_cases 36 = .ok (.getfield 12, 3) := by decide +kernel
theorem dX5_cases_39 : decode cX5_cases 39 = .ok (.getfield 52, 3) := by decide +kernel
theorem dX5_cases_42 : decode cX5_cases 42 = .ok (.invokevirtual 112, 3) := by decide +kernel
theorem dX5_cases_45 : decode cX5_cases 45 = .ok (.iload_n 2, 1) := by decide +kernel
theorem dX5_cases_46 : decode cX5_cases 46 = .ok (.ifCond .ne 14, 3) := by decide +kernel
theorem dX5_cases_49 : decode cX5_cases 49 = .ok (.aload_n 0, 1) := by decide +kernel
theorem dX5_cases_50 : decode cX5_cases 50 = .ok (.getfield 33, 3) := by decide +kernel
theorem dX5_cases_53 : decode cX5_cases 53 = .ok (.iload_n 1, 1) := by decide +kernel
theorem dX5_cases_54 : decode cX5_cases 54 = .ok (.invokevirtual 116, 3) := by decide +kernel
theorem dX5_cases_57 : decode cX5_cases 57 = .ok (.goto 12, 3) := by decide +kernel
theorem dX5_cases_60 : decode cX5_cases 60 = .ok (.aload_n 0, 1) := by decide +kernel
theorem dX5_cases_61 : decode cX5_cases 61 = .ok (.getfield 33, 3) := by decide +kernel
theorem dX5_cases_64 : decode cX5_cases 64 = .ok (.iload_n 1, 1) := by decide +kernel
theorem dX5_cases_65 : decode cX5_cases 65 = .ok (.iload_n 1, 1) := by decide +kernel
theorem dX5_cases_66 : decode cX5_cases 66 = .ok (.invokevirtual 119, 3) := by decide +kernel
theorem dX5_cases_69 : decode cX5_cases 69 = .ok (.ireturn, 1) := by decide +kernel
theorem dX5_idle_0 : decode cX5_idle 0 = .ok (.aload_n 0, 1) := by decide +kernel
theorem dX5_idle_1 : decode cX5_idle 1 = .ok (.iload_n 1, 1) := by decide +kernel
theorem dX5_idle_2 : decode cX5_idle 2 = .ok (.invokevirtual 74, 3) := by decide +kernel
theorem dX5_idle_5 : decode cX5_idle 5 = .ok (.ifCond .eq 12, 3) := by decide +kernel
theorem dX5_idle_8 : decode cX5_idle 8 = .ok (.iload_n 2, 1) := by decide +kernel
theorem dX5_idle_9 : decode cX5_idle 9 = .ok (.iconst 0, 1) := by decide +kernel
theorem dX5_idle_10 : decode cX5_idle 10 = .ok (.iconst 1, 1) := by decide +kernel
theorem dX5_idle_11 : decode cX5_idle 11 = .ok (.invokestatic 40, 3) := by decide +kernel
theorem dX5_idle_14 : decode cX5_idle 14 = .ok (.ifCond .ne 10, 3) := by decide +kernel
theorem dX5_idle_17 : decode cX5_idle 17 = .ok (.aload_n 0, 1) := by decide +kernel
theorem dX5_idle_18 : decode cX5_idle 18 = .ok (.bipush (-2), 2) := by decide +kernel
theorem dX5_idle_20 : decode cX5_idle 20 = .ok (.invokevirtual 44, 3) := by decide +kernel
theorem dX5_idle_23 : decode cX5_idle 23 = .ok (.ireturn, 1) := by decide +kernel
theorem dX5_idle_24 : decode cX5_idle 24 = .ok (.aload_n 0, 1) := by decide +kernel
theorem dX5_idle_25 : decode cX5_idle 25 = .ok (.getfield 33, 3) := by decide +kernel
theorem dX5_idle_28 : decode cX5_idle 28 = .ok (.aload_n 0, 1) := by decide +kernel
theorem dX5_idle_29 : decode cX5_idle 29 = .ok (.getfield 12, 3) := by decide +kernel
theorem dX5_idle_32 : decode cX5_idle 32 = .ok (.getfield 56, 3) := by decide +kernel
theorem dX5_idle_35 : decode cX5_idle 35 = .ok (.aload_n 0, 1) := by decide +kernel
theorem dX5_idle_36 : decode cX5_idle 36 = .ok (.getfield 12, 3) := by decide +kernel
theorem dX5_idle_39 : decode cX5_idle 39 = .ok (.getfield 52, 3) := by decide +kernel
theorem dX5_idle_42 : decode cX5_idle 42 = .ok (.invokevirtual 112, 3) := by decide +kernel
theorem dX5_idle_45 : decode cX5_idle 45 = .ok (.iload_n 2, 1) := by decide +kernel
theorem dX5_idle_46 : decode cX5_idle 46 = .ok (.ifCond .ne 20, 3) := by decide +kernel
theorem dX5_idle_49 : decode cX5_idle 49 = .ok (.aload_n 0, 1) := by decide +kernel
theorem dX5_idle_50 : decode cX5_idle 50 = .ok (.getfield 33, 3) := by decide +kernel
theorem dX5_idle_53 : decode cX5_idle 53 = .ok (.iload_n 1, 1) := by decide +kernel
theorem dX5_idle_54 : decode cX5_idle 54 = .ok (.invokevirtual 116, 3) := by decide +kernel
theorem dX5_idle_57 : decode cX5_idle 57 = .ok (.ifCond .ne 7, 3) := by decide +kernel
theorem dX5_idle_60 : decode cX5_idle 60 = .ok (.iconst 1, 1) := by decide +kernel
theorem dX5_idle_61 : decode cX5_idle 61 = .ok (.goto 4, 3) := by decide +kernel
theorem dX5_idle_64 : decode cX5_idle 64 = .ok (.iconst 0, 1) := by decide +kernel
theorem dX5_idle_65 : decode cX5_idle 65 = .ok (.ireturn, 1) := by decide +kernel
theorem dX5_idle_66 : decode cX5_idle 66 = .ok (.aload_n 0, 1) := by decide +kernel
theorem dX5_idle_67 : decode cX5_idle 67 = .ok (.getfield 37, 3) := by decide +kernel
theorem dX5_idle_70 : decode cX5_idle 70 = .ok (.aload_n 0, 1) := by decide +kernel
theorem dX5_idle_71 : decode cX5_idle 71 = .ok (.getfield 12, 3) := by decide +kernel
theorem dX5_idle_74 : decode cX5_idle 74 = .ok (.getfield 56, 3) := by decide +kernel
theorem dX5_idle_77 : decode cX5_idle 77 = .ok (.aload_n 0, 1) := by decide +kernel
theorem dX5_idle_78 : decode cX5_idle 78 = .ok (.getfield 12, 3) := by decide +kernel
theorem dX5_idle_81 : decode cX5_idle 81 = .ok (.getfield 52, 3) := by decide +kernel
theorem dX5_idle_84 : decode cX5_idle 84 = .ok (.invokevirtual 112, 3) := by decide +kernel
theorem dX5_idle_87 : decode cX5_idle 87 = .ok (.aload_n 0, 1) := by decide +kernel
theorem dX5_idle_88 : decode cX5_idle 88 = .ok (.getfield 37, 3) := by decide +kernel
theorem dX5_idle_91 : decode cX5_idle 91 = .ok (.iload_n 1, 1) := by decide +kernel
theorem dX5_idle_92 : decode cX5_idle 92 = .ok (.invokevirtual 122, 3) := by decide +kernel
theorem dX5_idle_95 : decode cX5_idle 95 = .ok (.aload_n 0, 1) := by decide +kernel
theorem dX5_idle_96 : decode cX5_idle 96 = .ok (.getfield 33, 3) := by decide +kernel
theorem dX5_idle_99 : decode cX5_idle 99 = .ok (.aload_n 0, 1) := by decide +kernel
theorem dX5_idle_100 : decode cX5_idle 100 = .ok (.getfield 37, 3) := by decide +kernel
theorem dX5_idle_103 : decode cX5_idle 103 = .ok (.invokevirtual 125, 3) := by decide +kernel
theorem dX5_idle_106 : decode cX5_idle 106 = .ok (.iconst (-1), 1) := by decide +kernel
theorem dX5_idle_107 : decode cX5_idle 107 = .ok (.if_icmp .ne 7, 3) := by decide +kernel
theorem dX5_idle_110 : decode cX5_idle 110 = .ok (.iconst 1, 1) := by decide +kernel
theorem dX5_idle_111 : decode cX5_idle 111 = .ok (.goto 4, 3) := by decide +kernel
theorem dX5_idle_114 : decode cX5_idle 114 = .ok (.iconst 0, 1) := by decide +kernel
theorem dX5_idle_115 : decode cX5_idle 115 = .ok (.ireturn, 1) := by decide +kernel
theorem dX5_contradicts_0 : decode cX5_contradicts 0 = .ok (.aload_n 0, 1) := by decide +kernel
theorem dX5_contradicts_1 : decode cX5_contradicts 1 = .ok (.iload_n 1, 1) := by decide +kernel
theorem dX5_contradicts_2 : decode cX5_contradicts 2 = .ok (.invokevirtual 74, 3) := by decide +kernel
theorem dX5_contradicts_5 : decode cX5_contradicts 5 = .ok (.ifCond .eq 16, 3) := by decide +kernel
theorem dX5_contradicts_8 : decode cX5_contradicts 8 = .ok (.aload_n 0, 1) := by decide +kernel
theorem dX5_contradicts_9 : decode cX5_contradicts 9 = .ok (.iload_n 2, 1) := by decide +kernel
