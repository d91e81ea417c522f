theorem d_TS_init_0 : decode c_TS_init 0 = .ok (.aload_n 0, 1) := by decide +kernel
theorem d_TS_init_1 : decode c_TS_init 1 = .ok (.invokespecial 3, 3) := by decide +kernel
theorem d_TS_init_4 : decode c_TS_init 4 = .ok (.aload_n 0, 1) := by decide +kernel
theorem d_TS_init_5 : decode c_TS_init 5 = .ok (.new 9, 3) := by decide +kernel
theorem d_TS_init_8 : decode c_TS_init 8 = .ok (.dup, 1) := by decide +kernel
theorem d_TS_init_9 : decode c_TS_init 9 = .ok (.invokespecial 11, 3) := by decide +kernel
theorem d_TS_init_12 : decode c_TS_init 12 = .ok (.putfield 12, 3) := by decide +kernel
theorem d_TS_init_15 : decode c_TS_init 15 = .ok (.aload_n 0, 1) := by decide +kernel
theorem d_TS_init_16 : decode c_TS_init 16 = .ok (.sipush 160, 3) := by decide +kernel
theorem d_TS_init_19 : decode c_TS_init 19 = .ok (.newarray .char, 2) := by decide +kernel
theorem d_TS_init_21 : decode c_TS_init 21 = .ok (.putfield 16, 3) := by decide +kernel
theorem d_TS_init_24 : decode c_TS_init 24 = .ok (.aload_n 0, 1) := by decide +kernel
theorem d_TS_init_25 : decode c_TS_init 25 = .ok (.new 20, 3) := by decide +kernel
theorem d_TS_init_28 : decode c_TS_init 28 = .ok (.dup, 1) := by decide +kernel
theorem d_TS_init_29 : decode c_TS_init 29 = .ok (.invokespecial 22, 3) := by decide +kernel
theorem d_TS_init_32 : decode c_TS_init 32 = .ok (.putfield 23, 3) := by decide +kernel
theorem d_TS_init_35 : decode c_TS_init 35 = .ok (.aload_n 0, 1) := by decide +kernel
theorem d_TS_init_36 : decode c_TS_init 36 = .ok (.new 27, 3) := by decide +kernel
theorem d_TS_init_39 : decode c_TS_init 39 = .ok (.dup, 1) := by decide +kernel
theorem d_TS_init_40 : decode c_TS_init 40 = .ok (.invokespecial 29, 3) := by decide +kernel
theorem d_TS_init_43 : decode c_TS_init 43 = .ok (.putfield 30, 3) := by decide +kernel
theorem d_TS_init_46 : decode c_TS_init 46 = .ok (.aload_n 0, 1) := by decide +kernel
theorem d_TS_init_47 : decode c_TS_init 47 = .ok (.new 34, 3) := by decide +kernel
theorem d_TS_init_50 : decode c_TS_init 50 = .ok (.dup, 1) := by decide +kernel
theorem d_TS_init_51 : decode c_TS_init 51 = .ok (.aload_n 0, 1) := by decide +kernel
theorem d_TS_init_52 : decode c_TS_init 52 = .ok (.getfield 23, 3) := by decide +kernel
theorem d_TS_init_55 : decode c_TS_init 55 = .ok (.aload_n 0, 1) := by decide +kernel
theorem d_TS_init_56 : decode c_TS_init 56 = .ok (.getfield 30, 3) := by decide +kernel
theorem d_TS_init_59 : decode c_TS_init 59 = .ok (.invokespecial 36, 3) := by decide +kernel
theorem d_TS_init_62 : decode c_TS_init 62 = .ok (.putfield 39, 3) := by decide +kernel
theorem d_TS_init_65 : decode c_TS_init 65 = .ok (.aload_n 0, 1) := by decide +kernel
theorem d_TS_init_66 : decode c_TS_init 66 = .ok (.new 43, 3) := by decide +kernel
theorem d_TS_init_69 : decode c_TS_init 69 = .ok (.dup, 1) := by decide +kernel
theorem d_TS_init_70 : decode c_TS_init 70 = .ok (.aload_n 0, 1) := by decide +kernel
theorem d_TS_init_71 : decode c_TS_init 71 = .ok (.getfield 12, 3) := by decide +kernel
theorem d_TS_init_74 : decode c_TS_init 74 = .ok (.aload_n 0, 1) := by decide +kernel
theorem d_TS_init_75 : decode c_TS_init 75 = .ok (.getfield 30, 3) := by decide +kernel
theorem d_TS_init_78 : decode c_TS_init 78 = .ok (.invokespecial 45, 3) := by decide +kernel
theorem d_TS_init_81 : decode c_TS_init 81 = .ok (.putfield 48, 3) := by decide +kernel
theorem d_TS_init_84 : decode c_TS_init 84 = .ok (.aload_n 0, 1) := by decide +kernel
theorem d_TS_init_85 : decode c_TS_init 85 = .ok (.new 52, 3) := by decide +kernel
theorem d_TS_init_88 : decode c_TS_init 88 = .ok (.dup, 1) := by decide +kernel
theorem d_TS_init_89 : decode c_TS_init 89 = .ok (.invokespecial 54, 3) := by decide +kernel
theorem d_TS_init_92 : decode c_TS_init 92 = .ok (.putfield 55, 3) := by decide +kernel
theorem d_TS_init_95 : decode c_TS_init 95 = .ok (.aload_n 0, 1) := by decide +kernel
theorem d_TS_init_96 : decode c_TS_init 96 = .ok (.iconst 0, 1) := by decide +kernel
theorem d_TS_init_97 : decode c_TS_init 97 = .ok (.putfield 59, 3) := by decide +kernel
theorem d_TS_init_100 : decode c_TS_init 100 = .ok (.aload_n 0, 1) := by decide +kernel
theorem d_TS_init_101 : decode c_TS_init 101 = .ok (.iconst (-1), 1) := by decide +kernel
theorem d_TS_init_102 : decode c_TS_init 102 = .ok (.putfield 63, 3) := by decide +kernel
theorem d_TS_init_105 : decode c_TS_init 105 = .ok (.return_, 1) := by decide +kernel
theorem d_TS_add_0 : decode c_TS_add 0 = .ok (.lload_n 1, 1) := by decide +kernel
theorem d_TS_add_1 : decode c_TS_add 1 = .ok (.lload_n 3, 1) := by decide +kernel
theorem d_TS_add_2 : decode c_TS_add 2 = .ok (.lload 5, 2) := by decide +kernel
theorem d_TS_add_4 : decode c_TS_add 4 = .ok (.invokestatic 66, 3) := by decide +kernel
theorem d_TS_add_7 : decode c_TS_add 7 = .ok (.ifCond .ne 13, 3) := by decide +kernel
theorem d_TS_add_10 : decode c_TS_add 10 = .ok (.new 72, 3) := by decide +kernel
theorem d_TS_add_13 : decode c_TS_add 13 = .ok (.dup, 1) := by decide +kernel
theorem d_TS_add_14 : decode c_TS_add 14 = .ok (.ldc 74, 2) := by decide +kernel
theorem d_TS_add_16 : decode c_TS_add 16 = .ok (.invokespecial 76, 3) := by decide +kernel
theorem d_TS_add_19 : decode c_TS_add 19 = .ok (.athrow, 1) := by decide +kernel
theorem d_TS_add_20 : decode c_TS_add 20 = .ok (.lload_n 1, 1) := by decide +kernel
theorem d_TS_add_21 : decode c_TS_add 21 = .ok (.invokestatic 79, 3) := by decide +kernel
theorem d_TS_add_24 : decode c_TS_add 24 = .ok (.lstore 7, 2) := by decide +kernel
theorem d_TS_add_26 : decode c_TS_add 26 = .ok (.lload_n 3, 1) := by decide +kernel
theorem d_TS_add_27 : decode c_TS_add 27 = .ok (.invokestatic 79, 3) := by decide +kernel
theorem d_TS_add_30 : decode c_TS_add 30 = .ok (.lstore 9, 2) := by decide +kernel
theorem d_TS_add_32 : decode c_TS_add 32 = .ok (.lload 5, 2) := by decide +kernel
theorem d_TS_add_34 : decode c_TS_add 34 = .ok (.invokestatic 79, 3) := by decide +kernel
theorem d_TS_add_37 : decode c_TS_add 37 = .ok (.lstore 11, 2) := by decide +kernel
theorem d_TS_add_39 : decode c_TS_add 39 = .ok (.aload_n 0, 1) := by decide +kernel
theorem d_TS_add_40 : decode c_TS_add 40 = .ok (.getfield 12, 3) := by decide +kernel
theorem d_TS_add_43 : decode c_TS_add 43 = .ok (.lload 7, 2) := by decide +kernel
theorem d_TS_add_45 : decode c_TS_add 45 = .ok (.lload 9, 2) := by decide +kernel
theorem d_TS_add_47 : decode c_TS_add 47 = .ok (.lload 11, 2) := by decide +kernel
theorem d_TS_add_49 : decode c_TS_add 49 = .ok (.invokevirtual 83, 3) := by decide +kernel
theorem d_TS_add_52 : decode c_TS_add 52 = .ok (.ifCond .eq 5, 3) := by decide +kernel
theorem d_TS_add_55 : decode c_TS_add 55 = .ok (.iconst 0, 1) := by decide +kernel
theorem d_TS_add_56 : decode c_TS_add 56 = .ok (.ireturn, 1) := by decide +kernel
theorem d_TS_add_57 : decode c_TS_add 57 = .ok (.aload_n 0, 1) := by decide +kernel
theorem d_TS_add_58 : decode c_TS_add 58 = .ok (.getfield 12, 3) := by decide +kernel
theorem d_TS_add_61 : decode c_TS_add 61 = .ok (.invokevirtual 86, 3) := by decide +kernel
theorem d_TS_add_64 : decode c_TS_add 64 = .ok (.bipush 48, 2) := by decide +kernel
theorem d_TS_add_66 : decode c_TS_add 66 = .ok (.if_icmp .lt 13, 3) := by decide +kernel
theorem d_TS_add_69 : decode c_TS_add 69 = .ok (.new 90, 3) := by decide +kernel
theorem d_TS_add_72 : decode c_TS_add 72 = .ok (.dup, 1) := by decide +kernel
theorem d_TS_add_73 : decode c_TS_add 73 = .ok (.ldc 92, 2) := by decide +kernel
theorem d_TS_add_75 : decode c_TS_add 75 = .ok (.invokespecial 94, 3) := by decide +kernel
theorem d_TS_add_78 : decode c_TS_add 78 = .ok (.athrow, 1) := by decide +kernel
theorem d_TS_add_79 : decode c_TS_add 79 = .ok (.aload_n 0, 1) := by decide +kernel
theorem d_TS_add_80 : decode c_TS_add 80 = .ok (.getfield 12, 3) := by decide +kernel
theorem d_TS_add_83 : decode c_TS_add 83 = .ok (.lload 7, 2) := by decide +kernel
theorem d_TS_add_85 : decode c_TS_add 85 = .ok (.lload 9, 2) := by decide +kernel
theorem d_TS_add_87 : decode c_TS_add 87 = .ok (.lload 11, 2) := by decide +kernel
theorem d_TS_add_89 : decode c_TS_add 89 = .ok (.invokevirtual 95, 3) := by decide +kernel
theorem d_TS_add_92 : decode c_TS_add 92 = .ok (.ireturn, 1) := by decide +kernel
theorem d_TS_remove_0 : decode c_TS_remove 0 = .ok (.lload_n 1, 1) := by decide +kernel
theorem d_TS_remove_1 : decode c_TS_remove 1 = .ok (.lload_n 3, 1) := by decide +kernel
theorem d_TS_remove_2 : decode c_TS_remove 2 = .ok (.lload 5, 2) := by decide +kernel
theorem d_TS_remove_4 : decode c_TS_remove 4 = .ok (.invokestatic 66, 3) := by decide +kernel
theorem d_TS_remove_7 : decode c_TS_remove 7 = .ok (.ifCond .ne 13, 3) := by decide +kernel
theorem d_TS_remove_10 : decode c_TS_remove 10 = .ok (.new 72, 3) := by decide +kernel
theorem d_TS_remove_13 : decode c_TS_remove 13 = .ok (.dup, 1) := by decide +kernel
theorem d_TS_remove_14 : decode c_TS_remove 14 = .ok (.ldc 74, 2) := by decide +kernel
theorem d_TS_remove_16 : decode c_TS_remove 16 = .ok (.invokespecial 76, 3) := by decide +kernel
theorem d_TS_remove_19 : decode c_TS_remove 19 = .ok (.athrow, 1) := by decide +kernel
theorem d_TS_remove_20 : decode c_TS_remove 20 = .ok (.aload_n 0, 1) := by decide +kernel
theorem d_TS_remove_21 : decode c_TS_remove 21 = .ok (.getfield 12, 3) := by decide +kernel
theorem d_TS_remove_24 : decode c_TS_remove 24 = .ok (.lload_n 1, 1) := by decide +kernel
theorem d_TS_remove_25 : decode c_TS_remove 25 = .ok (.invokestatic 79, 3) := by decide +kernel
theorem d_TS_remove_28 : decode c_TS_remove 28 = .ok (.lload_n 3, 1) := by decide +kernel
theorem d_TS_remove_29 : decode c_TS_remove 29 = .ok (.invokestatic 79, 3) := by decide +kernel
theorem d_TS_remove_32 : decode c_TS_remove 32 = .ok (.lload 5, 2) := by decide +kernel
theorem d_TS_remove_34 : decode c_TS_remove 34 = .ok (.invokestatic 79, 3) := by decide +kernel
theorem d_TS_remove_37 : decode c_TS_remove 37 = .ok (.invokevirtual 99, 3) := by decide +kernel
theorem d_TS_remove_40 : decode c_TS_remove 40 = .ok (.ireturn, 1) := by decide +kernel
theorem d_TS_begin_0 : decode c_TS_begin 0 = .ok (.aload_n 0, 1) := by decide +kernel
theorem d_TS_begin_1 : decode c_TS_begin 1 = .ok (.getfield 12, 3) := by decide +kernel
theorem d_TS_begin_4 : decode c_TS_begin 4 = .ok (.invokevirtual 102, 3) := by decide +kernel
theorem d_TS_begin_7 : decode c_TS_begin 7 = .ok (.ifCond .eq 13, 3) := by decide +kernel
theorem d_TS_begin_10 : decode c_TS_begin 10 = .ok (.new 90, 3) := by decide +kernel
theorem d_TS_begin_13 : decode c_TS_begin 13 = .ok (.dup, 1) := by decide +kernel
theorem d_TS_begin_14 : decode c_TS_begin 14 = .ok (.ldc 106, 2) := by decide +kernel
theorem d_TS_begin_16 : decode c_TS_begin 16 = .ok (.invokespecial 94, 3) := by decide +kernel
theorem d_TS_begin_19 : decode c_TS_begin 19 = .ok (.athrow, 1) := by decide +kernel
theorem d_TS_begin_20 : decode c_TS_begin 20 = .ok (.aload_n 0, 1) := by decide +kernel
theorem d_TS_begin_21 : decode c_TS_begin 21 = .ok (.getfield 12, 3) := by decide +kernel
theorem d_TS_begin_24 : decode c_TS_begin 24 = .ok (.invokevirtual 108, 3) := by decide +kernel
theorem d_TS_begin_27 : decode c_TS_begin 27 = .ok (.ireturn, 1) := by decide +kernel
theorem d_TS_commit_0 : decode c_TS_commit 0 = .ok (.aload_n 0, 1) := by decide +kernel
theorem d_TS_commit_1 : decode c_TS_commit 1 = .ok (.getfield 12, 3) := by decide +kernel
theorem d_TS_commit_4 : decode c_TS_commit 4 = .ok (.invokevirtual 102, 3) := by decide +kernel
theorem d_TS_commit_7 : decode c_TS_commit 7 = .ok (.ifCond .ne 13, 3) := by decide +kernel
theorem d_TS_commit_10 : decode c_TS_commit 10 = .ok (.new 90, 3) := by decide +kernel
theorem d_TS_commit_13 : decode c_TS_commit 13 = .ok (.dup, 1) := by decide +kernel
theorem d_TS_commit_14 : decode c_TS_commit 14 = .ok (.ldc 111, 2) := by decide +kernel
theorem d_TS_commit_16 : decode c_TS_commit 16 = .ok (.invokespecial 94, 3) := by decide +kernel
theorem d_TS_commit_19 : decode c_TS_commit 19 = .ok (.athrow, 1) := by decide +kernel
theorem d_TS_commit_20 : decode c_TS_commit 20 = .ok (.aload_n 0, 1) := by decide +kernel
theorem d_TS_commit_21 : decode c_TS_commit 21 = .ok (.getfield 12, 3) := by decide +kernel
theorem d_TS_commit_24 : decode c_TS_commit 24 = .ok (.invokevirtual 113, 3) := by decide +kernel
theorem d_TS_commit_27 : decode c_TS_commit 27 = .ok (.ireturn, 1) := by decide +kernel
theorem d_TS_rollback_0 : decode c_TS_rollback 0 = .ok (.aload_n 0, 1) := by decide +kernel
theorem d_TS_rollback_1 : decode c_TS_rollback 1 = .ok (.getfield 12, 3) := by decide +kernel
theorem d_TS_rollback_4 : decode c_TS_rollback 4 = .ok (.invokevirtual 102, 3) := by decide +kernel
theorem d_TS_rollback_7 : decode c_TS_rollback 7 = .ok (.ifCond .ne 13, 3) := by decide +kernel
theorem d_TS_rollback_10 : decode c_TS_rollback 10 = .ok (.new 90, 3) := by decide +kernel
theorem d_TS_rollback_13 : decode c_TS_rollback 13 = .ok (.dup, 1) := by decide +kernel
theorem d_TS_rollback_14 : decode c_TS_rollback 14 = .ok (.ldc 111, 2) := by decide +kernel
theorem d_TS_rollback_16 : decode c_TS_rollback 16 = .ok (.invokespecial 94, 3) := by decide +kernel
theorem d_TS_rollback_19 : decode c_TS_rollback 19 = .ok (.athrow, 1) := by decide +kernel
theorem d_TS_rollback_20 : decode c_TS_rollback 20 = .ok (.aload_n 0, 1) := by decide +kernel
theorem d_TS_rollback_21 : decode c_TS_rollback 21 = .ok (.getfield 12, 3) := by decide +kernel
theorem d_TS_rollback_24 : decode c_TS_rollback 24 = .ok (.invokevirtual 116, 3) := by decide +kernel
theorem d_TS_rollback_27 : decode c_TS_rollback 27 = .ok (.ireturn, 1) := by decide +kernel
theorem d_TS_sync_0 : decode c_TS_sync 0 = .ok (.aload_n 0, 1) := by decide +kernel
theorem d_TS_sync_1 : decode c_TS_sync 1 = .ok (.getfield 12, 3) := by decide +kernel
theorem d_TS_sync_4 : decode c_TS_sync 4 = .ok (.invokevirtual 119, 3) := by decide +kernel
theorem d_TS_sync_7 : decode c_TS_sync 7 = .ok (.ireturn, 1) := by decide +kernel
theorem d_TS_crash_0 : decode c_TS_crash 0 = .ok (.iload_n 1, 1) := by decide +kernel
theorem d_TS_crash_1 : decode c_TS_crash 1 = .ok (.ifCond .lt 10, 3) := by decide +kernel
theorem d_TS_crash_4 : decode c_TS_crash 4 = .ok (.iload_n 1, 1) := by decide +kernel
theorem d_TS_crash_5 : decode c_TS_crash 5 = .ok (.sipush 1000, 3) := by decide +kernel
theorem d_TS_crash_8 : decode c_TS_crash 8 = .ok (.if_icmp .le 13, 3) := by decide +kernel
theorem d_TS_crash_11 : decode c_TS_crash 11 = .ok (.new 72, 3) := by decide +kernel
theorem d_TS_crash_14 : decode c_TS_crash 14 = .ok (.dup, 1) := by decide +kernel
theorem d_TS_crash_15 : decode c_TS_crash 15 = .ok (.ldc 122, 2) := by decide +kernel
theorem d_TS_crash_17 : decode c_TS_crash 17 = .ok (.invokespecial 76, 3) := by decide +kernel
theorem d_TS_crash_20 : decode c_TS_crash 20 = .ok (.athrow, 1) := by decide +kernel
theorem d_TS_crash_21 : decode c_TS_crash 21 = .ok (.aload_n 0, 1) := by decide +kernel
theorem d_TS_crash_22 : decode c_TS_crash 22 = .ok (.getfield 12, 3) := by decide +kernel
theorem d_TS_crash_25 : decode c_TS_crash 25 = .ok (.iload_n 1, 1) := by decide +kernel
theorem d_TS_crash_26 : decode c_TS_crash 26 = .ok (.invokevirtual 124, 3) := by decide +kernel
theorem d_TS_crash_29 : decode c_TS_crash 29 = .ok (.aload_n 0, 1) := by decide +kernel
theorem d_TS_crash_30 : decode c_TS_crash 30 = .ok (.getfield 12, 3) := by decide +kernel
theorem d_TS_crash_33 : decode c_TS_crash 33 = .ok (.invokevirtual 86, 3) := by decide +kernel
theorem d_TS_crash_36 : decode c_TS_crash 36 = .ok (.ireturn, 1) := by decide +kernel
theorem d_TS_append_0 : decode c_TS_append 0 = .ok (.iload_n 3, 1) := by decide +kernel
theorem d_TS_append_1 : decode c_TS_append 1 = .ok (.iconst 1, 1) := by decide +kernel
theorem d_TS_append_2 : decode c_TS_append 2 = .ok (.if_icmp .lt 17, 3) := by decide +kernel
theorem d_TS_append_5 : decode c_TS_append 5 = .ok (.iload_n 3, 1) := by decide +kernel
theorem d_TS_append_6 : decode c_TS_append 6 = .ok (.bipush 8, 2) := by decide +kernel
theorem d_TS_append_8 : decode c_TS_append 8 = .ok (.if_icmp .gt 11, 3) := by decide +kernel
theorem d_TS_append_11 : decode c_TS_append 11 = .ok (.lload_n 1, 1) := by decide +kernel
theorem d_TS_append_12 : decode c_TS_append 12 = .ok (.iload_n 3, 1) := by decide +kernel
theorem d_TS_append_13 : decode c_TS_append 13 = .ok (.invokestatic 128, 3) := by decide +kernel
theorem d_TS_append_16 : decode c_TS_append 16 = .ok (.ifCond .ne 13, 3) := by decide +kernel
theorem d_TS_append_19 : decode c_TS_append 19 = .ok (.new 72, 3) := by decide +kernel
theorem d_TS_append_22 : decode c_TS_append 22 = .ok (.dup, 1) := by decide +kernel
theorem d_TS_append_23 : decode c_TS_append 23 = .ok (.ldc 132, 2) := by decide +kernel
theorem d_TS_append_25 : decode c_TS_append 25 = .ok (.invokespecial 76, 3) := by decide +kernel
theorem d_TS_append_28 : decode c_TS_append 28 = .ok (.athrow, 1) := by decide +kernel
theorem d_TS_append_29 : decode c_TS_append 29 = .ok (.aload_n 0, 1) := by decide +kernel
theorem d_TS_append_30 : decode c_TS_append 30 = .ok (.getfield 59, 3) := by decide +kernel
theorem d_TS_append_33 : decode c_TS_append 33 = .ok (.iload_n 3, 1) := by decide +kernel
theorem d_TS_append_34 : decode c_TS_append 34 = .ok (.iadd, 1) := by decide +kernel
theorem d_TS_append_35 : decode c_TS_append 35 = .ok (.sipush 160, 3) := by decide +kernel
theorem d_TS_append_38 : decode c_TS_append 38 = .ok (.if_icmp .le 13, 3) := by decide +kernel
theorem d_TS_append_41 : decode c_TS_append 41 = .ok (.new 90, 3) := by decide +kernel
theorem d_TS_append_44 : decode c_TS_append 44 = .ok (.dup, 1) := by decide +kernel
theorem d_TS_append_45 : decode c_TS_append 45 = .ok (.ldc 134, 2) := by decide +kernel
theorem d_TS_append_47 : decode c_TS_append 47 = .ok (.invokespecial 94, 3) := by decide +kernel
theorem d_TS_append_50 : decode c_TS_append 50 = .ok (.athrow, 1) := by decide +kernel
theorem d_TS_append_51 : decode c_TS_append 51 = .ok (.iload_n 3, 1) := by decide +kernel
theorem d_TS_append_52 : decode c_TS_append 52 = .ok (.iconst 1, 1) := by decide +kernel
theorem d_TS_append_53 : decode c_TS_append 53 = .ok (.isub, 1) := by decide +kernel
theorem d_TS_append_54 : decode c_TS_append 54 = .ok (.istore 4, 2) := by decide +kernel
theorem d_TS_append_56 : decode c_TS_append 56 = .ok (.iload 4, 2) := by decide +kernel
theorem d_TS_append_58 : decode c_TS_append 58 = .ok (.ifCond .lt 35, 3) := by decide +kernel
theorem d_TS_append_61 : decode c_TS_append 61 = .ok (.aload_n 0, 1) := by decide +kernel
theorem d_TS_append_62 : decode c_TS_append 62 = .ok (.getfield 16, 3) := by decide +kernel
theorem d_TS_append_65 : decode c_TS_append 65 = .ok (.aload_n 0, 1) := by decide +kernel
theorem d_TS_append_66 : decode c_TS_append 66 = .ok (.getfield 59, 3) := by decide +kernel
theorem d_TS_append_69 : decode c_TS_append 69 = .ok (.lload_n 1, 1) := by decide +kernel
theorem d_TS_append_70 : decode c_TS_append 70 = .ok (.iload 4, 2) := by decide +kernel
theorem d_TS_append_72 : decode c_TS_append 72 = .ok (.invokestatic 136, 3) := by decide +kernel
theorem d_TS_append_75 : decode c_TS_append 75 = .ok (.i2c, 1) := by decide +kernel
theorem d_TS_append_76 : decode c_TS_append 76 = .ok (.castore, 1) := by decide +kernel
theorem d_TS_append_77 : decode c_TS_append 77 = .ok (.aload_n 0, 1) := by decide +kernel
theorem d_TS_append_78 : decode c_TS_append 78 = .ok (.dup, 1) := by decide +kernel
theorem d_TS_append_79 : decode c_TS_append 79 = .ok (.getfield 59, 3) := by decide +kernel
theorem d_TS_append_82 : decode c_TS_append 82 = .ok (.iconst 1, 1) := by decide +kernel
theorem d_TS_append_83 : decode c_TS_append 83 = .ok (.iadd, 1) := by decide +kernel
theorem d_TS_append_84 : decode c_TS_append 84 = .ok (.putfield 59, 3) := by decide +kernel
theorem d_TS_append_87 : decode c_TS_append 87 = .ok (.iinc 4 (-1), 3) := by decide +kernel
theorem d_TS_append_90 : decode c_TS_append 90 = .ok (.goto (-34), 3) := by decide +kernel
theorem d_TS_append_93 : decode c_TS_append 93 = .ok (.aload_n 0, 1) := by decide +kernel
theorem d_TS_append_94 : decode c_TS_append 94 = .ok (.getfield 59, 3) := by decide +kernel
theorem d_TS_append_97 : decode c_TS_append 97 = .ok (.ireturn, 1) := by decide +kernel
theorem d_TS_ask_0 : decode c_TS_ask 0 = .ok (.aload_n 0, 1) := by decide +kernel
theorem d_TS_ask_1 : decode c_TS_ask 1 = .ok (.getfield 23, 3) := by decide +kernel
theorem d_TS_ask_4 : decode c_TS_ask 4 = .ok (.aload_n 0, 1) := by decide +kernel
theorem d_TS_ask_5 : decode c_TS_ask 5 = .ok (.getfield 16, 3) := by decide +kernel
theorem d_TS_ask_8 : decode c_TS_ask 8 = .ok (.aload_n 0, 1) := by decide +kernel
theorem d_TS_ask_9 : decode c_TS_ask 9 = .ok (.getfield 59, 3) := by decide +kernel
theorem d_TS_ask_12 : decode c_TS_ask 12 = .ok (.invokevirtual 140, 3) := by decide +kernel
theorem d_TS_ask_15 : decode c_TS_ask 15 = .ok (.aload_n 0, 1) := by decide +kernel
theorem d_TS_ask_16 : decode c_TS_ask 16 = .ok (.iconst 0, 1) := by decide +kernel
theorem d_TS_ask_17 : decode c_TS_ask 17 = .ok (.putfield 59, 3) := by decide +kernel
theorem d_TS_ask_20 : decode c_TS_ask 20 = .ok (.aload_n 0, 1) := by decide +kernel
theorem d_TS_ask_21 : decode c_TS_ask 21 = .ok (.getfield 39, 3) := by decide +kernel
theorem d_TS_ask_24 : decode c_TS_ask 24 = .ok (.invokevirtual 144, 3) := by decide +kernel
theorem d_TS_ask_27 : decode c_TS_ask 27 = .ok (.istore_n 1, 1) := by decide +kernel
theorem d_TS_ask_28 : decode c_TS_ask 28 = .ok (.aload_n 0, 1) := by decide +kernel
theorem d_TS_ask_29 : decode c_TS_ask 29 = .ok (.iload_n 1, 1) := by decide +kernel
theorem d_TS_ask_30 : decode c_TS_ask 30 = .ok (.ifCond .eq 7, 3) := by decide +kernel
theorem d_TS_ask_33 : decode c_TS_ask 33 = .ok (.iconst (-1), 1) := by decide +kernel
theorem d_TS_ask_34 : decode c_TS_ask 34 = .ok (.goto 10, 3) := by decide +kernel
theorem d_TS_ask_37 : decode c_TS_ask 37 = .ok (.aload_n 0, 1) := by decide +kernel
theorem d_TS_ask_38 : decode c_TS_ask 38 = .ok (.getfield 23, 3) := by decide +kernel
theorem d_TS_ask_41 : decode c_TS_ask 41 = .ok (.invokevirtual 147, 3) := by decide +kernel
theorem d_TS_ask_44 : decode c_TS_ask 44 = .ok (.putfield 63, 3) := by decide +kernel
theorem d_TS_ask_47 : decode c_TS_ask 47 = .ok (.iload_n 1, 1) := by decide +kernel
theorem d_TS_ask_48 : decode c_TS_ask 48 = .ok (.ifCond .ne 13, 3) := by decide +kernel
theorem d_TS_ask_51 : decode c_TS_ask 51 = .ok (.new 72, 3) := by decide +kernel
theorem d_TS_ask_54 : decode c_TS_ask 54 = .ok (.dup, 1) := by decide +kernel
theorem d_TS_ask_55 : decode c_TS_ask 55 = .ok (.ldc 150, 2) := by decide +kernel
theorem d_TS_ask_57 : decode c_TS_ask 57 = .ok (.invokespecial 76, 3) := by decide +kernel
theorem d_TS_ask_60 : decode c_TS_ask 60 = .ok (.athrow, 1) := by decide +kernel
theorem d_TS_ask_61 : decode c_TS_ask 61 = .ok (.aload_n 0, 1) := by decide +kernel
theorem d_TS_ask_62 : decode c_TS_ask 62 = .ok (.getfield 55, 3) := by decide +kernel
theorem d_TS_ask_65 : decode c_TS_ask 65 = .ok (.aload_n 0, 1) := by decide +kernel
theorem d_TS_ask_66 : decode c_TS_ask 66 = .ok (.getfield 30, 3) := by decide +kernel
theorem d_TS_ask_69 : decode c_TS_ask 69 = .ok (.getfield 152, 3) := by decide +kernel
theorem d_TS_ask_72 : decode c_TS_ask 72 = .ok (.invokevirtual 155, 3) := by decide +kernel
theorem d_TS_ask_75 : decode c_TS_ask 75 = .ok (.aload_n 0, 1) := by decide +kernel
theorem d_TS_ask_76 : decode c_TS_ask 76 = .ok (.getfield 48, 3) := by decide +kernel
theorem d_TS_ask_79 : decode c_TS_ask 79 = .ok (.iconst 0, 1) := by decide +kernel
theorem d_TS_ask_80 : decode c_TS_ask 80 = .ok (.iconst 0, 1) := by decide +kernel
theorem d_TS_ask_81 : decode c_TS_ask 81 = .ok (.invokevirtual 158, 3) := by decide +kernel
theorem d_TS_ask_84 : decode c_TS_ask 84 = .ok (.ifCond .ne 13, 3) := by decide +kernel
theorem d_TS_ask_87 : decode c_TS_ask 87 = .ok (.new 90, 3) := by decide +kernel
theorem d_TS_ask_90 : decode c_TS_ask 90 = .ok (.dup, 1) := by decide +kernel
theorem d_TS_ask_91 : decode c_TS_ask 91 = .ok (.ldc 162, 2) := by decide +kernel
theorem d_TS_ask_93 : decode c_TS_ask 93 = .ok (.invokespecial 94, 3) := by decide +kernel
theorem d_TS_ask_96 : decode c_TS_ask 96 = .ok (.athrow, 1) := by decide +kernel
theorem d_TS_ask_97 : decode c_TS_ask 97 = .ok (.aload_n 0, 1) := by decide +kernel
theorem d_TS_ask_98 : decode c_TS_ask 98 = .ok (.getfield 55, 3) := by decide +kernel
theorem d_TS_ask_101 : decode c_TS_ask 101 = .ok (.aload_n 0, 1) := by decide +kernel
theorem d_TS_ask_102 : decode c_TS_ask 102 = .ok (.getfield 30, 3) := by decide +kernel
theorem d_TS_ask_105 : decode c_TS_ask 105 = .ok (.aload_n 0, 1) := by decide +kernel
theorem d_TS_ask_106 : decode c_TS_ask 106 = .ok (.getfield 48, 3) := by decide +kernel
theorem d_TS_ask_109 : decode c_TS_ask 109 = .ok (.invokevirtual 164, 3) := by decide +kernel
theorem d_TS_ask_112 : decode c_TS_ask 112 = .ok (.invokevirtual 168, 3) := by decide +kernel
theorem d_TS_ask_115 : decode c_TS_ask 115 = .ok (.aload_n 0, 1) := by decide +kernel
theorem d_TS_ask_116 : decode c_TS_ask 116 = .ok (.getfield 55, 3) := by decide +kernel
theorem d_TS_ask_119 : decode c_TS_ask 119 = .ok (.invokevirtual 172, 3) := by decide +kernel
theorem d_TS_ask_122 : decode c_TS_ask 122 = .ok (.ireturn, 1) := by decide +kernel
theorem d_TS_fault_0 : decode c_TS_fault 0 = .ok (.aload_n 0, 1) := by decide +kernel
theorem d_TS_fault_1 : decode c_TS_fault 1 = .ok (.getfield 63, 3) := by decide +kernel
theorem d_TS_fault_4 : decode c_TS_fault 4 = .ok (.ireturn, 1) := by decide +kernel
theorem d_TS_cell_0 : decode c_TS_cell 0 = .ok (.aload_n 0, 1) := by decide +kernel
theorem d_TS_cell_1 : decode c_TS_cell 1 = .ok (.getfield 55, 3) := by decide +kernel
theorem d_TS_cell_4 : decode c_TS_cell 4 = .ok (.iload_n 1, 1) := by decide +kernel
theorem d_TS_cell_5 : decode c_TS_cell 5 = .ok (.iload_n 2, 1) := by decide +kernel
theorem d_TS_cell_6 : decode c_TS_cell 6 = .ok (.invokevirtual 173, 3) := by decide +kernel
theorem d_TS_cell_9 : decode c_TS_cell 9 = .ok (.ifCond .ne 13, 3) := by decide +kernel
theorem d_TS_cell_12 : decode c_TS_cell 12 = .ok (.new 176, 3) := by decide +kernel
theorem d_TS_cell_15 : decode c_TS_cell 15 = .ok (.dup, 1) := by decide +kernel
theorem d_TS_cell_16 : decode c_TS_cell 16 = .ok (.ldc 178, 2) := by decide +kernel
theorem d_TS_cell_18 : decode c_TS_cell 18 = .ok (.invokespecial 180, 3) := by decide +kernel
theorem d_TS_cell_21 : decode c_TS_cell 21 = .ok (.athrow, 1) := by decide +kernel
theorem d_TS_cell_22 : decode c_TS_cell 22 = .ok (.aload_n 0, 1) := by decide +kernel
theorem d_TS_cell_23 : decode c_TS_cell 23 = .ok (.getfield 55, 3) := by decide +kernel
theorem d_TS_cell_26 : decode c_TS_cell 26 = .ok (.iload_n 1, 1) := by decide +kernel
theorem d_TS_cell_27 : decode c_TS_cell 27 = .ok (.iload_n 2, 1) := by decide +kernel
theorem d_TS_cell_28 : decode c_TS_cell 28 = .ok (.invokevirtual 181, 3) := by decide +kernel
theorem d_TS_cell_31 : decode c_TS_cell 31 = .ok (.lstore_n 3, 1) := by decide +kernel
theorem d_TS_cell_32 : decode c_TS_cell 32 = .ok (.lload_n 3, 1) := by decide +kernel
theorem d_TS_cell_33 : decode c_TS_cell 33 = .ok (.lconst 0, 1) := by decide +kernel
theorem d_TS_cell_34 : decode c_TS_cell 34 = .ok (.lcmp, 1) := by decide +kernel
theorem d_TS_cell_35 : decode c_TS_cell 35 = .ok (.ifCond .ne 13, 3) := by decide +kernel
theorem d_TS_cell_38 : decode c_TS_cell 38 = .ok (.new 185, 3) := by decide +kernel
theorem d_TS_cell_41 : decode c_TS_cell 41 = .ok (.dup, 1) := by decide +kernel
theorem d_TS_cell_42 : decode c_TS_cell 42 = .ok (.ldc 187, 2) := by decide +kernel
theorem d_TS_cell_44 : decode c_TS_cell 44 = .ok (.invokespecial 189, 3) := by decide +kernel
theorem d_TS_cell_47 : decode c_TS_cell 47 = .ok (.athrow, 1) := by decide +kernel
theorem d_TS_cell_48 : decode c_TS_cell 48 = .ok (.lload_n 3, 1) := by decide +kernel
theorem d_TS_cell_49 : decode c_TS_cell 49 = .ok (.invokestatic 190, 3) := by decide +kernel
theorem d_TS_cell_52 : decode c_TS_cell 52 = .ok (.lreturn, 1) := by decide +kernel
theorem d_TS_count_0 : decode c_TS_count 0 = .ok (.iload_n 1, 1) := by decide +kernel
theorem d_TS_count_1 : decode c_TS_count 1 = .ok (.tableswitch 96 0 6 #[43, 51, 59, 67, 75, 83, 91], 43) := by decide +kernel
theorem d_TS_count_44 : decode c_TS_count 44 = .ok (.aload_n 0, 1) := by decide +kernel
theorem d_TS_count_45 : decode c_TS_count 45 = .ok (.getfield 12, 3) := by decide +kernel
theorem d_TS_count_48 : decode c_TS_count 48 = .ok (.invokevirtual 86, 3) := by decide +kernel
theorem d_TS_count_51 : decode c_TS_count 51 = .ok (.ireturn, 1) := by decide +kernel
theorem d_TS_count_52 : decode c_TS_count 52 = .ok (.aload_n 0, 1) := by decide +kernel
theorem d_TS_count_53 : decode c_TS_count 53 = .ok (.getfield 55, 3) := by decide +kernel
theorem d_TS_count_56 : decode c_TS_count 56 = .ok (.invokevirtual 193, 3) := by decide +kernel
theorem d_TS_count_59 : decode c_TS_count 59 = .ok (.ireturn, 1) := by decide +kernel
theorem d_TS_count_60 : decode c_TS_count 60 = .ok (.aload_n 0, 1) := by decide +kernel
theorem d_TS_count_61 : decode c_TS_count 61 = .ok (.getfield 55, 3) := by decide +kernel
theorem d_TS_count_64 : decode c_TS_count 64 = .ok (.invokevirtual 172, 3) := by decide +kernel
theorem d_TS_count_67 : decode c_TS_count 67 = .ok (.ireturn, 1) := by decide +kernel
theorem d_TS_count_68 : decode c_TS_count 68 = .ok (.aload_n 0, 1) := by decide +kernel
theorem d_TS_count_69 : decode c_TS_count 69 = .ok (.getfield 12, 3) := by decide +kernel
theorem d_TS_count_72 : decode c_TS_count 72 = .ok (.invokevirtual 195, 3) := by decide +kernel
theorem d_TS_count_75 : decode c_TS_count 75 = .ok (.ireturn, 1) := by decide +kernel
theorem d_TS_count_76 : decode c_TS_count 76 = .ok (.aload_n 0, 1) := by decide +kernel
theorem d_TS_count_77 : decode c_TS_count 77 = .ok (.getfield 12, 3) := by decide +kernel
theorem d_TS_count_80 : decode c_TS_count 80 = .ok (.invokevirtual 198, 3) := by decide +kernel
theorem d_TS_count_83 : decode c_TS_count 83 = .ok (.ireturn, 1) := by decide +kernel
theorem d_TS_count_84 : decode c_TS_count 84 = .ok (.aload_n 0, 1) := by decide +kernel
theorem d_TS_count_85 : decode c_TS_count 85 = .ok (.getfield 12, 3) := by decide +kernel
theorem d_TS_count_88 : decode c_TS_count 88 = .ok (.invokevirtual 201, 3) := by decide +kernel
theorem d_TS_count_91 : decode c_TS_count 91 = .ok (.ireturn, 1) := by decide +kernel
theorem d_TS_count_92 : decode c_TS_count 92 = .ok (.aload_n 0, 1) := by decide +kernel
theorem d_TS_count_93 : decode c_TS_count 93 = .ok (.getfield 59, 3) := by decide +kernel
theorem d_TS_count_96 : decode c_TS_count 96 = .ok (.ireturn, 1) := by decide +kernel
theorem d_TS_count_97 : decode c_TS_count 97 = .ok (.new 72, 3) := by decide +kernel
theorem d_TS_count_100 : decode c_TS_count 100 = .ok (.dup, 1) := by decide +kernel
theorem d_TS_count_101 : decode c_TS_count 101 = .ok (.ldc 204, 2) := by decide +kernel
theorem d_TS_count_103 : decode c_TS_count 103 = .ok (.invokespecial 76, 3) := by decide +kernel
theorem d_TS_count_106 : decode c_TS_count 106 = .ok (.athrow, 1) := by decide +kernel
theorem d_TS_areTextCodes_0 : decode c_TS_areTextCodes 0 = .ok (.iconst 0, 1) := by decide +kernel
theorem d_TS_areTextCodes_1 : decode c_TS_areTextCodes 1 = .ok (.istore_n 3, 1) := by decide +kernel
theorem d_TS_areTextCodes_2 : decode c_TS_areTextCodes 2 = .ok (.iload_n 3, 1) := by decide +kernel
theorem d_TS_areTextCodes_3 : decode c_TS_areTextCodes 3 = .ok (.iload_n 2, 1) := by decide +kernel
theorem d_TS_areTextCodes_4 : decode c_TS_areTextCodes 4 = .ok (.if_icmp .ge 32, 3) := by decide +kernel
theorem d_TS_areTextCodes_7 : decode c_TS_areTextCodes 7 = .ok (.lload_n 0, 1) := by decide +kernel
theorem d_TS_areTextCodes_8 : decode c_TS_areTextCodes 8 = .ok (.iload_n 3, 1) := by decide +kernel
theorem d_TS_areTextCodes_9 : decode c_TS_areTextCodes 9 = .ok (.invokestatic 136, 3) := by decide +kernel
theorem d_TS_areTextCodes_12 : decode c_TS_areTextCodes 12 = .ok (.istore 4, 2) := by decide +kernel
theorem d_TS_areTextCodes_14 : decode c_TS_areTextCodes 14 = .ok (.iload 4, 2) := by decide +kernel
theorem d_TS_areTextCodes_16 : decode c_TS_areTextCodes 16 = .ok (.bipush 32, 2) := by decide +kernel
theorem d_TS_areTextCodes_18 : decode c_TS_areTextCodes 18 = .ok (.if_icmp .lt 10, 3) := by decide +kernel
theorem d_TS_areTextCodes_21 : decode c_TS_areTextCodes 21 = .ok (.iload 4, 2) := by decide +kernel
theorem d_TS_areTextCodes_23 : decode c_TS_areTextCodes 23 = .ok (.bipush 126, 2) := by decide +kernel
theorem d_TS_areTextCodes_25 : decode c_TS_areTextCodes 25 = .ok (.if_icmp .le 5, 3) := by decide +kernel
theorem d_TS_areTextCodes_28 : decode c_TS_areTextCodes 28 = .ok (.iconst 0, 1) := by decide +kernel
theorem d_TS_areTextCodes_29 : decode c_TS_areTextCodes 29 = .ok (.ireturn, 1) := by decide +kernel
theorem d_TS_areTextCodes_30 : decode c_TS_areTextCodes 30 = .ok (.iinc 3 1, 3) := by decide +kernel
theorem d_TS_areTextCodes_33 : decode c_TS_areTextCodes 33 = .ok (.goto (-31), 3) := by decide +kernel
theorem d_TS_areTextCodes_36 : decode c_TS_areTextCodes 36 = .ok (.iconst 1, 1) := by decide +kernel
theorem d_TS_areTextCodes_37 : decode c_TS_areTextCodes 37 = .ok (.ireturn, 1) := by decide +kernel
theorem d_TS_byteAt_0 : decode c_TS_byteAt 0 = .ok (.lload_n 0, 1) := by decide +kernel
theorem d_TS_byteAt_1 : decode c_TS_byteAt 1 = .ok (.bipush 8, 2) := by decide +kernel
theorem d_TS_byteAt_3 : decode c_TS_byteAt 3 = .ok (.iload_n 2, 1) := by decide +kernel
theorem d_TS_byteAt_4 : decode c_TS_byteAt 4 = .ok (.imul, 1) := by decide +kernel
theorem d_TS_byteAt_5 : decode c_TS_byteAt 5 = .ok (.lushr, 1) := by decide +kernel
theorem d_TS_byteAt_6 : decode c_TS_byteAt 6 = .ok (.l2i, 1) := by decide +kernel
theorem d_TS_byteAt_7 : decode c_TS_byteAt 7 = .ok (.sipush 255, 3) := by decide +kernel
theorem d_TS_byteAt_10 : decode c_TS_byteAt 10 = .ok (.iand, 1) := by decide +kernel
theorem d_TS_byteAt_11 : decode c_TS_byteAt 11 = .ok (.ireturn, 1) := by decide +kernel
theorem d_Ro_init_0 : decode c_Ro_init 0 = .ok (.aload_n 0, 1) := by decide +kernel
theorem d_Ro_init_1 : decode c_Ro_init 1 = .ok (.invokespecial 3, 3) := by decide +kernel
theorem d_Ro_init_4 : decode c_Ro_init 4 = .ok (.aload_n 0, 1) := by decide +kernel
theorem d_Ro_init_5 : decode c_Ro_init 5 = .ok (.sipush 900, 3) := by decide +kernel
theorem d_Ro_init_8 : decode c_Ro_init 8 = .ok (.newarray .long, 2) := by decide +kernel
theorem d_Ro_init_10 : decode c_Ro_init 10 = .ok (.putfield 9, 3) := by decide +kernel
theorem d_Ro_init_13 : decode c_Ro_init 13 = .ok (.aload_n 0, 1) := by decide +kernel
theorem d_Ro_init_14 : decode c_Ro_init 14 = .ok (.sipush 150, 3) := by decide +kernel
theorem d_Ro_init_17 : decode c_Ro_init 17 = .ok (.newarray .int, 2) := by decide +kernel
theorem d_Ro_init_19 : decode c_Ro_init 19 = .ok (.putfield 15, 3) := by decide +kernel
theorem d_Ro_init_22 : decode c_Ro_init 22 = .ok (.aload_n 0, 1) := by decide +kernel
theorem d_Ro_init_23 : decode c_Ro_init 23 = .ok (.iconst 0, 1) := by decide +kernel
theorem d_Ro_init_24 : decode c_Ro_init 24 = .ok (.putfield 19, 3) := by decide +kernel
theorem d_Ro_init_27 : decode c_Ro_init 27 = .ok (.aload_n 0, 1) := by decide +kernel
theorem d_Ro_init_28 : decode c_Ro_init 28 = .ok (.iconst 0, 1) := by decide +kernel
theorem d_Ro_init_29 : decode c_Ro_init 29 = .ok (.putfield 23, 3) := by decide +kernel
theorem d_Ro_init_32 : decode c_Ro_init 32 = .ok (.return_, 1) := by decide +kernel
theorem d_Ro_columns_0 : decode c_Ro_columns 0 = .ok (.aload_n 0, 1) := by decide +kernel
theorem d_Ro_columns_1 : decode c_Ro_columns 1 = .ok (.getfield 19, 3) := by decide +kernel
theorem d_Ro_columns_4 : decode c_Ro_columns 4 = .ok (.ireturn, 1) := by decide +kernel
theorem d_Ro_size_0 : decode c_Ro_size 0 = .ok (.aload_n 0, 1) := by decide +kernel
theorem d_Ro_size_1 : decode c_Ro_size 1 = .ok (.getfield 23, 3) := by decide +kernel
theorem d_Ro_size_4 : decode c_Ro_size 4 = .ok (.ireturn, 1) := by decide +kernel
theorem d_Ro_hasPlace_0 : decode c_Ro_hasPlace 0 = .ok (.iload_n 1, 1) := by decide +kernel
theorem d_Ro_hasPlace_1 : decode c_Ro_hasPlace 1 = .ok (.ifCond .lt 27, 3) := by decide +kernel
theorem d_Ro_hasPlace_4 : decode c_Ro_hasPlace 4 = .ok (.iload_n 1, 1) := by decide +kernel
theorem d_Ro_hasPlace_5 : decode c_Ro_hasPlace 5 = .ok (.aload_n 0, 1) := by decide +kernel
theorem d_Ro_hasPlace_6 : decode c_Ro_hasPlace 6 = .ok (.getfield 23, 3) := by decide +kernel
theorem d_Ro_hasPlace_9 : decode c_Ro_hasPlace 9 = .ok (.if_icmp .ge 19, 3) := by decide +kernel
theorem d_Ro_hasPlace_12 : decode c_Ro_hasPlace 12 = .ok (.iload_n 2, 1) := by decide +kernel
theorem d_Ro_hasPlace_13 : decode c_Ro_hasPlace 13 = .ok (.ifCond .lt 15, 3) := by decide +kernel
theorem d_Ro_hasPlace_16 : decode c_Ro_hasPlace 16 = .ok (.iload_n 2, 1) := by decide +kernel
theorem d_Ro_hasPlace_17 : decode c_Ro_hasPlace 17 = .ok (.aload_n 0, 1) := by decide +kernel
theorem d_Ro_hasPlace_18 : decode c_Ro_hasPlace 18 = .ok (.getfield 19, 3) := by decide +kernel
theorem d_Ro_hasPlace_21 : decode c_Ro_hasPlace 21 = .ok (.if_icmp .ge 7, 3) := by decide +kernel
theorem d_Ro_hasPlace_24 : decode c_Ro_hasPlace 24 = .ok (.iconst 1, 1) := by decide +kernel
theorem d_Ro_hasPlace_25 : decode c_Ro_hasPlace 25 = .ok (.goto 4, 3) := by decide +kernel
theorem d_Ro_hasPlace_28 : decode c_Ro_hasPlace 28 = .ok (.iconst 0, 1) := by decide +kernel
theorem d_Ro_hasPlace_29 : decode c_Ro_hasPlace 29 = .ok (.ireturn, 1) := by decide +kernel
theorem d_Ro_term_0 : decode c_Ro_term 0 = .ok (.aload_n 0, 1) := by decide +kernel
theorem d_Ro_term_1 : decode c_Ro_term 1 = .ok (.iload_n 1, 1) := by decide +kernel
theorem d_Ro_term_2 : decode c_Ro_term 2 = .ok (.iload_n 2, 1) := by decide +kernel
theorem d_Ro_term_3 : decode c_Ro_term 3 = .ok (.invokevirtual 26, 3) := by decide +kernel
theorem d_Ro_term_6 : decode c_Ro_term 6 = .ok (.ifCond .eq 17, 3) := by decide +kernel
theorem d_Ro_term_9 : decode c_Ro_term 9 = .ok (.aload_n 0, 1) := by decide +kernel
theorem d_Ro_term_10 : decode c_Ro_term 10 = .ok (.getfield 9, 3) := by decide +kernel
theorem d_Ro_term_13 : decode c_Ro_term 13 = .ok (.iload_n 1, 1) := by decide +kernel
theorem d_Ro_term_14 : decode c_Ro_term 14 = .ok (.bipush 6, 2) := by decide +kernel
theorem d_Ro_term_16 : decode c_Ro_term 16 = .ok (.imul, 1) := by decide +kernel
theorem d_Ro_term_17 : decode c_Ro_term 17 = .ok (.iload_n 2, 1) := by decide +kernel
theorem d_Ro_term_18 : decode c_Ro_term 18 = .ok (.iadd, 1) := by decide +kernel
theorem d_Ro_term_19 : decode c_Ro_term 19 = .ok (.laload, 1) := by decide +kernel
theorem d_Ro_term_20 : decode c_Ro_term 20 = .ok (.goto 4, 3) := by decide +kernel
theorem d_Ro_term_23 : decode c_Ro_term 23 = .ok (.lconst 0, 1) := by decide +kernel
theorem d_Ro_term_24 : decode c_Ro_term 24 = .ok (.lreturn, 1) := by decide +kernel
theorem d_Ro_clear_0 : decode c_Ro_clear 0 = .ok (.aload_n 0, 1) := by decide +kernel
theorem d_Ro_clear_1 : decode c_Ro_clear 1 = .ok (.iload_n 1, 1) := by decide +kernel
theorem d_Ro_clear_2 : decode c_Ro_clear 2 = .ok (.bipush 6, 2) := by decide +kernel
theorem d_Ro_clear_4 : decode c_Ro_clear 4 = .ok (.invokestatic 32, 3) := by decide +kernel
theorem d_Ro_clear_7 : decode c_Ro_clear 7 = .ok (.putfield 19, 3) := by decide +kernel
theorem d_Ro_clear_10 : decode c_Ro_clear 10 = .ok (.aload_n 0, 1) := by decide +kernel
theorem d_Ro_clear_11 : decode c_Ro_clear 11 = .ok (.iconst 0, 1) := by decide +kernel
theorem d_Ro_clear_12 : decode c_Ro_clear 12 = .ok (.putfield 23, 3) := by decide +kernel
theorem d_Ro_clear_15 : decode c_Ro_clear 15 = .ok (.return_, 1) := by decide +kernel
theorem d_Ro_fill_0 : decode c_Ro_fill 0 = .ok (.aload_n 0, 1) := by decide +kernel
theorem d_Ro_fill_1 : decode c_Ro_fill 1 = .ok (.aload_n 1, 1) := by decide +kernel
theorem d_Ro_fill_2 : decode c_Ro_fill 2 = .ok (.aload_n 2, 1) := by decide +kernel
theorem d_Ro_fill_3 : decode c_Ro_fill 3 = .ok (.invokevirtual 38, 3) := by decide +kernel
theorem d_Ro_fill_6 : decode c_Ro_fill 6 = .ok (.iconst 0, 1) := by decide +kernel
theorem d_Ro_fill_7 : decode c_Ro_fill 7 = .ok (.istore_n 3, 1) := by decide +kernel
theorem d_Ro_fill_8 : decode c_Ro_fill 8 = .ok (.iload_n 3, 1) := by decide +kernel
theorem d_Ro_fill_9 : decode c_Ro_fill 9 = .ok (.aload_n 2, 1) := by decide +kernel
theorem d_Ro_fill_10 : decode c_Ro_fill 10 = .ok (.invokevirtual 42, 3) := by decide +kernel
theorem d_Ro_fill_13 : decode c_Ro_fill 13 = .ok (.if_icmp .ge 56, 3) := by decide +kernel
theorem d_Ro_fill_16 : decode c_Ro_fill 16 = .ok (.aload_n 0, 1) := by decide +kernel
theorem d_Ro_fill_17 : decode c_Ro_fill 17 = .ok (.getfield 23, 3) := by decide +kernel
theorem d_Ro_fill_20 : decode c_Ro_fill 20 = .ok (.aload_n 1, 1) := by decide +kernel
theorem d_Ro_fill_21 : decode c_Ro_fill 21 = .ok (.getfield 47, 3) := by decide +kernel
theorem d_Ro_fill_24 : decode c_Ro_fill 24 = .ok (.if_icmp .ge 45, 3) := by decide +kernel
theorem d_Ro_fill_27 : decode c_Ro_fill 27 = .ok (.aload_n 0, 1) := by decide +kernel
theorem d_Ro_fill_28 : decode c_Ro_fill 28 = .ok (.aload_n 1, 1) := by decide +kernel
theorem d_Ro_fill_29 : decode c_Ro_fill 29 = .ok (.aload_n 2, 1) := by decide +kernel
theorem d_Ro_fill_30 : decode c_Ro_fill 30 = .ok (.aload_n 0, 1) := by decide +kernel
theorem d_Ro_fill_31 : decode c_Ro_fill 31 = .ok (.getfield 15, 3) := by decide +kernel
theorem d_Ro_fill_34 : decode c_Ro_fill 34 = .ok (.iload_n 3, 1) := by decide +kernel
theorem d_Ro_fill_35 : decode c_Ro_fill 35 = .ok (.iaload, 1) := by decide +kernel
theorem d_Ro_fill_36 : decode c_Ro_fill 36 = .ok (.invokevirtual 52, 3) := by decide +kernel
theorem d_Ro_fill_39 : decode c_Ro_fill 39 = .ok (.aload_n 1, 1) := by decide +kernel
theorem d_Ro_fill_40 : decode c_Ro_fill 40 = .ok (.getfield 56, 3) := by decide +kernel
theorem d_Ro_fill_43 : decode c_Ro_fill 43 = .ok (.ifCond .eq 10, 3) := by decide +kernel
theorem d_Ro_fill_46 : decode c_Ro_fill 46 = .ok (.aload_n 0, 1) := by decide +kernel
theorem d_Ro_fill_47 : decode c_Ro_fill 47 = .ok (.invokevirtual 60, 3) := by decide +kernel
theorem d_Ro_fill_50 : decode c_Ro_fill 50 = .ok (.ifCond .ne 13, 3) := by decide +kernel
theorem d_Ro_fill_53 : decode c_Ro_fill 53 = .ok (.aload_n 0, 1) := by decide +kernel
theorem d_Ro_fill_54 : decode c_Ro_fill 54 = .ok (.dup, 1) := by decide +kernel
theorem d_Ro_fill_55 : decode c_Ro_fill 55 = .ok (.getfield 23, 3) := by decide +kernel
theorem d_Ro_fill_58 : decode c_Ro_fill 58 = .ok (.iconst 1, 1) := by decide +kernel
theorem d_Ro_fill_59 : decode c_Ro_fill 59 = .ok (.iadd, 1) := by decide +kernel
theorem d_Ro_fill_60 : decode c_Ro_fill 60 = .ok (.putfield 23, 3) := by decide +kernel
theorem d_Ro_fill_63 : decode c_Ro_fill 63 = .ok (.iinc 3 1, 3) := by decide +kernel
theorem d_Ro_fill_66 : decode c_Ro_fill 66 = .ok (.goto (-58), 3) := by decide +kernel
theorem d_Ro_fill_69 : decode c_Ro_fill 69 = .ok (.return_, 1) := by decide +kernel
theorem d_Ro_takeRow_0 : decode c_Ro_takeRow 0 = .ok (.aload_n 0, 1) := by decide +kernel
theorem d_Ro_takeRow_1 : decode c_Ro_takeRow 1 = .ok (.getfield 23, 3) := by decide +kernel
theorem d_Ro_takeRow_4 : decode c_Ro_takeRow 4 = .ok (.sipush 150, 3) := by decide +kernel
theorem d_Ro_takeRow_7 : decode c_Ro_takeRow 7 = .ok (.if_icmp .lt 4, 3) := by decide +kernel
theorem d_Ro_takeRow_10 : decode c_Ro_takeRow 10 = .ok (.return_, 1) := by decide +kernel
theorem d_Ro_takeRow_11 : decode c_Ro_takeRow 11 = .ok (.iconst 0, 1) := by decide +kernel
theorem d_Ro_takeRow_12 : decode c_Ro_takeRow 12 = .ok (.istore 4, 2) := by decide +kernel
theorem d_Ro_takeRow_14 : decode c_Ro_takeRow 14 = .ok (.iload 4, 2) := by decide +kernel
theorem d_Ro_takeRow_16 : decode c_Ro_takeRow 16 = .ok (.aload_n 0, 1) := by decide +kernel
theorem d_Ro_takeRow_17 : decode c_Ro_takeRow 17 = .ok (.getfield 19, 3) := by decide +kernel
theorem d_Ro_takeRow_20 : decode c_Ro_takeRow 20 = .ok (.if_icmp .ge 36, 3) := by decide +kernel
theorem d_Ro_takeRow_23 : decode c_Ro_takeRow 23 = .ok (.aload_n 0, 1) := by decide +kernel
theorem d_Ro_takeRow_24 : decode c_Ro_takeRow 24 = .ok (.getfield 9, 3) := by decide +kernel
theorem d_Ro_takeRow_27 : decode c_Ro_takeRow 27 = .ok (.aload_n 0, 1) := by decide +kernel
theorem d_Ro_takeRow_28 : decode c_Ro_takeRow 28 = .ok (.getfield 23, 3) := by decide +kernel
theorem d_Ro_takeRow_31 : decode c_Ro_takeRow 31 = .ok (.bipush 6, 2) := by decide +kernel
theorem d_Ro_takeRow_33 : decode c_Ro_takeRow 33 = .ok (.imul, 1) := by decide +kernel
theorem d_Ro_takeRow_34 : decode c_Ro_takeRow 34 = .ok (.iload 4, 2) := by decide +kernel
theorem d_Ro_takeRow_36 : decode c_Ro_takeRow 36 = .ok (.iadd, 1) := by decide +kernel
theorem d_Ro_takeRow_37 : decode c_Ro_takeRow 37 = .ok (.aload_n 2, 1) := by decide +kernel
theorem d_Ro_takeRow_38 : decode c_Ro_takeRow 38 = .ok (.iload_n 3, 1) := by decide +kernel
theorem d_Ro_takeRow_39 : decode c_Ro_takeRow 39 = .ok (.aload_n 1, 1) := by decide +kernel
theorem d_Ro_takeRow_40 : decode c_Ro_takeRow 40 = .ok (.getfield 64, 3) := by decide +kernel
theorem d_Ro_takeRow_43 : decode c_Ro_takeRow 43 = .ok (.iload 4, 2) := by decide +kernel
theorem d_Ro_takeRow_45 : decode c_Ro_takeRow 45 = .ok (.iaload, 1) := by decide +kernel
theorem d_Ro_takeRow_46 : decode c_Ro_takeRow 46 = .ok (.invokevirtual 67, 3) := by decide +kernel
theorem d_Ro_takeRow_49 : decode c_Ro_takeRow 49 = .ok (.lastore, 1) := by decide +kernel
theorem d_Ro_takeRow_50 : decode c_Ro_takeRow 50 = .ok (.iinc 4 1, 3) := by decide +kernel
theorem d_Ro_takeRow_53 : decode c_Ro_takeRow 53 = .ok (.goto (-39), 3) := by decide +kernel
theorem d_Ro_takeRow_56 : decode c_Ro_takeRow 56 = .ok (.return_, 1) := by decide +kernel
theorem d_Ro_isLastKnown_0 : decode c_Ro_isLastKnown 0 = .ok (.iconst 0, 1) := by decide +kernel
theorem d_Ro_isLastKnown_1 : decode c_Ro_isLastKnown 1 = .ok (.istore_n 1, 1) := by decide +kernel
theorem d_Ro_isLastKnown_2 : decode c_Ro_isLastKnown 2 = .ok (.iload_n 1, 1) := by decide +kernel
theorem d_Ro_isLastKnown_3 : decode c_Ro_isLastKnown 3 = .ok (.aload_n 0, 1) := by decide +kernel
theorem d_Ro_isLastKnown_4 : decode c_Ro_isLastKnown 4 = .ok (.getfield 23, 3) := by decide +kernel
theorem d_Ro_isLastKnown_7 : decode c_Ro_isLastKnown 7 = .ok (.if_icmp .ge 23, 3) := by decide +kernel
theorem d_Ro_isLastKnown_10 : decode c_Ro_isLastKnown 10 = .ok (.aload_n 0, 1) := by decide +kernel
theorem d_Ro_isLastKnown_11 : decode c_Ro_isLastKnown 11 = .ok (.iload_n 1, 1) := by decide +kernel
theorem d_Ro_isLastKnown_12 : decode c_Ro_isLastKnown 12 = .ok (.aload_n 0, 1) := by decide +kernel
theorem d_Ro_isLastKnown_13 : decode c_Ro_isLastKnown 13 = .ok (.getfield 23, 3) := by decide +kernel
theorem d_Ro_isLastKnown_16 : decode c_Ro_isLastKnown 16 = .ok (.invokevirtual 71, 3) := by decide +kernel
theorem d_Ro_isLastKnown_19 : decode c_Ro_isLastKnown 19 = .ok (.ifCond .eq 5, 3) := by decide +kernel
theorem d_Ro_isLastKnown_22 : decode c_Ro_isLastKnown 22 = .ok (.iconst 1, 1) := by decide +kernel
theorem d_Ro_isLastKnown_23 : decode c_Ro_isLastKnown 23 = .ok (.ireturn, 1) := by decide +kernel
theorem d_Ro_isLastKnown_24 : decode c_Ro_isLastKnown 24 = .ok (.iinc 1 1, 3) := by decide +kernel
theorem d_Ro_isLastKnown_27 : decode c_Ro_isLastKnown 27 = .ok (.goto (-25), 3) := by decide +kernel
theorem d_Ro_isLastKnown_30 : decode c_Ro_isLastKnown 30 = .ok (.iconst 0, 1) := by decide +kernel
theorem d_Ro_isLastKnown_31 : decode c_Ro_isLastKnown 31 = .ok (.ireturn, 1) := by decide +kernel
theorem d_Ro_isSameRow_0 : decode c_Ro_isSameRow 0 = .ok (.iload_n 1, 1) := by decide +kernel
theorem d_Ro_isSameRow_1 : decode c_Ro_isSameRow 1 = .ok (.sipush 150, 3) := by decide +kernel
theorem d_Ro_isSameRow_4 : decode c_Ro_isSameRow 4 = .ok (.if_icmp .ge 10, 3) := by decide +kernel
theorem d_Ro_isSameRow_7 : decode c_Ro_isSameRow 7 = .ok (.iload_n 2, 1) := by decide +kernel
theorem d_Ro_isSameRow_8 : decode c_Ro_isSameRow 8 = .ok (.sipush 150, 3) := by decide +kernel
theorem d_Ro_isSameRow_11 : decode c_Ro_isSameRow 11 = .ok (.if_icmp .lt 5, 3) := by decide +kernel
theorem d_Ro_isSameRow_14 : decode c_Ro_isSameRow 14 = .ok (.iconst 0, 1) := by decide +kernel
theorem d_Ro_isSameRow_15 : decode c_Ro_isSameRow 15 = .ok (.ireturn, 1) := by decide +kernel
theorem d_Ro_isSameRow_16 : decode c_Ro_isSameRow 16 = .ok (.iconst 0, 1) := by decide +kernel
theorem d_Ro_isSameRow_17 : decode c_Ro_isSameRow 17 = .ok (.istore_n 3, 1) := by decide +kernel
theorem d_Ro_isSameRow_18 : decode c_Ro_isSameRow 18 = .ok (.iload_n 3, 1) := by decide +kernel
theorem d_Ro_isSameRow_19 : decode c_Ro_isSameRow 19 = .ok (.aload_n 0, 1) := by decide +kernel
theorem d_Ro_isSameRow_20 : decode c_Ro_isSameRow 20 = .ok (.getfield 19, 3) := by decide +kernel
theorem d_Ro_isSameRow_23 : decode c_Ro_isSameRow 23 = .ok (.if_icmp .ge 37, 3) := by decide +kernel
theorem d_Ro_isSameRow_26 : decode c_Ro_isSameRow 26 = .ok (.aload_n 0, 1) := by decide +kernel
theorem d_Ro_isSameRow_27 : decode c_Ro_isSameRow 27 = .ok (.getfield 9, 3) := by decide +kernel
theorem d_Ro_isSameRow_30 : decode c_Ro_isSameRow 30 = .ok (.iload_n 1, 1) := by decide +kernel
theorem d_Ro_isSameRow_31 : decode c_Ro_isSameRow 31 = .ok (.bipush 6, 2) := by decide +kernel
theorem d_Ro_isSameRow_33 : decode c_Ro_isSameRow 33 = .ok (.imul, 1) := by decide +kernel
theorem d_Ro_isSameRow_34 : decode c_Ro_isSameRow 34 = .ok (.iload_n 3, 1) := by decide +kernel
theorem d_Ro_isSameRow_35 : decode c_Ro_isSameRow 35 = .ok (.iadd, 1) := by decide +kernel
theorem d_Ro_isSameRow_36 : decode c_Ro_isSameRow 36 = .ok (.laload, 1) := by decide +kernel
theorem d_Ro_isSameRow_37 : decode c_Ro_isSameRow 37 = .ok (.aload_n 0, 1) := by decide +kernel
theorem d_Ro_isSameRow_38 : decode c_Ro_isSameRow 38 = .ok (.getfield 9, 3) := by decide +kernel
theorem d_Ro_isSameRow_41 : decode c_Ro_isSameRow 41 = .ok (.iload_n 2, 1) := by decide +kernel
theorem d_Ro_isSameRow_42 : decode c_Ro_isSameRow 42 = .ok (.bipush 6, 2) := by decide +kernel
theorem d_Ro_isSameRow_44 : decode c_Ro_isSameRow 44 = .ok (.imul, 1) := by decide +kernel
theorem d_Ro_isSameRow_45 : decode c_Ro_isSameRow 45 = .ok (.iload_n 3, 1) := by decide +kernel
theorem d_Ro_isSameRow_46 : decode c_Ro_isSameRow 46 = .ok (.iadd, 1) := by decide +kernel
theorem d_Ro_isSameRow_47 : decode c_Ro_isSameRow 47 = .ok (.laload, 1) := by decide +kernel
theorem d_Ro_isSameRow_48 : decode c_Ro_isSameRow 48 = .ok (.lcmp, 1) := by decide +kernel
theorem d_Ro_isSameRow_49 : decode c_Ro_isSameRow 49 = .ok (.ifCond .eq 5, 3) := by decide +kernel
theorem d_Ro_isSameRow_52 : decode c_Ro_isSameRow 52 = .ok (.iconst 0, 1) := by decide +kernel
theorem d_Ro_isSameRow_53 : decode c_Ro_isSameRow 53 = .ok (.ireturn, 1) := by decide +kernel
theorem d_Ro_isSameRow_54 : decode c_Ro_isSameRow 54 = .ok (.iinc 3 1, 3) := by decide +kernel
theorem d_Ro_isSameRow_57 : decode c_Ro_isSameRow 57 = .ok (.goto (-39), 3) := by decide +kernel
theorem d_Ro_isSameRow_60 : decode c_Ro_isSameRow 60 = .ok (.iconst 1, 1) := by decide +kernel
theorem d_Ro_isSameRow_61 : decode c_Ro_isSameRow 61 = .ok (.ireturn, 1) := by decide +kernel
theorem d_Ro_sort_0 : decode c_Ro_sort 0 = .ok (.iconst 0, 1) := by decide +kernel
theorem d_Ro_sort_1 : decode c_Ro_sort 1 = .ok (.istore_n 3, 1) := by decide +kernel
theorem d_Ro_sort_2 : decode c_Ro_sort 2 = .ok (.iload_n 3, 1) := by decide +kernel
theorem d_Ro_sort_3 : decode c_Ro_sort 3 = .ok (.aload_n 2, 1) := by decide +kernel
theorem d_Ro_sort_4 : decode c_Ro_sort 4 = .ok (.invokevirtual 42, 3) := by decide +kernel
theorem d_Ro_sort_7 : decode c_Ro_sort 7 = .ok (.if_icmp .ge 66, 3) := by decide +kernel
theorem d_Ro_sort_10 : decode c_Ro_sort 10 = .ok (.iload_n 3, 1) := by decide +kernel
theorem d_Ro_sort_11 : decode c_Ro_sort 11 = .ok (.istore 4, 2) := by decide +kernel
theorem d_Ro_sort_13 : decode c_Ro_sort 13 = .ok (.iload 4, 2) := by decide +kernel
theorem d_Ro_sort_15 : decode c_Ro_sort 15 = .ok (.ifCond .le 44, 3) := by decide +kernel
theorem d_Ro_sort_18 : decode c_Ro_sort 18 = .ok (.aload_n 0, 1) := by decide +kernel
theorem d_Ro_sort_19 : decode c_Ro_sort 19 = .ok (.aload_n 1, 1) := by decide +kernel
theorem d_Ro_sort_20 : decode c_Ro_sort 20 = .ok (.aload_n 2, 1) := by decide +kernel
theorem d_Ro_sort_21 : decode c_Ro_sort 21 = .ok (.iload_n 3, 1) := by decide +kernel
theorem d_Ro_sort_22 : decode c_Ro_sort 22 = .ok (.aload_n 0, 1) := by decide +kernel
theorem d_Ro_sort_23 : decode c_Ro_sort 23 = .ok (.getfield 15, 3) := by decide +kernel
theorem d_Ro_sort_26 : decode c_Ro_sort 26 = .ok (.iload 4, 2) := by decide +kernel
theorem d_Ro_sort_28 : decode c_Ro_sort 28 = .ok (.iconst 1, 1) := by decide +kernel
theorem d_Ro_sort_29 : decode c_Ro_sort 29 = .ok (.isub, 1) := by decide +kernel
theorem d_Ro_sort_30 : decode c_Ro_sort 30 = .ok (.iaload, 1) := by decide +kernel
theorem d_Ro_sort_31 : decode c_Ro_sort 31 = .ok (.invokevirtual 74, 3) := by decide +kernel
theorem d_Ro_sort_34 : decode c_Ro_sort 34 = .ok (.ifCond .eq 25, 3) := by decide +kernel
theorem d_Ro_sort_37 : decode c_Ro_sort 37 = .ok (.aload_n 0, 1) := by decide +kernel
theorem d_Ro_sort_38 : decode c_Ro_sort 38 = .ok (.getfield 15, 3) := by decide +kernel
theorem d_Ro_sort_41 : decode c_Ro_sort 41 = .ok (.iload 4, 2) := by decide +kernel
theorem d_Ro_sort_43 : decode c_Ro_sort 43 = .ok (.aload_n 0, 1) := by decide +kernel
theorem d_Ro_sort_44 : decode c_Ro_sort 44 = .ok (.getfield 15, 3) := by decide +kernel
theorem d_Ro_sort_47 : decode c_Ro_sort 47 = .ok (.iload 4, 2) := by decide +kernel
theorem d_Ro_sort_49 : decode c_Ro_sort 49 = .ok (.iconst 1, 1) := by decide +kernel
theorem d_Ro_sort_50 : decode c_Ro_sort 50 = .ok (.isub, 1) := by decide +kernel
theorem d_Ro_sort_51 : decode c_Ro_sort 51 = .ok (.iaload, 1) := by decide +kernel
theorem d_Ro_sort_52 : decode c_Ro_sort 52 = .ok (.iastore, 1) := by decide +kernel
theorem d_Ro_sort_53 : decode c_Ro_sort 53 = .ok (.iinc 4 (-1), 3) := by decide +kernel
theorem d_Ro_sort_56 : decode c_Ro_sort 56 = .ok (.goto (-43), 3) := by decide +kernel
theorem d_Ro_sort_59 : decode c_Ro_sort 59 = .ok (.aload_n 0, 1) := by decide +kernel
theorem d_Ro_sort_60 : decode c_Ro_sort 60 = .ok (.getfield 15, 3) := by decide +kernel
theorem d_Ro_sort_63 : decode c_Ro_sort 63 = .ok (.iload 4, 2) := by decide +kernel
theorem d_Ro_sort_65 : decode c_Ro_sort 65 = .ok (.iload_n 3, 1) := by decide +kernel
theorem d_Ro_sort_66 : decode c_Ro_sort 66 = .ok (.iastore, 1) := by decide +kernel
theorem d_Ro_sort_67 : decode c_Ro_sort 67 = .ok (.iinc 3 1, 3) := by decide +kernel
theorem d_Ro_sort_70 : decode c_Ro_sort 70 = .ok (.goto (-68), 3) := by decide +kernel
theorem d_Ro_sort_73 : decode c_Ro_sort 73 = .ok (.return_, 1) := by decide +kernel
theorem d_Ro_standsBefore_0 : decode c_Ro_standsBefore 0 = .ok (.aload_n 2, 1) := by decide +kernel
theorem d_Ro_standsBefore_1 : decode c_Ro_standsBefore 1 = .ok (.iload_n 3, 1) := by decide +kernel
theorem d_Ro_standsBefore_2 : decode c_Ro_standsBefore 2 = .ok (.aload_n 1, 1) := by decide +kernel
theorem d_Ro_standsBefore_3 : decode c_Ro_standsBefore 3 = .ok (.getfield 78, 3) := by decide +kernel
theorem d_Ro_standsBefore_6 : decode c_Ro_standsBefore 6 = .ok (.invokevirtual 67, 3) := by decide +kernel
theorem d_Ro_standsBefore_9 : decode c_Ro_standsBefore 9 = .ok (.lstore 5, 2) := by decide +kernel
theorem d_Ro_standsBefore_11 : decode c_Ro_standsBefore 11 = .ok (.aload_n 2, 1) := by decide +kernel
theorem d_Ro_standsBefore_12 : decode c_Ro_standsBefore 12 = .ok (.iload 4, 2) := by decide +kernel
theorem d_Ro_standsBefore_14 : decode c_Ro_standsBefore 14 = .ok (.aload_n 1, 1) := by decide +kernel
theorem d_Ro_standsBefore_15 : decode c_Ro_standsBefore 15 = .ok (.getfield 78, 3) := by decide +kernel
theorem d_Ro_standsBefore_18 : decode c_Ro_standsBefore 18 = .ok (.invokevirtual 67, 3) := by decide +kernel
theorem d_Ro_standsBefore_21 : decode c_Ro_standsBefore 21 = .ok (.lstore 7, 2) := by decide +kernel
theorem d_Ro_standsBefore_23 : decode c_Ro_standsBefore 23 = .ok (.lload 5, 2) := by decide +kernel
theorem d_Ro_standsBefore_25 : decode c_Ro_standsBefore 25 = .ok (.lload 7, 2) := by decide +kernel
theorem d_Ro_standsBefore_27 : decode c_Ro_standsBefore 27 = .ok (.lcmp, 1) := by decide +kernel
theorem d_Ro_standsBefore_28 : decode c_Ro_standsBefore 28 = .ok (.ifCond .eq 40, 3) := by decide +kernel
theorem d_Ro_standsBefore_31 : decode c_Ro_standsBefore 31 = .ok (.aload_n 1, 1) := by decide +kernel
theorem d_Ro_standsBefore_32 : decode c_Ro_standsBefore 32 = .ok (.getfield 81, 3) := by decide +kernel
theorem d_Ro_standsBefore_35 : decode c_Ro_standsBefore 35 = .ok (.ifCond .eq 19, 3) := by decide +kernel
theorem d_Ro_standsBefore_38 : decode c_Ro_standsBefore 38 = .ok (.lload 5, 2) := by decide +kernel
theorem d_Ro_standsBefore_40 : decode c_Ro_standsBefore 40 = .ok (.lload 7, 2) := by decide +kernel
theorem d_Ro_standsBefore_42 : decode c_Ro_standsBefore 42 = .ok (.lcmp, 1) := by decide +kernel
theorem d_Ro_standsBefore_43 : decode c_Ro_standsBefore 43 = .ok (.ifCond .le 7, 3) := by decide +kernel
theorem d_Ro_standsBefore_46 : decode c_Ro_standsBefore 46 = .ok (.iconst 1, 1) := by decide +kernel
theorem d_Ro_standsBefore_47 : decode c_Ro_standsBefore 47 = .ok (.goto 20, 3) := by decide +kernel
theorem d_Ro_standsBefore_50 : decode c_Ro_standsBefore 50 = .ok (.iconst 0, 1) := by decide +kernel
theorem d_Ro_standsBefore_51 : decode c_Ro_standsBefore 51 = .ok (.goto 16, 3) := by decide +kernel
theorem d_Ro_standsBefore_54 : decode c_Ro_standsBefore 54 = .ok (.lload 5, 2) := by decide +kernel
theorem d_Ro_standsBefore_56 : decode c_Ro_standsBefore 56 = .ok (.lload 7, 2) := by decide +kernel
theorem d_Ro_standsBefore_58 : decode c_Ro_standsBefore 58 = .ok (.lcmp, 1) := by decide +kernel
theorem d_Ro_standsBefore_59 : decode c_Ro_standsBefore 59 = .ok (.ifCond .ge 7, 3) := by decide +kernel
theorem d_Ro_standsBefore_62 : decode c_Ro_standsBefore 62 = .ok (.iconst 1, 1) := by decide +kernel
theorem d_Ro_standsBefore_63 : decode c_Ro_standsBefore 63 = .ok (.goto 4, 3) := by decide +kernel
theorem d_Ro_standsBefore_66 : decode c_Ro_standsBefore 66 = .ok (.iconst 0, 1) := by decide +kernel
theorem d_Ro_standsBefore_67 : decode c_Ro_standsBefore 67 = .ok (.ireturn, 1) := by decide +kernel
theorem d_Ro_standsBefore_68 : decode c_Ro_standsBefore 68 = .ok (.iconst 0, 1) := by decide +kernel
theorem d_Ro_standsBefore_69 : decode c_Ro_standsBefore 69 = .ok (.istore 9, 2) := by decide +kernel
theorem d_Ro_standsBefore_71 : decode c_Ro_standsBefore 71 = .ok (.iload 9, 2) := by decide +kernel
theorem d_Ro_standsBefore_73 : decode c_Ro_standsBefore 73 = .ok (.aload_n 0, 1) := by decide +kernel
theorem d_Ro_standsBefore_74 : decode c_Ro_standsBefore 74 = .ok (.getfield 19, 3) := by decide +kernel
theorem d_Ro_standsBefore_77 : decode c_Ro_standsBefore 77 = .ok (.if_icmp .ge 60, 3) := by decide +kernel
theorem d_Ro_standsBefore_80 : decode c_Ro_standsBefore 80 = .ok (.aload_n 2, 1) := by decide +kernel
theorem d_Ro_standsBefore_81 : decode c_Ro_standsBefore 81 = .ok (.iload_n 3, 1) := by decide +kernel
theorem d_Ro_standsBefore_82 : decode c_Ro_standsBefore 82 = .ok (.aload_n 1, 1) := by decide +kernel
theorem d_Ro_standsBefore_83 : decode c_Ro_standsBefore 83 = .ok (.getfield 64, 3) := by decide +kernel
theorem d_Ro_standsBefore_86 : decode c_Ro_standsBefore 86 = .ok (.iload 9, 2) := by decide +kernel
theorem d_Ro_standsBefore_88 : decode c_Ro_standsBefore 88 = .ok (.iaload, 1) := by decide +kernel
theorem d_Ro_standsBefore_89 : decode c_Ro_standsBefore 89 = .ok (.invokevirtual 67, 3) := by decide +kernel
theorem d_Ro_standsBefore_92 : decode c_Ro_standsBefore 92 = .ok (.lstore 5, 2) := by decide +kernel
theorem d_Ro_standsBefore_94 : decode c_Ro_standsBefore 94 = .ok (.aload_n 2, 1) := by decide +kernel
theorem d_Ro_standsBefore_95 : decode c_Ro_standsBefore 95 = .ok (.iload 4, 2) := by decide +kernel
theorem d_Ro_standsBefore_97 : decode c_Ro_standsBefore 97 = .ok (.aload_n 1, 1) := by decide +kernel
theorem d_Ro_standsBefore_98 : decode c_Ro_standsBefore 98 = .ok (.getfield 64, 3) := by decide +kernel
theorem d_Ro_standsBefore_101 : decode c_Ro_standsBefore 101 = .ok (.iload 9, 2) := by decide +kernel
theorem d_Ro_standsBefore_103 : decode c_Ro_standsBefore 103 = .ok (.iaload, 1) := by decide +kernel
theorem d_Ro_standsBefore_104 : decode c_Ro_standsBefore 104 = .ok (.invokevirtual 67, 3) := by decide +kernel
theorem d_Ro_standsBefore_107 : decode c_Ro_standsBefore 107 = .ok (.lstore 7, 2) := by decide +kernel
theorem d_Ro_standsBefore_109 : decode c_Ro_standsBefore 109 = .ok (.lload 5, 2) := by decide +kernel
theorem d_Ro_standsBefore_111 : decode c_Ro_standsBefore 111 = .ok (.lload 7, 2) := by decide +kernel
theorem d_Ro_standsBefore_113 : decode c_Ro_standsBefore 113 = .ok (.lcmp, 1) := by decide +kernel
theorem d_Ro_standsBefore_114 : decode c_Ro_standsBefore 114 = .ok (.ifCond .eq 17, 3) := by decide +kernel
theorem d_Ro_standsBefore_117 : decode c_Ro_standsBefore 117 = .ok (.lload 5, 2) := by decide +kernel
theorem d_Ro_standsBefore_119 : decode c_Ro_standsBefore 119 = .ok (.lload 7, 2) := by decide +kernel
theorem d_Ro_standsBefore_121 : decode c_Ro_standsBefore 121 = .ok (.lcmp, 1) := by decide +kernel
theorem d_Ro_standsBefore_122 : decode c_Ro_standsBefore 122 = .ok (.ifCond .ge 7, 3) := by decide +kernel
theorem d_Ro_standsBefore_125 : decode c_Ro_standsBefore 125 = .ok (.iconst 1, 1) := by decide +kernel
theorem d_Ro_standsBefore_126 : decode c_Ro_standsBefore 126 = .ok (.goto 4, 3) := by decide +kernel
theorem d_Ro_standsBefore_129 : decode c_Ro_standsBefore 129 = .ok (.iconst 0, 1) := by decide +kernel
theorem d_Ro_standsBefore_130 : decode c_Ro_standsBefore 130 = .ok (.ireturn, 1) := by decide +kernel
theorem d_Ro_standsBefore_131 : decode c_Ro_standsBefore 131 = .ok (.iinc 9 1, 3) := by decide +kernel
theorem d_Ro_standsBefore_134 : decode c_Ro_standsBefore 134 = .ok (.goto (-63), 3) := by decide +kernel
theorem d_Ro_standsBefore_137 : decode c_Ro_standsBefore 137 = .ok (.iconst 0, 1) := by decide +kernel
theorem d_Ro_standsBefore_138 : decode c_Ro_standsBefore 138 = .ok (.ireturn, 1) := by decide +kernel
theorem d_Sv_init_0 : decode c_Sv_init 0 = .ok (.aload_n 0, 1) := by decide +kernel
theorem d_Sv_init_1 : decode c_Sv_init 1 = .ok (.invokespecial 3, 3) := by decide +kernel
theorem d_Sv_init_4 : decode c_Sv_init 4 = .ok (.aload_n 0, 1) := by decide +kernel
theorem d_Sv_init_5 : decode c_Sv_init 5 = .ok (.iconst 4, 1) := by decide +kernel
theorem d_Sv_init_6 : decode c_Sv_init 6 = .ok (.anewarray 9, 3) := by decide +kernel
theorem d_Sv_init_9 : decode c_Sv_init 9 = .ok (.putfield 11, 3) := by decide +kernel
theorem d_Sv_init_12 : decode c_Sv_init 12 = .ok (.aload_n 0, 1) := by decide +kernel
theorem d_Sv_init_13 : decode c_Sv_init 13 = .ok (.iconst 4, 1) := by decide +kernel
theorem d_Sv_init_14 : decode c_Sv_init 14 = .ok (.anewarray 9, 3) := by decide +kernel
theorem d_Sv_init_17 : decode c_Sv_init 17 = .ok (.putfield 17, 3) := by decide +kernel
theorem d_Sv_init_20 : decode c_Sv_init 20 = .ok (.aload_n 0, 1) := by decide +kernel
theorem d_Sv_init_21 : decode c_Sv_init 21 = .ok (.bipush 6, 2) := by decide +kernel
theorem d_Sv_init_23 : decode c_Sv_init 23 = .ok (.newarray .long, 2) := by decide +kernel
theorem d_Sv_init_25 : decode c_Sv_init 25 = .ok (.putfield 20, 3) := by decide +kernel
theorem d_Sv_init_28 : decode c_Sv_init 28 = .ok (.aload_n 0, 1) := by decide +kernel
theorem d_Sv_init_29 : decode c_Sv_init 29 = .ok (.aload_n 1, 1) := by decide +kernel
theorem d_Sv_init_30 : decode c_Sv_init 30 = .ok (.putfield 24, 3) := by decide +kernel
theorem d_Sv_init_33 : decode c_Sv_init 33 = .ok (.aload_n 0, 1) := by decide +kernel
theorem d_Sv_init_34 : decode c_Sv_init 34 = .ok (.aload_n 2, 1) := by decide +kernel
theorem d_Sv_init_35 : decode c_Sv_init 35 = .ok (.putfield 28, 3) := by decide +kernel
theorem d_Sv_init_38 : decode c_Sv_init 38 = .ok (.iconst 0, 1) := by decide +kernel
theorem d_Sv_init_39 : decode c_Sv_init 39 = .ok (.istore_n 3, 1) := by decide +kernel
theorem d_Sv_init_40 : decode c_Sv_init 40 = .ok (.iload_n 3, 1) := by decide +kernel
theorem d_Sv_init_41 : decode c_Sv_init 41 = .ok (.iconst 4, 1) := by decide +kernel
theorem d_Sv_init_42 : decode c_Sv_init 42 = .ok (.if_icmp .ge 35, 3) := by decide +kernel
theorem d_Sv_init_45 : decode c_Sv_init 45 = .ok (.aload_n 0, 1) := by decide +kernel
theorem d_Sv_init_46 : decode c_Sv_init 46 = .ok (.getfield 11, 3) := by decide +kernel
theorem d_Sv_init_49 : decode c_Sv_init 49 = .ok (.iload_n 3, 1) := by decide +kernel
theorem d_Sv_init_50 : decode c_Sv_init 50 = .ok (.new 9, 3) := by decide +kernel
theorem d_Sv_init_53 : decode c_Sv_init 53 = .ok (.dup, 1) := by decide +kernel
theorem d_Sv_init_54 : decode c_Sv_init 54 = .ok (.invokespecial 32, 3) := by decide +kernel
theorem d_Sv_init_57 : decode c_Sv_init 57 = .ok (.aastore, 1) := by decide +kernel
theorem d_Sv_init_58 : decode c_Sv_init 58 = .ok (.aload_n 0, 1) := by decide +kernel
theorem d_Sv_init_59 : decode c_Sv_init 59 = .ok (.getfield 17, 3) := by decide +kernel
theorem d_Sv_init_62 : decode c_Sv_init 62 = .ok (.iload_n 3, 1) := by decide +kernel
theorem d_Sv_init_63 : decode c_Sv_init 63 = .ok (.new 9, 3) := by decide +kernel
theorem d_Sv_init_66 : decode c_Sv_init 66 = .ok (.dup, 1) := by decide +kernel
theorem d_Sv_init_67 : decode c_Sv_init 67 = .ok (.invokespecial 32, 3) := by decide +kernel
theorem d_Sv_init_70 : decode c_Sv_init 70 = .ok (.aastore, 1) := by decide +kernel
theorem d_Sv_init_71 : decode c_Sv_init 71 = .ok (.iinc 3 1, 3) := by decide +kernel
theorem d_Sv_init_74 : decode c_Sv_init 74 = .ok (.goto (-34), 3) := by decide +kernel
theorem d_Sv_init_77 : decode c_Sv_init 77 = .ok (.return_, 1) := by decide +kernel
theorem d_Sv_solutions_0 : decode c_Sv_solutions 0 = .ok (.aload_n 0, 1) := by decide +kernel
theorem d_Sv_solutions_1 : decode c_Sv_solutions 1 = .ok (.getfield 11, 3) := by decide +kernel
theorem d_Sv_solutions_4 : decode c_Sv_solutions 4 = .ok (.iconst 0, 1) := by decide +kernel
theorem d_Sv_solutions_5 : decode c_Sv_solutions 5 = .ok (.aaload, 1) := by decide +kernel
theorem d_Sv_solutions_6 : decode c_Sv_solutions 6 = .ok (.areturn, 1) := by decide +kernel
theorem d_Sv_solveGroup_0 : decode c_Sv_solveGroup 0 = .ok (.iload_n 2, 1) := by decide +kernel
theorem d_Sv_solveGroup_1 : decode c_Sv_solveGroup 1 = .ok (.ifCond .lt 8, 3) := by decide +kernel
theorem d_Sv_solveGroup_4 : decode c_Sv_solveGroup 4 = .ok (.iload_n 2, 1) := by decide +kernel
theorem d_Sv_solveGroup_5 : decode c_Sv_solveGroup 5 = .ok (.iconst 4, 1) := by decide +kernel
theorem d_Sv_solveGroup_6 : decode c_Sv_solveGroup 6 = .ok (.if_icmp .lt 5, 3) := by decide +kernel
theorem d_Sv_solveGroup_9 : decode c_Sv_solveGroup 9 = .ok (.iconst 0, 1) := by decide +kernel
theorem d_Sv_solveGroup_10 : decode c_Sv_solveGroup 10 = .ok (.ireturn, 1) := by decide +kernel
theorem d_Sv_solveGroup_11 : decode c_Sv_solveGroup 11 = .ok (.aload_n 0, 1) := by decide +kernel
theorem d_Sv_solveGroup_12 : decode c_Sv_solveGroup 12 = .ok (.getfield 20, 3) := by decide +kernel
theorem d_Sv_solveGroup_15 : decode c_Sv_solveGroup 15 = .ok (.lconst 0, 1) := by decide +kernel
theorem d_Sv_solveGroup_16 : decode c_Sv_solveGroup 16 = .ok (.invokestatic 35, 3) := by decide +kernel
theorem d_Sv_solveGroup_19 : decode c_Sv_solveGroup 19 = .ok (.aload_n 0, 1) := by decide +kernel
theorem d_Sv_solveGroup_20 : decode c_Sv_solveGroup 20 = .ok (.getfield 11, 3) := by decide +kernel
theorem d_Sv_solveGroup_23 : decode c_Sv_solveGroup 23 = .ok (.iload_n 2, 1) := by decide +kernel
theorem d_Sv_solveGroup_24 : decode c_Sv_solveGroup 24 = .ok (.aaload, 1) := by decide +kernel
theorem d_Sv_solveGroup_25 : decode c_Sv_solveGroup 25 = .ok (.invokevirtual 41, 3) := by decide +kernel
theorem d_Sv_solveGroup_28 : decode c_Sv_solveGroup 28 = .ok (.aload_n 0, 1) := by decide +kernel
theorem d_Sv_solveGroup_29 : decode c_Sv_solveGroup 29 = .ok (.getfield 11, 3) := by decide +kernel
theorem d_Sv_solveGroup_32 : decode c_Sv_solveGroup 32 = .ok (.iload_n 2, 1) := by decide +kernel
theorem d_Sv_solveGroup_33 : decode c_Sv_solveGroup 33 = .ok (.aaload, 1) := by decide +kernel
theorem d_Sv_solveGroup_34 : decode c_Sv_solveGroup 34 = .ok (.aload_n 0, 1) := by decide +kernel
theorem d_Sv_solveGroup_35 : decode c_Sv_solveGroup 35 = .ok (.getfield 20, 3) := by decide +kernel
theorem d_Sv_solveGroup_38 : decode c_Sv_solveGroup 38 = .ok (.invokevirtual 44, 3) := by decide +kernel
theorem d_Sv_solveGroup_41 : decode c_Sv_solveGroup 41 = .ok (.pop, 1) := by decide +kernel
theorem d_Sv_solveGroup_42 : decode c_Sv_solveGroup 42 = .ok (.iconst 0, 1) := by decide +kernel
theorem d_Sv_solveGroup_43 : decode c_Sv_solveGroup 43 = .ok (.istore_n 3, 1) := by decide +kernel
theorem d_Sv_solveGroup_44 : decode c_Sv_solveGroup 44 = .ok (.iload_n 3, 1) := by decide +kernel
theorem d_Sv_solveGroup_45 : decode c_Sv_solveGroup 45 = .ok (.aload_n 0, 1) := by decide +kernel
theorem d_Sv_solveGroup_46 : decode c_Sv_solveGroup 46 = .ok (.getfield 28, 3) := by decide +kernel
theorem d_Sv_solveGroup_49 : decode c_Sv_solveGroup 49 = .ok (.getfield 48, 3) := by decide +kernel
theorem d_Sv_solveGroup_52 : decode c_Sv_solveGroup 52 = .ok (.if_icmp .ge 109, 3) := by decide +kernel
theorem d_Sv_solveGroup_55 : decode c_Sv_solveGroup 55 = .ok (.aload_n 0, 1) := by decide +kernel
theorem d_Sv_solveGroup_56 : decode c_Sv_solveGroup 56 = .ok (.getfield 28, 3) := by decide +kernel
theorem d_Sv_solveGroup_59 : decode c_Sv_solveGroup 59 = .ok (.getfield 54, 3) := by decide +kernel
theorem d_Sv_solveGroup_62 : decode c_Sv_solveGroup 62 = .ok (.iload_n 3, 1) := by decide +kernel
theorem d_Sv_solveGroup_63 : decode c_Sv_solveGroup 63 = .ok (.aaload, 1) := by decide +kernel
theorem d_Sv_solveGroup_64 : decode c_Sv_solveGroup 64 = .ok (.getfield 58, 3) := by decide +kernel
theorem d_Sv_solveGroup_67 : decode c_Sv_solveGroup 67 = .ok (.istore 4, 2) := by decide +kernel
theorem d_Sv_solveGroup_69 : decode c_Sv_solveGroup 69 = .ok (.aload_n 0, 1) := by decide +kernel
theorem d_Sv_solveGroup_70 : decode c_Sv_solveGroup 70 = .ok (.getfield 28, 3) := by decide +kernel
theorem d_Sv_solveGroup_73 : decode c_Sv_solveGroup 73 = .ok (.getfield 54, 3) := by decide +kernel
theorem d_Sv_solveGroup_76 : decode c_Sv_solveGroup 76 = .ok (.iload_n 3, 1) := by decide +kernel
theorem d_Sv_solveGroup_77 : decode c_Sv_solveGroup 77 = .ok (.aaload, 1) := by decide +kernel
theorem d_Sv_solveGroup_78 : decode c_Sv_solveGroup 78 = .ok (.getfield 63, 3) := by decide +kernel
theorem d_Sv_solveGroup_81 : decode c_Sv_solveGroup 81 = .ok (.iload_n 1, 1) := by decide +kernel
theorem d_Sv_solveGroup_82 : decode c_Sv_solveGroup 82 = .ok (.if_icmp .ne 73, 3) := by decide +kernel
theorem d_Sv_solveGroup_85 : decode c_Sv_solveGroup 85 = .ok (.iload 4, 2) := by decide +kernel
theorem d_Sv_solveGroup_87 : decode c_Sv_solveGroup 87 = .ok (.iconst 1, 1) := by decide +kernel
theorem d_Sv_solveGroup_88 : decode c_Sv_solveGroup 88 = .ok (.if_icmp .eq 67, 3) := by decide +kernel
theorem d_Sv_solveGroup_91 : decode c_Sv_solveGroup 91 = .ok (.aload_n 0, 1) := by decide +kernel
theorem d_Sv_solveGroup_92 : decode c_Sv_solveGroup 92 = .ok (.getfield 17, 3) := by decide +kernel
theorem d_Sv_solveGroup_95 : decode c_Sv_solveGroup 95 = .ok (.iload_n 2, 1) := by decide +kernel
theorem d_Sv_solveGroup_96 : decode c_Sv_solveGroup 96 = .ok (.aaload, 1) := by decide +kernel
theorem d_Sv_solveGroup_97 : decode c_Sv_solveGroup 97 = .ok (.invokevirtual 41, 3) := by decide +kernel
theorem d_Sv_solveGroup_100 : decode c_Sv_solveGroup 100 = .ok (.iload 4, 2) := by decide +kernel
theorem d_Sv_solveGroup_102 : decode c_Sv_solveGroup 102 = .ok (.ifCond .ne 31, 3) := by decide +kernel
theorem d_Sv_solveGroup_105 : decode c_Sv_solveGroup 105 = .ok (.aload_n 0, 1) := by decide +kernel
theorem d_Sv_solveGroup_106 : decode c_Sv_solveGroup 106 = .ok (.aload_n 0, 1) := by decide +kernel
theorem d_Sv_solveGroup_107 : decode c_Sv_solveGroup 107 = .ok (.getfield 28, 3) := by decide +kernel
theorem d_Sv_solveGroup_110 : decode c_Sv_solveGroup 110 = .ok (.getfield 54, 3) := by decide +kernel
theorem d_Sv_solveGroup_113 : decode c_Sv_solveGroup 113 = .ok (.iload_n 3, 1) := by decide +kernel
theorem d_Sv_solveGroup_114 : decode c_Sv_solveGroup 114 = .ok (.aaload, 1) := by decide +kernel
theorem d_Sv_solveGroup_115 : decode c_Sv_solveGroup 115 = .ok (.aload_n 0, 1) := by decide +kernel
theorem d_Sv_solveGroup_116 : decode c_Sv_solveGroup 116 = .ok (.getfield 11, 3) := by decide +kernel
theorem d_Sv_solveGroup_119 : decode c_Sv_solveGroup 119 = .ok (.iload_n 2, 1) := by decide +kernel
theorem d_Sv_solveGroup_120 : decode c_Sv_solveGroup 120 = .ok (.aaload, 1) := by decide +kernel
theorem d_Sv_solveGroup_121 : decode c_Sv_solveGroup 121 = .ok (.aload_n 0, 1) := by decide +kernel
theorem d_Sv_solveGroup_122 : decode c_Sv_solveGroup 122 = .ok (.getfield 17, 3) := by decide +kernel
theorem d_Sv_solveGroup_125 : decode c_Sv_solveGroup 125 = .ok (.iload_n 2, 1) := by decide +kernel
theorem d_Sv_solveGroup_126 : decode c_Sv_solveGroup 126 = .ok (.aaload, 1) := by decide +kernel
theorem d_Sv_solveGroup_127 : decode c_Sv_solveGroup 127 = .ok (.invokevirtual 66, 3) := by decide +kernel
theorem d_Sv_solveGroup_130 : decode c_Sv_solveGroup 130 = .ok (.goto 11, 3) := by decide +kernel
theorem d_Sv_solveGroup_133 : decode c_Sv_solveGroup 133 = .ok (.aload_n 0, 1) := by decide +kernel
theorem d_Sv_solveGroup_134 : decode c_Sv_solveGroup 134 = .ok (.iload_n 3, 1) := by decide +kernel
theorem d_Sv_solveGroup_135 : decode c_Sv_solveGroup 135 = .ok (.iload 4, 2) := by decide +kernel
theorem d_Sv_solveGroup_137 : decode c_Sv_solveGroup 137 = .ok (.iload_n 2, 1) := by decide +kernel
theorem d_Sv_solveGroup_138 : decode c_Sv_solveGroup 138 = .ok (.invokevirtual 70, 3) := by decide +kernel
theorem d_Sv_solveGroup_141 : decode c_Sv_solveGroup 141 = .ok (.istore 5, 2) := by decide +kernel
theorem d_Sv_solveGroup_143 : decode c_Sv_solveGroup 143 = .ok (.iload 5, 2) := by decide +kernel
theorem d_Sv_solveGroup_145 : decode c_Sv_solveGroup 145 = .ok (.ifCond .ne 5, 3) := by decide +kernel
theorem d_Sv_solveGroup_148 : decode c_Sv_solveGroup 148 = .ok (.iconst 0, 1) := by decide +kernel
theorem d_Sv_solveGroup_149 : decode c_Sv_solveGroup 149 = .ok (.ireturn, 1) := by decide +kernel
theorem d_Sv_solveGroup_150 : decode c_Sv_solveGroup 150 = .ok (.aload_n 0, 1) := by decide +kernel
theorem d_Sv_solveGroup_151 : decode c_Sv_solveGroup 151 = .ok (.iload_n 2, 1) := by decide +kernel
theorem d_Sv_solveGroup_152 : decode c_Sv_solveGroup 152 = .ok (.invokevirtual 74, 3) := by decide +kernel
theorem d_Sv_solveGroup_155 : decode c_Sv_solveGroup 155 = .ok (.iinc 3 1, 3) := by decide +kernel
theorem d_Sv_solveGroup_158 : decode c_Sv_solveGroup 158 = .ok (.goto (-114), 3) := by decide +kernel
theorem d_Sv_solveGroup_161 : decode c_Sv_solveGroup 161 = .ok (.aload_n 0, 1) := by decide +kernel
theorem d_Sv_solveGroup_162 : decode c_Sv_solveGroup 162 = .ok (.getfield 17, 3) := by decide +kernel
theorem d_Sv_solveGroup_165 : decode c_Sv_solveGroup 165 = .ok (.iload_n 2, 1) := by decide +kernel
theorem d_Sv_solveGroup_166 : decode c_Sv_solveGroup 166 = .ok (.aaload, 1) := by decide +kernel
theorem d_Sv_solveGroup_167 : decode c_Sv_solveGroup 167 = .ok (.invokevirtual 41, 3) := by decide +kernel
theorem d_Sv_solveGroup_170 : decode c_Sv_solveGroup 170 = .ok (.aload_n 0, 1) := by decide +kernel
theorem d_Sv_solveGroup_171 : decode c_Sv_solveGroup 171 = .ok (.iload_n 1, 1) := by decide +kernel
theorem d_Sv_solveGroup_172 : decode c_Sv_solveGroup 172 = .ok (.aload_n 0, 1) := by decide +kernel
theorem d_Sv_solveGroup_173 : decode c_Sv_solveGroup 173 = .ok (.getfield 11, 3) := by decide +kernel
theorem d_Sv_solveGroup_176 : decode c_Sv_solveGroup 176 = .ok (.iload_n 2, 1) := by decide +kernel
theorem d_Sv_solveGroup_177 : decode c_Sv_solveGroup 177 = .ok (.aaload, 1) := by decide +kernel
theorem d_Sv_solveGroup_178 : decode c_Sv_solveGroup 178 = .ok (.aload_n 0, 1) := by decide +kernel
theorem d_Sv_solveGroup_179 : decode c_Sv_solveGroup 179 = .ok (.getfield 17, 3) := by decide +kernel
theorem d_Sv_solveGroup_182 : decode c_Sv_solveGroup 182 = .ok (.iload_n 2, 1) := by decide +kernel
theorem d_Sv_solveGroup_183 : decode c_Sv_solveGroup 183 = .ok (.aaload, 1) := by decide +kernel
theorem d_Sv_solveGroup_184 : decode c_Sv_solveGroup 184 = .ok (.invokevirtual 78, 3) := by decide +kernel
theorem d_Sv_solveGroup_187 : decode c_Sv_solveGroup 187 = .ok (.aload_n 0, 1) := by decide +kernel
theorem d_Sv_solveGroup_188 : decode c_Sv_solveGroup 188 = .ok (.iload_n 2, 1) := by decide +kernel
theorem d_Sv_solveGroup_189 : decode c_Sv_solveGroup 189 = .ok (.invokevirtual 74, 3) := by decide +kernel
theorem d_Sv_solveGroup_192 : decode c_Sv_solveGroup 192 = .ok (.iconst 1, 1) := by decide +kernel
theorem d_Sv_solveGroup_193 : decode c_Sv_solveGroup 193 = .ok (.ireturn, 1) := by decide +kernel
theorem d_Sv_turn_0 : decode c_Sv_turn 0 = .ok (.aload_n 0, 1) := by decide +kernel
theorem d_Sv_turn_1 : decode c_Sv_turn 1 = .ok (.getfield 11, 3) := by decide +kernel
theorem d_Sv_turn_4 : decode c_Sv_turn 4 = .ok (.iload_n 1, 1) := by decide +kernel
theorem d_Sv_turn_5 : decode c_Sv_turn 5 = .ok (.aaload, 1) := by decide +kernel
theorem d_Sv_turn_6 : decode c_Sv_turn 6 = .ok (.astore_n 2, 1) := by decide +kernel
theorem d_Sv_turn_7 : decode c_Sv_turn 7 = .ok (.aload_n 0, 1) := by decide +kernel
theorem d_Sv_turn_8 : decode c_Sv_turn 8 = .ok (.getfield 11, 3) := by decide +kernel
theorem d_Sv_turn_11 : decode c_Sv_turn 11 = .ok (.iload_n 1, 1) := by decide +kernel
theorem d_Sv_turn_12 : decode c_Sv_turn 12 = .ok (.aload_n 0, 1) := by decide +kernel
theorem d_Sv_turn_13 : decode c_Sv_turn 13 = .ok (.getfield 17, 3) := by decide +kernel
theorem d_Sv_turn_16 : decode c_Sv_turn 16 = .ok (.iload_n 1, 1) := by decide +kernel
theorem d_Sv_turn_17 : decode c_Sv_turn 17 = .ok (.aaload, 1) := by decide +kernel
theorem d_Sv_turn_18 : decode c_Sv_turn 18 = .ok (.aastore, 1) := by decide +kernel
theorem d_Sv_turn_19 : decode c_Sv_turn 19 = .ok (.aload_n 0, 1) := by decide +kernel
theorem d_Sv_turn_20 : decode c_Sv_turn 20 = .ok (.getfield 17, 3) := by decide +kernel
theorem d_Sv_turn_23 : decode c_Sv_turn 23 = .ok (.iload_n 1, 1) := by decide +kernel
theorem d_Sv_turn_24 : decode c_Sv_turn 24 = .ok (.aload_n 2, 1) := by decide +kernel
theorem d_Sv_turn_25 : decode c_Sv_turn 25 = .ok (.aastore, 1) := by decide +kernel
theorem d_Sv_turn_26 : decode c_Sv_turn 26 = .ok (.return_, 1) := by decide +kernel
theorem d_Sv_joinPattern_0 : decode c_Sv_joinPattern 0 = .ok (.iconst 0, 1) := by decide +kernel
theorem d_Sv_joinPattern_1 : decode c_Sv_joinPattern 1 = .ok (.istore 4, 2) := by decide +kernel
theorem d_Sv_joinPattern_3 : decode c_Sv_joinPattern 3 = .ok (.iload 4, 2) := by decide +kernel
theorem d_Sv_joinPattern_5 : decode c_Sv_joinPattern 5 = .ok (.aload_n 2, 1) := by decide +kernel
theorem d_Sv_joinPattern_6 : decode c_Sv_joinPattern 6 = .ok (.invokevirtual 82, 3) := by decide +kernel
theorem d_Sv_joinPattern_9 : decode c_Sv_joinPattern 9 = .ok (.if_icmp .ge 63, 3) := by decide +kernel
theorem d_Sv_joinPattern_12 : decode c_Sv_joinPattern 12 = .ok (.iconst 0, 1) := by decide +kernel
theorem d_Sv_joinPattern_13 : decode c_Sv_joinPattern 13 = .ok (.istore 5, 2) := by decide +kernel
theorem d_Sv_joinPattern_15 : decode c_Sv_joinPattern 15 = .ok (.iload 5, 2) := by decide +kernel
theorem d_Sv_joinPattern_17 : decode c_Sv_joinPattern 17 = .ok (.aload_n 0, 1) := by decide +kernel
theorem d_Sv_joinPattern_18 : decode c_Sv_joinPattern 18 = .ok (.getfield 24, 3) := by decide +kernel
theorem d_Sv_joinPattern_21 : decode c_Sv_joinPattern 21 = .ok (.invokevirtual 86, 3) := by decide +kernel
theorem d_Sv_joinPattern_24 : decode c_Sv_joinPattern 24 = .ok (.if_icmp .ge 42, 3) := by decide +kernel
theorem d_Sv_joinPattern_27 : decode c_Sv_joinPattern 27 = .ok (.aload_n 2, 1) := by decide +kernel
theorem d_Sv_joinPattern_28 : decode c_Sv_joinPattern 28 = .ok (.iload 4, 2) := by decide +kernel
theorem d_Sv_joinPattern_30 : decode c_Sv_joinPattern 30 = .ok (.aload_n 0, 1) := by decide +kernel
theorem d_Sv_joinPattern_31 : decode c_Sv_joinPattern 31 = .ok (.getfield 20, 3) := by decide +kernel
theorem d_Sv_joinPattern_34 : decode c_Sv_joinPattern 34 = .ok (.invokevirtual 89, 3) := by decide +kernel
theorem d_Sv_joinPattern_37 : decode c_Sv_joinPattern 37 = .ok (.aload_n 0, 1) := by decide +kernel
theorem d_Sv_joinPattern_38 : decode c_Sv_joinPattern 38 = .ok (.aload_n 1, 1) := by decide +kernel
theorem d_Sv_joinPattern_39 : decode c_Sv_joinPattern 39 = .ok (.iload 5, 2) := by decide +kernel
theorem d_Sv_joinPattern_41 : decode c_Sv_joinPattern 41 = .ok (.invokevirtual 93, 3) := by decide +kernel
theorem d_Sv_joinPattern_44 : decode c_Sv_joinPattern 44 = .ok (.ifCond .eq 16, 3) := by decide +kernel
theorem d_Sv_joinPattern_47 : decode c_Sv_joinPattern 47 = .ok (.aload_n 3, 1) := by decide +kernel
theorem d_Sv_joinPattern_48 : decode c_Sv_joinPattern 48 = .ok (.aload_n 0, 1) := by decide +kernel
theorem d_Sv_joinPattern_49 : decode c_Sv_joinPattern 49 = .ok (.getfield 20, 3) := by decide +kernel
theorem d_Sv_joinPattern_52 : decode c_Sv_joinPattern 52 = .ok (.invokevirtual 44, 3) := by decide +kernel
theorem d_Sv_joinPattern_55 : decode c_Sv_joinPattern 55 = .ok (.ifCond .ne 5, 3) := by decide +kernel
theorem d_Sv_joinPattern_58 : decode c_Sv_joinPattern 58 = .ok (.iconst 0, 1) := by decide +kernel
theorem d_Sv_joinPattern_59 : decode c_Sv_joinPattern 59 = .ok (.ireturn, 1) := by decide +kernel
theorem d_Sv_joinPattern_60 : decode c_Sv_joinPattern 60 = .ok (.iinc 5 1, 3) := by decide +kernel
theorem d_Sv_joinPattern_63 : decode c_Sv_joinPattern 63 = .ok (.goto (-48), 3) := by decide +kernel
theorem d_Sv_joinPattern_66 : decode c_Sv_joinPattern 66 = .ok (.iinc 4 1, 3) := by decide +kernel
theorem d_Sv_joinPattern_69 : decode c_Sv_joinPattern 69 = .ok (.goto (-66), 3) := by decide +kernel
theorem d_Sv_joinPattern_72 : decode c_Sv_joinPattern 72 = .ok (.iconst 1, 1) := by decide +kernel
theorem d_Sv_joinPattern_73 : decode c_Sv_joinPattern 73 = .ok (.ireturn, 1) := by decide +kernel
theorem d_Sv_fitsTriple_0 : decode c_Sv_fitsTriple 0 = .ok (.aload_n 0, 1) := by decide +kernel
theorem d_Sv_fitsTriple_1 : decode c_Sv_fitsTriple 1 = .ok (.aload_n 1, 1) := by decide +kernel
theorem d_Sv_fitsTriple_2 : decode c_Sv_fitsTriple 2 = .ok (.getfield 97, 3) := by decide +kernel
theorem d_Sv_fitsTriple_5 : decode c_Sv_fitsTriple 5 = .ok (.aload_n 0, 1) := by decide +kernel
theorem d_Sv_fitsTriple_6 : decode c_Sv_fitsTriple 6 = .ok (.getfield 24, 3) := by decide +kernel
theorem d_Sv_fitsTriple_9 : decode c_Sv_fitsTriple 9 = .ok (.iload_n 2, 1) := by decide +kernel
theorem d_Sv_fitsTriple_10 : decode c_Sv_fitsTriple 10 = .ok (.invokevirtual 101, 3) := by decide +kernel
theorem d_Sv_fitsTriple_13 : decode c_Sv_fitsTriple 13 = .ok (.invokevirtual 105, 3) := by decide +kernel
theorem d_Sv_fitsTriple_16 : decode c_Sv_fitsTriple 16 = .ok (.ifCond .eq 45, 3) := by decide +kernel
theorem d_Sv_fitsTriple_19 : decode c_Sv_fitsTriple 19 = .ok (.aload_n 0, 1) := by decide +kernel
theorem d_Sv_fitsTriple_20 : decode c_Sv_fitsTriple 20 = .ok (.aload_n 1, 1) := by decide +kernel
theorem d_Sv_fitsTriple_21 : decode c_Sv_fitsTriple 21 = .ok (.getfield 109, 3) := by decide +kernel
theorem d_Sv_fitsTriple_24 : decode c_Sv_fitsTriple 24 = .ok (.aload_n 0, 1) := by decide +kernel
theorem d_Sv_fitsTriple_25 : decode c_Sv_fitsTriple 25 = .ok (.getfield 24, 3) := by decide +kernel
theorem d_Sv_fitsTriple_28 : decode c_Sv_fitsTriple 28 = .ok (.iload_n 2, 1) := by decide +kernel
theorem d_Sv_fitsTriple_29 : decode c_Sv_fitsTriple 29 = .ok (.invokevirtual 112, 3) := by decide +kernel
theorem d_Sv_fitsTriple_32 : decode c_Sv_fitsTriple 32 = .ok (.invokevirtual 105, 3) := by decide +kernel
theorem d_Sv_fitsTriple_35 : decode c_Sv_fitsTriple 35 = .ok (.ifCond .eq 26, 3) := by decide +kernel
theorem d_Sv_fitsTriple_38 : decode c_Sv_fitsTriple 38 = .ok (.aload_n 0, 1) := by decide +kernel
theorem d_Sv_fitsTriple_39 : decode c_Sv_fitsTriple 39 = .ok (.aload_n 1, 1) := by decide +kernel
theorem d_Sv_fitsTriple_40 : decode c_Sv_fitsTriple 40 = .ok (.getfield 115, 3) := by decide +kernel
theorem d_Sv_fitsTriple_43 : decode c_Sv_fitsTriple 43 = .ok (.aload_n 0, 1) := by decide +kernel
theorem d_Sv_fitsTriple_44 : decode c_Sv_fitsTriple 44 = .ok (.getfield 24, 3) := by decide +kernel
theorem d_Sv_fitsTriple_47 : decode c_Sv_fitsTriple 47 = .ok (.iload_n 2, 1) := by decide +kernel
theorem d_Sv_fitsTriple_48 : decode c_Sv_fitsTriple 48 = .ok (.invokevirtual 118, 3) := by decide +kernel
theorem d_Sv_fitsTriple_51 : decode c_Sv_fitsTriple 51 = .ok (.invokevirtual 105, 3) := by decide +kernel
theorem d_Sv_fitsTriple_54 : decode c_Sv_fitsTriple 54 = .ok (.ifCond .eq 7, 3) := by decide +kernel
theorem d_Sv_fitsTriple_57 : decode c_Sv_fitsTriple 57 = .ok (.iconst 1, 1) := by decide +kernel
theorem d_Sv_fitsTriple_58 : decode c_Sv_fitsTriple 58 = .ok (.goto 4, 3) := by decide +kernel
theorem d_Sv_fitsTriple_61 : decode c_Sv_fitsTriple 61 = .ok (.iconst 0, 1) := by decide +kernel
theorem d_Sv_fitsTriple_62 : decode c_Sv_fitsTriple 62 = .ok (.ireturn, 1) := by decide +kernel
theorem d_Sv_fitsTerm_0 : decode c_Sv_fitsTerm 0 = .ok (.aload_n 0, 1) := by decide +kernel
theorem d_Sv_fitsTerm_1 : decode c_Sv_fitsTerm 1 = .ok (.lload_n 1, 1) := by decide +kernel
theorem d_Sv_fitsTerm_2 : decode c_Sv_fitsTerm 2 = .ok (.invokevirtual 121, 3) := by decide +kernel
theorem d_Sv_fitsTerm_5 : decode c_Sv_fitsTerm 5 = .ok (.lstore 5, 2) := by decide +kernel
theorem d_Sv_fitsTerm_7 : decode c_Sv_fitsTerm 7 = .ok (.lload 5, 2) := by decide +kernel
theorem d_Sv_fitsTerm_9 : decode c_Sv_fitsTerm 9 = .ok (.lconst 0, 1) := by decide +kernel
theorem d_Sv_fitsTerm_10 : decode c_Sv_fitsTerm 10 = .ok (.lcmp, 1) := by decide +kernel
theorem d_Sv_fitsTerm_11 : decode c_Sv_fitsTerm 11 = .ok (.ifCond .eq 16, 3) := by decide +kernel
theorem d_Sv_fitsTerm_14 : decode c_Sv_fitsTerm 14 = .ok (.lload 5, 2) := by decide +kernel
theorem d_Sv_fitsTerm_16 : decode c_Sv_fitsTerm 16 = .ok (.lload_n 3, 1) := by decide +kernel
theorem d_Sv_fitsTerm_17 : decode c_Sv_fitsTerm 17 = .ok (.lcmp, 1) := by decide +kernel
theorem d_Sv_fitsTerm_18 : decode c_Sv_fitsTerm 18 = .ok (.ifCond .ne 7, 3) := by decide +kernel
theorem d_Sv_fitsTerm_21 : decode c_Sv_fitsTerm 21 = .ok (.iconst 1, 1) := by decide +kernel
theorem d_Sv_fitsTerm_22 : decode c_Sv_fitsTerm 22 = .ok (.goto 4, 3) := by decide +kernel
theorem d_Sv_fitsTerm_25 : decode c_Sv_fitsTerm 25 = .ok (.iconst 0, 1) := by decide +kernel
theorem d_Sv_fitsTerm_26 : decode c_Sv_fitsTerm 26 = .ok (.ireturn, 1) := by decide +kernel
theorem d_Sv_fitsTerm_27 : decode c_Sv_fitsTerm 27 = .ok (.lload_n 1, 1) := by decide +kernel
theorem d_Sv_fitsTerm_28 : decode c_Sv_fitsTerm 28 = .ok (.ldc2_w 125, 3) := by decide +kernel
theorem d_Sv_fitsTerm_31 : decode c_Sv_fitsTerm 31 = .ok (.lxor, 1) := by decide +kernel
theorem d_Sv_fitsTerm_32 : decode c_Sv_fitsTerm 32 = .ok (.l2i, 1) := by decide +kernel
theorem d_Sv_fitsTerm_33 : decode c_Sv_fitsTerm 33 = .ok (.istore 7, 2) := by decide +kernel
theorem d_Sv_fitsTerm_35 : decode c_Sv_fitsTerm 35 = .ok (.iload 7, 2) := by decide +kernel
theorem d_Sv_fitsTerm_37 : decode c_Sv_fitsTerm 37 = .ok (.ifCond .lt 18, 3) := by decide +kernel
theorem d_Sv_fitsTerm_40 : decode c_Sv_fitsTerm 40 = .ok (.iload 7, 2) := by decide +kernel
theorem d_Sv_fitsTerm_42 : decode c_Sv_fitsTerm 42 = .ok (.bipush 6, 2) := by decide +kernel
theorem d_Sv_fitsTerm_44 : decode c_Sv_fitsTerm 44 = .ok (.if_icmp .ge 11, 3) := by decide +kernel
theorem d_Sv_fitsTerm_47 : decode c_Sv_fitsTerm 47 = .ok (.aload_n 0, 1) := by decide +kernel
theorem d_Sv_fitsTerm_48 : decode c_Sv_fitsTerm 48 = .ok (.getfield 20, 3) := by decide +kernel
theorem d_Sv_fitsTerm_51 : decode c_Sv_fitsTerm 51 = .ok (.iload 7, 2) := by decide +kernel
theorem d_Sv_fitsTerm_53 : decode c_Sv_fitsTerm 53 = .ok (.lload_n 3, 1) := by decide +kernel
theorem d_Sv_fitsTerm_54 : decode c_Sv_fitsTerm 54 = .ok (.lastore, 1) := by decide +kernel
theorem d_Sv_fitsTerm_55 : decode c_Sv_fitsTerm 55 = .ok (.iconst 1, 1) := by decide +kernel
theorem d_Sv_fitsTerm_56 : decode c_Sv_fitsTerm 56 = .ok (.ireturn, 1) := by decide +kernel
theorem d_Sv_termOf_0 : decode c_Sv_termOf 0 = .ok (.lload_n 1, 1) := by decide +kernel
theorem d_Sv_termOf_1 : decode c_Sv_termOf 1 = .ok (.lconst 0, 1) := by decide +kernel
theorem d_Sv_termOf_2 : decode c_Sv_termOf 2 = .ok (.lcmp, 1) := by decide +kernel
theorem d_Sv_termOf_3 : decode c_Sv_termOf 3 = .ok (.ifCond .lt 5, 3) := by decide +kernel
theorem d_Sv_termOf_6 : decode c_Sv_termOf 6 = .ok (.lload_n 1, 1) := by decide +kernel
theorem d_Sv_termOf_7 : decode c_Sv_termOf 7 = .ok (.lreturn, 1) := by decide +kernel
theorem d_Sv_termOf_8 : decode c_Sv_termOf 8 = .ok (.lload_n 1, 1) := by decide +kernel
theorem d_Sv_termOf_9 : decode c_Sv_termOf 9 = .ok (.ldc2_w 125, 3) := by decide +kernel
theorem d_Sv_termOf_12 : decode c_Sv_termOf 12 = .ok (.lxor, 1) := by decide +kernel
theorem d_Sv_termOf_13 : decode c_Sv_termOf 13 = .ok (.l2i, 1) := by decide +kernel
theorem d_Sv_termOf_14 : decode c_Sv_termOf 14 = .ok (.istore_n 3, 1) := by decide +kernel
theorem d_Sv_termOf_15 : decode c_Sv_termOf 15 = .ok (.iload_n 3, 1) := by decide +kernel
theorem d_Sv_termOf_16 : decode c_Sv_termOf 16 = .ok (.ifCond .lt 18, 3) := by decide +kernel
theorem d_Sv_termOf_19 : decode c_Sv_termOf 19 = .ok (.iload_n 3, 1) := by decide +kernel
theorem d_Sv_termOf_20 : decode c_Sv_termOf 20 = .ok (.bipush 6, 2) := by decide +kernel
theorem d_Sv_termOf_22 : decode c_Sv_termOf 22 = .ok (.if_icmp .ge 12, 3) := by decide +kernel
theorem d_Sv_termOf_25 : decode c_Sv_termOf 25 = .ok (.aload_n 0, 1) := by decide +kernel
theorem d_Sv_termOf_26 : decode c_Sv_termOf 26 = .ok (.getfield 20, 3) := by decide +kernel
theorem d_Sv_termOf_29 : decode c_Sv_termOf 29 = .ok (.iload_n 3, 1) := by decide +kernel
theorem d_Sv_termOf_30 : decode c_Sv_termOf 30 = .ok (.laload, 1) := by decide +kernel
theorem d_Sv_termOf_31 : decode c_Sv_termOf 31 = .ok (.goto 4, 3) := by decide +kernel
theorem d_Sv_termOf_34 : decode c_Sv_termOf 34 = .ok (.lconst 0, 1) := by decide +kernel
theorem d_Sv_termOf_35 : decode c_Sv_termOf 35 = .ok (.lreturn, 1) := by decide +kernel
theorem d_Sv_applyGroups_0 : decode c_Sv_applyGroups 0 = .ok (.iload_n 3, 1) := by decide +kernel
theorem d_Sv_applyGroups_1 : decode c_Sv_applyGroups 1 = .ok (.iconst 1, 1) := by decide +kernel
theorem d_Sv_applyGroups_2 : decode c_Sv_applyGroups 2 = .ok (.iadd, 1) := by decide +kernel
theorem d_Sv_applyGroups_3 : decode c_Sv_applyGroups 3 = .ok (.istore 4, 2) := by decide +kernel
theorem d_Sv_applyGroups_5 : decode c_Sv_applyGroups 5 = .ok (.iload 4, 2) := by decide +kernel
theorem d_Sv_applyGroups_7 : decode c_Sv_applyGroups 7 = .ok (.iconst 4, 1) := by decide +kernel
theorem d_Sv_applyGroups_8 : decode c_Sv_applyGroups 8 = .ok (.if_icmp .lt 5, 3) := by decide +kernel
theorem d_Sv_applyGroups_11 : decode c_Sv_applyGroups 11 = .ok (.iconst 0, 1) := by decide +kernel
theorem d_Sv_applyGroups_12 : decode c_Sv_applyGroups 12 = .ok (.ireturn, 1) := by decide +kernel
theorem d_Sv_applyGroups_13 : decode c_Sv_applyGroups 13 = .ok (.iconst 0, 1) := by decide +kernel
theorem d_Sv_applyGroups_14 : decode c_Sv_applyGroups 14 = .ok (.istore 5, 2) := by decide +kernel
theorem d_Sv_applyGroups_16 : decode c_Sv_applyGroups 16 = .ok (.iload 5, 2) := by decide +kernel
theorem d_Sv_applyGroups_18 : decode c_Sv_applyGroups 18 = .ok (.aload_n 0, 1) := by decide +kernel
theorem d_Sv_applyGroups_19 : decode c_Sv_applyGroups 19 = .ok (.getfield 28, 3) := by decide +kernel
theorem d_Sv_applyGroups_22 : decode c_Sv_applyGroups 22 = .ok (.getfield 127, 3) := by decide +kernel
theorem d_Sv_applyGroups_25 : decode c_Sv_applyGroups 25 = .ok (.if_icmp .ge 63, 3) := by decide +kernel
theorem d_Sv_applyGroups_28 : decode c_Sv_applyGroups 28 = .ok (.aload_n 0, 1) := by decide +kernel
theorem d_Sv_applyGroups_29 : decode c_Sv_applyGroups 29 = .ok (.getfield 28, 3) := by decide +kernel
theorem d_Sv_applyGroups_32 : decode c_Sv_applyGroups 32 = .ok (.getfield 130, 3) := by decide +kernel
theorem d_Sv_applyGroups_35 : decode c_Sv_applyGroups 35 = .ok (.iload 5, 2) := by decide +kernel
theorem d_Sv_applyGroups_37 : decode c_Sv_applyGroups 37 = .ok (.iaload, 1) := by decide +kernel
theorem d_Sv_applyGroups_38 : decode c_Sv_applyGroups 38 = .ok (.iload_n 1, 1) := by decide +kernel
theorem d_Sv_applyGroups_39 : decode c_Sv_applyGroups 39 = .ok (.if_icmp .ne 43, 3) := by decide +kernel
theorem d_Sv_applyGroups_42 : decode c_Sv_applyGroups 42 = .ok (.aload_n 0, 1) := by decide +kernel
theorem d_Sv_applyGroups_43 : decode c_Sv_applyGroups 43 = .ok (.iload 5, 2) := by decide +kernel
theorem d_Sv_applyGroups_45 : decode c_Sv_applyGroups 45 = .ok (.iload 4, 2) := by decide +kernel
theorem d_Sv_applyGroups_47 : decode c_Sv_applyGroups 47 = .ok (.invokevirtual 134, 3) := by decide +kernel
theorem d_Sv_applyGroups_50 : decode c_Sv_applyGroups 50 = .ok (.ifCond .eq 30, 3) := by decide +kernel
theorem d_Sv_applyGroups_53 : decode c_Sv_applyGroups 53 = .ok (.aload_n 0, 1) := by decide +kernel
theorem d_Sv_applyGroups_54 : decode c_Sv_applyGroups 54 = .ok (.iload_n 2, 1) := by decide +kernel
theorem d_Sv_applyGroups_55 : decode c_Sv_applyGroups 55 = .ok (.aload_n 0, 1) := by decide +kernel
theorem d_Sv_applyGroups_56 : decode c_Sv_applyGroups 56 = .ok (.getfield 11, 3) := by decide +kernel
theorem d_Sv_applyGroups_59 : decode c_Sv_applyGroups 59 = .ok (.iload_n 3, 1) := by decide +kernel
theorem d_Sv_applyGroups_60 : decode c_Sv_applyGroups 60 = .ok (.aaload, 1) := by decide +kernel
theorem d_Sv_applyGroups_61 : decode c_Sv_applyGroups 61 = .ok (.aload_n 0, 1) := by decide +kernel
theorem d_Sv_applyGroups_62 : decode c_Sv_applyGroups 62 = .ok (.getfield 11, 3) := by decide +kernel
theorem d_Sv_applyGroups_65 : decode c_Sv_applyGroups 65 = .ok (.iload 4, 2) := by decide +kernel
theorem d_Sv_applyGroups_67 : decode c_Sv_applyGroups 67 = .ok (.aaload, 1) := by decide +kernel
theorem d_Sv_applyGroups_68 : decode c_Sv_applyGroups 68 = .ok (.aload_n 0, 1) := by decide +kernel
theorem d_Sv_applyGroups_69 : decode c_Sv_applyGroups 69 = .ok (.getfield 17, 3) := by decide +kernel
theorem d_Sv_applyGroups_72 : decode c_Sv_applyGroups 72 = .ok (.iload_n 3, 1) := by decide +kernel
theorem d_Sv_applyGroups_73 : decode c_Sv_applyGroups 73 = .ok (.aaload, 1) := by decide +kernel
theorem d_Sv_applyGroups_74 : decode c_Sv_applyGroups 74 = .ok (.invokevirtual 138, 3) := by decide +kernel
theorem d_Sv_applyGroups_77 : decode c_Sv_applyGroups 77 = .ok (.ifCond .ne 5, 3) := by decide +kernel
theorem d_Sv_applyGroups_80 : decode c_Sv_applyGroups 80 = .ok (.iconst 0, 1) := by decide +kernel
theorem d_Sv_applyGroups_81 : decode c_Sv_applyGroups 81 = .ok (.ireturn, 1) := by decide +kernel
theorem d_Sv_applyGroups_82 : decode c_Sv_applyGroups 82 = .ok (.iinc 5 1, 3) := by decide +kernel
theorem d_Sv_applyGroups_85 : decode c_Sv_applyGroups 85 = .ok (.goto (-69), 3) := by decide +kernel
theorem d_Sv_applyGroups_88 : decode c_Sv_applyGroups 88 = .ok (.iconst 1, 1) := by decide +kernel
theorem d_Sv_applyGroups_89 : decode c_Sv_applyGroups 89 = .ok (.ireturn, 1) := by decide +kernel
theorem d_Sv_applySolved_0 : decode c_Sv_applySolved 0 = .ok (.iload_n 1, 1) := by decide +kernel
theorem d_Sv_applySolved_1 : decode c_Sv_applySolved 1 = .ok (.iconst 3, 1) := by decide +kernel
theorem d_Sv_applySolved_2 : decode c_Sv_applySolved 2 = .ok (.if_icmp .ne 7, 3) := by decide +kernel
theorem d_Sv_applySolved_5 : decode c_Sv_applySolved 5 = .ok (.iconst 1, 1) := by decide +kernel
theorem d_Sv_applySolved_6 : decode c_Sv_applySolved 6 = .ok (.goto 4, 3) := by decide +kernel
theorem d_Sv_applySolved_9 : decode c_Sv_applySolved 9 = .ok (.iconst 0, 1) := by decide +kernel
theorem d_Sv_applySolved_10 : decode c_Sv_applySolved 10 = .ok (.istore 5, 2) := by decide +kernel
theorem d_Sv_applySolved_12 : decode c_Sv_applySolved 12 = .ok (.iconst 0, 1) := by decide +kernel
theorem d_Sv_applySolved_13 : decode c_Sv_applySolved 13 = .ok (.istore 6, 2) := by decide +kernel
theorem d_Sv_applySolved_15 : decode c_Sv_applySolved 15 = .ok (.iload 6, 2) := by decide +kernel
theorem d_Sv_applySolved_17 : decode c_Sv_applySolved 17 = .ok (.aload_n 2, 1) := by decide +kernel
theorem d_Sv_applySolved_18 : decode c_Sv_applySolved 18 = .ok (.invokevirtual 82, 3) := by decide +kernel
theorem d_Sv_applySolved_21 : decode c_Sv_applySolved 21 = .ok (.if_icmp .ge 83, 3) := by decide +kernel
theorem d_Sv_applySolved_24 : decode c_Sv_applySolved 24 = .ok (.iload_n 1, 1) := by decide +kernel
theorem d_Sv_applySolved_25 : decode c_Sv_applySolved 25 = .ok (.iconst 4, 1) := by decide +kernel
theorem d_Sv_applySolved_26 : decode c_Sv_applySolved 26 = .ok (.if_icmp .eq 40, 3) := by decide +kernel
theorem d_Sv_applySolved_29 : decode c_Sv_applySolved 29 = .ok (.aload_n 0, 1) := by decide +kernel
theorem d_Sv_applySolved_30 : decode c_Sv_applySolved 30 = .ok (.aload_n 2, 1) := by decide +kernel
theorem d_Sv_applySolved_31 : decode c_Sv_applySolved 31 = .ok (.iload 6, 2) := by decide +kernel
theorem d_Sv_applySolved_33 : decode c_Sv_applySolved 33 = .ok (.aload_n 3, 1) := by decide +kernel
theorem d_Sv_applySolved_34 : decode c_Sv_applySolved 34 = .ok (.iload 5, 2) := by decide +kernel
theorem d_Sv_applySolved_36 : decode c_Sv_applySolved 36 = .ok (.invokevirtual 142, 3) := by decide +kernel
theorem d_Sv_applySolved_39 : decode c_Sv_applySolved 39 = .ok (.ifCond .ne 27, 3) := by decide +kernel
theorem d_Sv_applySolved_42 : decode c_Sv_applySolved 42 = .ok (.aload_n 2, 1) := by decide +kernel
theorem d_Sv_applySolved_43 : decode c_Sv_applySolved 43 = .ok (.iload 6, 2) := by decide +kernel
theorem d_Sv_applySolved_45 : decode c_Sv_applySolved 45 = .ok (.aload_n 0, 1) := by decide +kernel
theorem d_Sv_applySolved_46 : decode c_Sv_applySolved 46 = .ok (.getfield 20, 3) := by decide +kernel
theorem d_Sv_applySolved_49 : decode c_Sv_applySolved 49 = .ok (.invokevirtual 89, 3) := by decide +kernel
theorem d_Sv_applySolved_52 : decode c_Sv_applySolved 52 = .ok (.aload 4, 2) := by decide +kernel
theorem d_Sv_applySolved_54 : decode c_Sv_applySolved 54 = .ok (.aload_n 0, 1) := by decide +kernel
theorem d_Sv_applySolved_55 : decode c_Sv_applySolved 55 = .ok (.getfield 20, 3) := by decide +kernel
theorem d_Sv_applySolved_58 : decode c_Sv_applySolved 58 = .ok (.invokevirtual 44, 3) := by decide +kernel
theorem d_Sv_applySolved_61 : decode c_Sv_applySolved 61 = .ok (.istore 7, 2) := by decide +kernel
theorem d_Sv_applySolved_63 : decode c_Sv_applySolved 63 = .ok (.goto 28, 3) := by decide +kernel
theorem d_Sv_applySolved_66 : decode c_Sv_applySolved 66 = .ok (.iload 5, 2) := by decide +kernel
theorem d_Sv_applySolved_68 : decode c_Sv_applySolved 68 = .ok (.ifCond .ne 16, 3) := by decide +kernel
theorem d_Sv_applySolved_71 : decode c_Sv_applySolved 71 = .ok (.aload_n 0, 1) := by decide +kernel
theorem d_Sv_applySolved_72 : decode c_Sv_applySolved 72 = .ok (.aload_n 2, 1) := by decide +kernel
theorem d_Sv_applySolved_73 : decode c_Sv_applySolved 73 = .ok (.iload 6, 2) := by decide +kernel
theorem d_Sv_applySolved_75 : decode c_Sv_applySolved 75 = .ok (.aload_n 3, 1) := by decide +kernel
theorem d_Sv_applySolved_76 : decode c_Sv_applySolved 76 = .ok (.aload 4, 2) := by decide +kernel
theorem d_Sv_applySolved_78 : decode c_Sv_applySolved 78 = .ok (.invokevirtual 146, 3) := by decide +kernel
theorem d_Sv_applySolved_81 : decode c_Sv_applySolved 81 = .ok (.ifCond .eq 7, 3) := by decide +kernel
theorem d_Sv_applySolved_84 : decode c_Sv_applySolved 84 = .ok (.iconst 1, 1) := by decide +kernel
theorem d_Sv_applySolved_85 : decode c_Sv_applySolved 85 = .ok (.goto 4, 3) := by decide +kernel
theorem d_Sv_applySolved_88 : decode c_Sv_applySolved 88 = .ok (.iconst 0, 1) := by decide +kernel
theorem d_Sv_applySolved_89 : decode c_Sv_applySolved 89 = .ok (.istore 7, 2) := by decide +kernel
theorem d_Sv_applySolved_91 : decode c_Sv_applySolved 91 = .ok (.iload 7, 2) := by decide +kernel
theorem d_Sv_applySolved_93 : decode c_Sv_applySolved 93 = .ok (.ifCond .ne 5, 3) := by decide +kernel
theorem d_Sv_applySolved_96 : decode c_Sv_applySolved 96 = .ok (.iconst 0, 1) := by decide +kernel
theorem d_Sv_applySolved_97 : decode c_Sv_applySolved 97 = .ok (.ireturn, 1) := by decide +kernel
theorem d_Sv_applySolved_98 : decode c_Sv_applySolved 98 = .ok (.iinc 6 1, 3) := by decide +kernel
theorem d_Sv_applySolved_101 : decode c_Sv_applySolved 101 = .ok (.goto (-86), 3) := by decide +kernel
theorem d_Sv_applySolved_104 : decode c_Sv_applySolved 104 = .ok (.iconst 1, 1) := by decide +kernel
theorem d_Sv_applySolved_105 : decode c_Sv_applySolved 105 = .ok (.ireturn, 1) := by decide +kernel
theorem d_Sv_joinAll_0 : decode c_Sv_joinAll 0 = .ok (.iconst 0, 1) := by decide +kernel
theorem d_Sv_joinAll_1 : decode c_Sv_joinAll 1 = .ok (.istore 5, 2) := by decide +kernel
theorem d_Sv_joinAll_3 : decode c_Sv_joinAll 3 = .ok (.iload 5, 2) := by decide +kernel
theorem d_Sv_joinAll_5 : decode c_Sv_joinAll 5 = .ok (.aload_n 3, 1) := by decide +kernel
theorem d_Sv_joinAll_6 : decode c_Sv_joinAll 6 = .ok (.invokevirtual 82, 3) := by decide +kernel
theorem d_Sv_joinAll_9 : decode c_Sv_joinAll 9 = .ok (.if_icmp .ge 45, 3) := by decide +kernel
theorem d_Sv_joinAll_12 : decode c_Sv_joinAll 12 = .ok (.aload_n 1, 1) := by decide +kernel
theorem d_Sv_joinAll_13 : decode c_Sv_joinAll 13 = .ok (.iload_n 2, 1) := by decide +kernel
theorem d_Sv_joinAll_14 : decode c_Sv_joinAll 14 = .ok (.aload_n 0, 1) := by decide +kernel
theorem d_Sv_joinAll_15 : decode c_Sv_joinAll 15 = .ok (.getfield 20, 3) := by decide +kernel
theorem d_Sv_joinAll_18 : decode c_Sv_joinAll 18 = .ok (.invokevirtual 89, 3) := by decide +kernel
theorem d_Sv_joinAll_21 : decode c_Sv_joinAll 21 = .ok (.aload_n 3, 1) := by decide +kernel
theorem d_Sv_joinAll_22 : decode c_Sv_joinAll 22 = .ok (.iload 5, 2) := by decide +kernel
theorem d_Sv_joinAll_24 : decode c_Sv_joinAll 24 = .ok (.aload_n 0, 1) := by decide +kernel
theorem d_Sv_joinAll_25 : decode c_Sv_joinAll 25 = .ok (.getfield 20, 3) := by decide +kernel
theorem d_Sv_joinAll_28 : decode c_Sv_joinAll 28 = .ok (.invokevirtual 150, 3) := by decide +kernel
theorem d_Sv_joinAll_31 : decode c_Sv_joinAll 31 = .ok (.ifCond .eq 17, 3) := by decide +kernel
theorem d_Sv_joinAll_34 : decode c_Sv_joinAll 34 = .ok (.aload 4, 2) := by decide +kernel
theorem d_Sv_joinAll_36 : decode c_Sv_joinAll 36 = .ok (.aload_n 0, 1) := by decide +kernel
theorem d_Sv_joinAll_37 : decode c_Sv_joinAll 37 = .ok (.getfield 20, 3) := by decide +kernel
theorem d_Sv_joinAll_40 : decode c_Sv_joinAll 40 = .ok (.invokevirtual 44, 3) := by decide +kernel
theorem d_Sv_joinAll_43 : decode c_Sv_joinAll 43 = .ok (.ifCond .ne 5, 3) := by decide +kernel
theorem d_Sv_joinAll_46 : decode c_Sv_joinAll 46 = .ok (.iconst 0, 1) := by decide +kernel
theorem d_Sv_joinAll_47 : decode c_Sv_joinAll 47 = .ok (.ireturn, 1) := by decide +kernel
theorem d_Sv_joinAll_48 : decode c_Sv_joinAll 48 = .ok (.iinc 5 1, 3) := by decide +kernel
theorem d_Sv_joinAll_51 : decode c_Sv_joinAll 51 = .ok (.goto (-48), 3) := by decide +kernel
theorem d_Sv_joinAll_54 : decode c_Sv_joinAll 54 = .ok (.iconst 1, 1) := by decide +kernel
theorem d_Sv_joinAll_55 : decode c_Sv_joinAll 55 = .ok (.ireturn, 1) := by decide +kernel
theorem d_Sv_hasPartner_0 : decode c_Sv_hasPartner 0 = .ok (.iconst 0, 1) := by decide +kernel
theorem d_Sv_hasPartner_1 : decode c_Sv_hasPartner 1 = .ok (.istore 5, 2) := by decide +kernel
theorem d_Sv_hasPartner_3 : decode c_Sv_hasPartner 3 = .ok (.iload 5, 2) := by decide +kernel
theorem d_Sv_hasPartner_5 : decode c_Sv_hasPartner 5 = .ok (.aload_n 3, 1) := by decide +kernel
theorem d_Sv_hasPartner_6 : decode c_Sv_hasPartner 6 = .ok (.invokevirtual 82, 3) := by decide +kernel
theorem d_Sv_hasPartner_9 : decode c_Sv_hasPartner 9 = .ok (.if_icmp .ge 51, 3) := by decide +kernel
theorem d_Sv_hasPartner_12 : decode c_Sv_hasPartner 12 = .ok (.aload_n 1, 1) := by decide +kernel
theorem d_Sv_hasPartner_13 : decode c_Sv_hasPartner 13 = .ok (.iload_n 2, 1) := by decide +kernel
theorem d_Sv_hasPartner_14 : decode c_Sv_hasPartner 14 = .ok (.aload_n 0, 1) := by decide +kernel
theorem d_Sv_hasPartner_15 : decode c_Sv_hasPartner 15 = .ok (.getfield 20, 3) := by decide +kernel
theorem d_Sv_hasPartner_18 : decode c_Sv_hasPartner 18 = .ok (.invokevirtual 89, 3) := by decide +kernel
theorem d_Sv_hasPartner_21 : decode c_Sv_hasPartner 21 = .ok (.iload 4, 2) := by decide +kernel
theorem d_Sv_hasPartner_23 : decode c_Sv_hasPartner 23 = .ok (.ifCond .eq 16, 3) := by decide +kernel
theorem d_Sv_hasPartner_26 : decode c_Sv_hasPartner 26 = .ok (.aload_n 3, 1) := by decide +kernel
theorem d_Sv_hasPartner_27 : decode c_Sv_hasPartner 27 = .ok (.iload 5, 2) := by decide +kernel
theorem d_Sv_hasPartner_29 : decode c_Sv_hasPartner 29 = .ok (.aload_n 0, 1) := by decide +kernel
theorem d_Sv_hasPartner_30 : decode c_Sv_hasPartner 30 = .ok (.getfield 20, 3) := by decide +kernel
theorem d_Sv_hasPartner_33 : decode c_Sv_hasPartner 33 = .ok (.invokevirtual 154, 3) := by decide +kernel
theorem d_Sv_hasPartner_36 : decode c_Sv_hasPartner 36 = .ok (.ifCond .eq 18, 3) := by decide +kernel
theorem d_Sv_hasPartner_39 : decode c_Sv_hasPartner 39 = .ok (.aload_n 3, 1) := by decide +kernel
theorem d_Sv_hasPartner_40 : decode c_Sv_hasPartner 40 = .ok (.iload 5, 2) := by decide +kernel
theorem d_Sv_hasPartner_42 : decode c_Sv_hasPartner 42 = .ok (.aload_n 0, 1) := by decide +kernel
theorem d_Sv_hasPartner_43 : decode c_Sv_hasPartner 43 = .ok (.getfield 20, 3) := by decide +kernel
theorem d_Sv_hasPartner_46 : decode c_Sv_hasPartner 46 = .ok (.invokevirtual 150, 3) := by decide +kernel
theorem d_Sv_hasPartner_49 : decode c_Sv_hasPartner 49 = .ok (.ifCond .eq 5, 3) := by decide +kernel
theorem d_Sv_hasPartner_52 : decode c_Sv_hasPartner 52 = .ok (.iconst 1, 1) := by decide +kernel
theorem d_Sv_hasPartner_53 : decode c_Sv_hasPartner 53 = .ok (.ireturn, 1) := by decide +kernel
theorem d_Sv_hasPartner_54 : decode c_Sv_hasPartner 54 = .ok (.iinc 5 1, 3) := by decide +kernel
theorem d_Sv_hasPartner_57 : decode c_Sv_hasPartner 57 = .ok (.goto (-54), 3) := by decide +kernel
theorem d_Sv_hasPartner_60 : decode c_Sv_hasPartner 60 = .ok (.iconst 0, 1) := by decide +kernel
theorem d_Sv_hasPartner_61 : decode c_Sv_hasPartner 61 = .ok (.ireturn, 1) := by decide +kernel
theorem d_Sv_keepPassing_0 : decode c_Sv_keepPassing 0 = .ok (.iconst 0, 1) := by decide +kernel
theorem d_Sv_keepPassing_1 : decode c_Sv_keepPassing 1 = .ok (.istore 4, 2) := by decide +kernel
theorem d_Sv_keepPassing_3 : decode c_Sv_keepPassing 3 = .ok (.iload 4, 2) := by decide +kernel
theorem d_Sv_keepPassing_5 : decode c_Sv_keepPassing 5 = .ok (.aload_n 2, 1) := by decide +kernel
theorem d_Sv_keepPassing_6 : decode c_Sv_keepPassing 6 = .ok (.invokevirtual 82, 3) := by decide +kernel
theorem d_Sv_keepPassing_9 : decode c_Sv_keepPassing 9 = .ok (.if_icmp .ge 36, 3) := by decide +kernel
theorem d_Sv_keepPassing_12 : decode c_Sv_keepPassing 12 = .ok (.aload_n 2, 1) := by decide +kernel
theorem d_Sv_keepPassing_13 : decode c_Sv_keepPassing 13 = .ok (.iload 4, 2) := by decide +kernel
theorem d_Sv_keepPassing_15 : decode c_Sv_keepPassing 15 = .ok (.aload_n 0, 1) := by decide +kernel
theorem d_Sv_keepPassing_16 : decode c_Sv_keepPassing 16 = .ok (.getfield 20, 3) := by decide +kernel
theorem d_Sv_keepPassing_19 : decode c_Sv_keepPassing 19 = .ok (.invokevirtual 89, 3) := by decide +kernel
theorem d_Sv_keepPassing_22 : decode c_Sv_keepPassing 22 = .ok (.aload_n 0, 1) := by decide +kernel
theorem d_Sv_keepPassing_23 : decode c_Sv_keepPassing 23 = .ok (.iload_n 1, 1) := by decide +kernel
theorem d_Sv_keepPassing_24 : decode c_Sv_keepPassing 24 = .ok (.invokevirtual 157, 3) := by decide +kernel
theorem d_Sv_keepPassing_27 : decode c_Sv_keepPassing 27 = .ok (.ifCond .eq 12, 3) := by decide +kernel
theorem d_Sv_keepPassing_30 : decode c_Sv_keepPassing 30 = .ok (.aload_n 3, 1) := by decide +kernel
theorem d_Sv_keepPassing_31 : decode c_Sv_keepPassing 31 = .ok (.aload_n 0, 1) := by decide +kernel
theorem d_Sv_keepPassing_32 : decode c_Sv_keepPassing 32 = .ok (.getfield 20, 3) := by decide +kernel
theorem d_Sv_keepPassing_35 : decode c_Sv_keepPassing 35 = .ok (.invokevirtual 44, 3) := by decide +kernel
theorem d_Sv_keepPassing_38 : decode c_Sv_keepPassing 38 = .ok (.pop, 1) := by decide +kernel
theorem d_Sv_keepPassing_39 : decode c_Sv_keepPassing 39 = .ok (.iinc 4 1, 3) := by decide +kernel
theorem d_Sv_keepPassing_42 : decode c_Sv_keepPassing 42 = .ok (.goto (-39), 3) := by decide +kernel
theorem d_Sv_keepPassing_45 : decode c_Sv_keepPassing 45 = .ok (.return_, 1) := by decide +kernel
theorem d_Sv_passesTests_0 : decode c_Sv_passesTests 0 = .ok (.iconst 0, 1) := by decide +kernel
theorem d_Sv_passesTests_1 : decode c_Sv_passesTests 1 = .ok (.istore_n 2, 1) := by decide +kernel
theorem d_Sv_passesTests_2 : decode c_Sv_passesTests 2 = .ok (.iload_n 2, 1) := by decide +kernel
theorem d_Sv_passesTests_3 : decode c_Sv_passesTests 3 = .ok (.aload_n 0, 1) := by decide +kernel
theorem d_Sv_passesTests_4 : decode c_Sv_passesTests 4 = .ok (.getfield 28, 3) := by decide +kernel
theorem d_Sv_passesTests_7 : decode c_Sv_passesTests 7 = .ok (.getfield 48, 3) := by decide +kernel
theorem d_Sv_passesTests_10 : decode c_Sv_passesTests 10 = .ok (.if_icmp .ge 49, 3) := by decide +kernel
theorem d_Sv_passesTests_13 : decode c_Sv_passesTests 13 = .ok (.aload_n 0, 1) := by decide +kernel
theorem d_Sv_passesTests_14 : decode c_Sv_passesTests 14 = .ok (.getfield 28, 3) := by decide +kernel
theorem d_Sv_passesTests_17 : decode c_Sv_passesTests 17 = .ok (.getfield 54, 3) := by decide +kernel
theorem d_Sv_passesTests_20 : decode c_Sv_passesTests 20 = .ok (.iload_n 2, 1) := by decide +kernel
theorem d_Sv_passesTests_21 : decode c_Sv_passesTests 21 = .ok (.aaload, 1) := by decide +kernel
theorem d_Sv_passesTests_22 : decode c_Sv_passesTests 22 = .ok (.astore_n 3, 1) := by decide +kernel
theorem d_Sv_passesTests_23 : decode c_Sv_passesTests 23 = .ok (.aload_n 3, 1) := by decide +kernel
theorem d_Sv_passesTests_24 : decode c_Sv_passesTests 24 = .ok (.getfield 63, 3) := by decide +kernel
theorem d_Sv_passesTests_27 : decode c_Sv_passesTests 27 = .ok (.iload_n 1, 1) := by decide +kernel
theorem d_Sv_passesTests_28 : decode c_Sv_passesTests 28 = .ok (.if_icmp .ne 25, 3) := by decide +kernel
theorem d_Sv_passesTests_31 : decode c_Sv_passesTests 31 = .ok (.aload_n 3, 1) := by decide +kernel
theorem d_Sv_passesTests_32 : decode c_Sv_passesTests 32 = .ok (.getfield 58, 3) := by decide +kernel
theorem d_Sv_passesTests_35 : decode c_Sv_passesTests 35 = .ok (.iconst 1, 1) := by decide +kernel
theorem d_Sv_passesTests_36 : decode c_Sv_passesTests 36 = .ok (.if_icmp .ne 17, 3) := by decide +kernel
theorem d_Sv_passesTests_39 : decode c_Sv_passesTests 39 = .ok (.aload_n 0, 1) := by decide +kernel
theorem d_Sv_passesTests_40 : decode c_Sv_passesTests 40 = .ok (.aload_n 3, 1) := by decide +kernel
theorem d_Sv_passesTests_41 : decode c_Sv_passesTests 41 = .ok (.invokevirtual 161, 3) := by decide +kernel
theorem d_Sv_passesTests_44 : decode c_Sv_passesTests 44 = .ok (.aload_n 3, 1) := by decide +kernel
theorem d_Sv_passesTests_45 : decode c_Sv_passesTests 45 = .ok (.getfield 165, 3) := by decide +kernel
theorem d_Sv_passesTests_48 : decode c_Sv_passesTests 48 = .ok (.if_icmp .ne 5, 3) := by decide +kernel
theorem d_Sv_passesTests_51 : decode c_Sv_passesTests 51 = .ok (.iconst 0, 1) := by decide +kernel
theorem d_Sv_passesTests_52 : decode c_Sv_passesTests 52 = .ok (.ireturn, 1) := by decide +kernel
theorem d_Sv_passesTests_53 : decode c_Sv_passesTests 53 = .ok (.iinc 2 1, 3) := by decide +kernel
theorem d_Sv_passesTests_56 : decode c_Sv_passesTests 56 = .ok (.goto (-54), 3) := by decide +kernel
theorem d_Sv_passesTests_59 : decode c_Sv_passesTests 59 = .ok (.iconst 1, 1) := by decide +kernel
theorem d_Sv_passesTests_60 : decode c_Sv_passesTests 60 = .ok (.ireturn, 1) := by decide +kernel
theorem d_Sv_holds_0 : decode c_Sv_holds 0 = .ok (.aload_n 0, 1) := by decide +kernel
theorem d_Sv_holds_1 : decode c_Sv_holds 1 = .ok (.aload_n 1, 1) := by decide +kernel
theorem d_Sv_holds_2 : decode c_Sv_holds 2 = .ok (.getfield 97, 3) := by decide +kernel
theorem d_Sv_holds_5 : decode c_Sv_holds 5 = .ok (.invokevirtual 121, 3) := by decide +kernel
theorem d_Sv_holds_8 : decode c_Sv_holds 8 = .ok (.lstore_n 2, 1) := by decide +kernel
theorem d_Sv_holds_9 : decode c_Sv_holds 9 = .ok (.aload_n 1, 1) := by decide +kernel
theorem d_Sv_holds_10 : decode c_Sv_holds 10 = .ok (.getfield 169, 3) := by decide +kernel
theorem d_Sv_holds_13 : decode c_Sv_holds 13 = .ok (.bipush 98, 2) := by decide +kernel
theorem d_Sv_holds_15 : decode c_Sv_holds 15 = .ok (.if_icmp .ne 15, 3) := by decide +kernel
theorem d_Sv_holds_18 : decode c_Sv_holds 18 = .ok (.lload_n 2, 1) := by decide +kernel
theorem d_Sv_holds_19 : decode c_Sv_holds 19 = .ok (.lconst 0, 1) := by decide +kernel
theorem d_Sv_holds_20 : decode c_Sv_holds 20 = .ok (.lcmp, 1) := by decide +kernel
theorem d_Sv_holds_21 : decode c_Sv_holds 21 = .ok (.ifCond .eq 7, 3) := by decide +kernel
theorem d_Sv_holds_24 : decode c_Sv_holds 24 = .ok (.iconst 1, 1) := by decide +kernel
theorem d_Sv_holds_25 : decode c_Sv_holds 25 = .ok (.goto 4, 3) := by decide +kernel
theorem d_Sv_holds_28 : decode c_Sv_holds 28 = .ok (.iconst 0, 1) := by decide +kernel
theorem d_Sv_holds_29 : decode c_Sv_holds 29 = .ok (.ireturn, 1) := by decide +kernel
theorem d_Sv_holds_30 : decode c_Sv_holds 30 = .ok (.aload_n 0, 1) := by decide +kernel
theorem d_Sv_holds_31 : decode c_Sv_holds 31 = .ok (.aload_n 1, 1) := by decide +kernel
theorem d_Sv_holds_32 : decode c_Sv_holds 32 = .ok (.getfield 109, 3) := by decide +kernel
theorem d_Sv_holds_35 : decode c_Sv_holds 35 = .ok (.invokevirtual 121, 3) := by decide +kernel
theorem d_Sv_holds_38 : decode c_Sv_holds 38 = .ok (.lstore 4, 2) := by decide +kernel
theorem d_Sv_holds_40 : decode c_Sv_holds 40 = .ok (.lload_n 2, 1) := by decide +kernel
theorem d_Sv_holds_41 : decode c_Sv_holds 41 = .ok (.lconst 0, 1) := by decide +kernel
theorem d_Sv_holds_42 : decode c_Sv_holds 42 = .ok (.lcmp, 1) := by decide +kernel
theorem d_Sv_holds_43 : decode c_Sv_holds 43 = .ok (.ifCond .eq 10, 3) := by decide +kernel
theorem d_Sv_holds_46 : decode c_Sv_holds 46 = .ok (.lload 4, 2) := by decide +kernel
theorem d_Sv_holds_48 : decode c_Sv_holds 48 = .ok (.lconst 0, 1) := by decide +kernel
theorem d_Sv_holds_49 : decode c_Sv_holds 49 = .ok (.lcmp, 1) := by decide +kernel
theorem d_Sv_holds_50 : decode c_Sv_holds 50 = .ok (.ifCond .ne 5, 3) := by decide +kernel
theorem d_Sv_holds_53 : decode c_Sv_holds 53 = .ok (.iconst 0, 1) := by decide +kernel
theorem d_Sv_holds_54 : decode c_Sv_holds 54 = .ok (.ireturn, 1) := by decide +kernel
theorem d_Sv_holds_55 : decode c_Sv_holds 55 = .ok (.aload_n 1, 1) := by decide +kernel
theorem d_Sv_holds_56 : decode c_Sv_holds 56 = .ok (.getfield 169, 3) := by decide +kernel
theorem d_Sv_holds_59 : decode c_Sv_holds 59 = .ok (.lookupswitch 72 #[(33, 46), (60, 59), (61, 33)], 33) := by decide +kernel
theorem d_Sv_holds_92 : decode c_Sv_holds 92 = .ok (.lload_n 2, 1) := by decide +kernel
theorem d_Sv_holds_93 : decode c_Sv_holds 93 = .ok (.lload 4, 2) := by decide +kernel
theorem d_Sv_holds_95 : decode c_Sv_holds 95 = .ok (.lcmp, 1) := by decide +kernel
theorem d_Sv_holds_96 : decode c_Sv_holds 96 = .ok (.ifCond .ne 7, 3) := by decide +kernel
theorem d_Sv_holds_99 : decode c_Sv_holds 99 = .ok (.iconst 1, 1) := by decide +kernel
theorem d_Sv_holds_100 : decode c_Sv_holds 100 = .ok (.goto 4, 3) := by decide +kernel
theorem d_Sv_holds_103 : decode c_Sv_holds 103 = .ok (.iconst 0, 1) := by decide +kernel
theorem d_Sv_holds_104 : decode c_Sv_holds 104 = .ok (.ireturn, 1) := by decide +kernel
theorem d_Sv_holds_105 : decode c_Sv_holds 105 = .ok (.lload_n 2, 1) := by decide +kernel
theorem d_Sv_holds_106 : decode c_Sv_holds 106 = .ok (.lload 4, 2) := by decide +kernel
theorem d_Sv_holds_108 : decode c_Sv_holds 108 = .ok (.lcmp, 1) := by decide +kernel
theorem d_Sv_holds_109 : decode c_Sv_holds 109 = .ok (.ifCond .eq 7, 3) := by decide +kernel
theorem d_Sv_holds_112 : decode c_Sv_holds 112 = .ok (.iconst 1, 1) := by decide +kernel
theorem d_Sv_holds_113 : decode c_Sv_holds 113 = .ok (.goto 4, 3) := by decide +kernel
theorem d_Sv_holds_116 : decode c_Sv_holds 116 = .ok (.iconst 0, 1) := by decide +kernel
theorem d_Sv_holds_117 : decode c_Sv_holds 117 = .ok (.ireturn, 1) := by decide +kernel
theorem d_Sv_holds_118 : decode c_Sv_holds 118 = .ok (.lload_n 2, 1) := by decide +kernel
theorem d_Sv_holds_119 : decode c_Sv_holds 119 = .ok (.lload 4, 2) := by decide +kernel
theorem d_Sv_holds_121 : decode c_Sv_holds 121 = .ok (.lcmp, 1) := by decide +kernel
theorem d_Sv_holds_122 : decode c_Sv_holds 122 = .ok (.ifCond .ge 7, 3) := by decide +kernel
theorem d_Sv_holds_125 : decode c_Sv_holds 125 = .ok (.iconst 1, 1) := by decide +kernel
theorem d_Sv_holds_126 : decode c_Sv_holds 126 = .ok (.goto 4, 3) := by decide +kernel
theorem d_Sv_holds_129 : decode c_Sv_holds 129 = .ok (.iconst 0, 1) := by decide +kernel
theorem d_Sv_holds_130 : decode c_Sv_holds 130 = .ok (.ireturn, 1) := by decide +kernel
theorem d_Sv_holds_131 : decode c_Sv_holds 131 = .ok (.lload_n 2, 1) := by decide +kernel
theorem d_Sv_holds_132 : decode c_Sv_holds 132 = .ok (.lload 4, 2) := by decide +kernel
theorem d_Sv_holds_134 : decode c_Sv_holds 134 = .ok (.lcmp, 1) := by decide +kernel
theorem d_Sv_holds_135 : decode c_Sv_holds 135 = .ok (.ifCond .le 7, 3) := by decide +kernel
theorem d_Sv_holds_138 : decode c_Sv_holds 138 = .ok (.iconst 1, 1) := by decide +kernel
theorem d_Sv_holds_139 : decode c_Sv_holds 139 = .ok (.goto 4, 3) := by decide +kernel
theorem d_Sv_holds_142 : decode c_Sv_holds 142 = .ok (.iconst 0, 1) := by decide +kernel
theorem d_Sv_holds_143 : decode c_Sv_holds 143 = .ok (.ireturn, 1) := by decide +kernel
