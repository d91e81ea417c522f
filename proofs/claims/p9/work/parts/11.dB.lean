theorem d_Pa_init_0 : decode c_Pa_init 0 = .ok (.aload_n 0, 1) := by decide +kernel
theorem d_Pa_init_1 : decode c_Pa_init 1 = .ok (.invokespecial 3, 3) := by decide +kernel
theorem d_Pa_init_4 : decode c_Pa_init 4 = .ok (.aload_n 0, 1) := by decide +kernel
theorem d_Pa_init_5 : decode c_Pa_init 5 = .ok (.lconst 0, 1) := by decide +kernel
theorem d_Pa_init_6 : decode c_Pa_init 6 = .ok (.putfield 9, 3) := by decide +kernel
theorem d_Pa_init_9 : decode c_Pa_init 9 = .ok (.aload_n 0, 1) := by decide +kernel
theorem d_Pa_init_10 : decode c_Pa_init 10 = .ok (.aload_n 1, 1) := by decide +kernel
theorem d_Pa_init_11 : decode c_Pa_init 11 = .ok (.putfield 15, 3) := by decide +kernel
theorem d_Pa_init_14 : decode c_Pa_init 14 = .ok (.aload_n 0, 1) := by decide +kernel
theorem d_Pa_init_15 : decode c_Pa_init 15 = .ok (.aload_n 2, 1) := by decide +kernel
theorem d_Pa_init_16 : decode c_Pa_init 16 = .ok (.putfield 19, 3) := by decide +kernel
theorem d_Pa_init_19 : decode c_Pa_init 19 = .ok (.return_, 1) := by decide +kernel
theorem d_Pa_readQuery_0 : decode c_Pa_readQuery 0 = .ok (.aload_n 0, 1) := by decide +kernel
theorem d_Pa_readQuery_1 : decode c_Pa_readQuery 1 = .ok (.getfield 19, 3) := by decide +kernel
theorem d_Pa_readQuery_4 : decode c_Pa_readQuery 4 = .ok (.invokevirtual 23, 3) := by decide +kernel
theorem d_Pa_readQuery_7 : decode c_Pa_readQuery 7 = .ok (.aload_n 0, 1) := by decide +kernel
theorem d_Pa_readQuery_8 : decode c_Pa_readQuery 8 = .ok (.getfield 15, 3) := by decide +kernel
theorem d_Pa_readQuery_11 : decode c_Pa_readQuery 11 = .ok (.ldc2_w 30, 3) := by decide +kernel
theorem d_Pa_readQuery_14 : decode c_Pa_readQuery 14 = .ok (.invokevirtual 32, 3) := by decide +kernel
theorem d_Pa_readQuery_17 : decode c_Pa_readQuery 17 = .ok (.ifCond .eq 47, 3) := by decide +kernel
theorem d_Pa_readQuery_20 : decode c_Pa_readQuery 20 = .ok (.aload_n 0, 1) := by decide +kernel
theorem d_Pa_readQuery_21 : decode c_Pa_readQuery 21 = .ok (.invokevirtual 36, 3) := by decide +kernel
theorem d_Pa_readQuery_24 : decode c_Pa_readQuery 24 = .ok (.ifCond .eq 40, 3) := by decide +kernel
theorem d_Pa_readQuery_27 : decode c_Pa_readQuery 27 = .ok (.aload_n 0, 1) := by decide +kernel
theorem d_Pa_readQuery_28 : decode c_Pa_readQuery 28 = .ok (.iconst (-1), 1) := by decide +kernel
theorem d_Pa_readQuery_29 : decode c_Pa_readQuery 29 = .ok (.iconst 0, 1) := by decide +kernel
theorem d_Pa_readQuery_30 : decode c_Pa_readQuery 30 = .ok (.invokevirtual 40, 3) := by decide +kernel
theorem d_Pa_readQuery_33 : decode c_Pa_readQuery 33 = .ok (.ifCond .eq 31, 3) := by decide +kernel
theorem d_Pa_readQuery_36 : decode c_Pa_readQuery 36 = .ok (.aload_n 0, 1) := by decide +kernel
theorem d_Pa_readQuery_37 : decode c_Pa_readQuery 37 = .ok (.invokevirtual 44, 3) := by decide +kernel
theorem d_Pa_readQuery_40 : decode c_Pa_readQuery 40 = .ok (.ifCond .eq 24, 3) := by decide +kernel
theorem d_Pa_readQuery_43 : decode c_Pa_readQuery 43 = .ok (.aload_n 0, 1) := by decide +kernel
theorem d_Pa_readQuery_44 : decode c_Pa_readQuery 44 = .ok (.invokevirtual 47, 3) := by decide +kernel
theorem d_Pa_readQuery_47 : decode c_Pa_readQuery 47 = .ok (.ifCond .eq 17, 3) := by decide +kernel
theorem d_Pa_readQuery_50 : decode c_Pa_readQuery 50 = .ok (.aload_n 0, 1) := by decide +kernel
theorem d_Pa_readQuery_51 : decode c_Pa_readQuery 51 = .ok (.getfield 15, 3) := by decide +kernel
theorem d_Pa_readQuery_54 : decode c_Pa_readQuery 54 = .ok (.invokevirtual 50, 3) := by decide +kernel
theorem d_Pa_readQuery_57 : decode c_Pa_readQuery 57 = .ok (.ifCond .ne 7, 3) := by decide +kernel
theorem d_Pa_readQuery_60 : decode c_Pa_readQuery 60 = .ok (.iconst 1, 1) := by decide +kernel
theorem d_Pa_readQuery_61 : decode c_Pa_readQuery 61 = .ok (.goto 4, 3) := by decide +kernel
theorem d_Pa_readQuery_64 : decode c_Pa_readQuery 64 = .ok (.iconst 0, 1) := by decide +kernel
theorem d_Pa_readQuery_65 : decode c_Pa_readQuery 65 = .ok (.ireturn, 1) := by decide +kernel
theorem d_Pa_readSelected_0 : decode c_Pa_readSelected 0 = .ok (.aload_n 0, 1) := by decide +kernel
theorem d_Pa_readSelected_1 : decode c_Pa_readSelected 1 = .ok (.getfield 19, 3) := by decide +kernel
theorem d_Pa_readSelected_4 : decode c_Pa_readSelected 4 = .ok (.aload_n 0, 1) := by decide +kernel
theorem d_Pa_readSelected_5 : decode c_Pa_readSelected 5 = .ok (.getfield 15, 3) := by decide +kernel
theorem d_Pa_readSelected_8 : decode c_Pa_readSelected 8 = .ok (.ldc2_w 54, 3) := by decide +kernel
theorem d_Pa_readSelected_11 : decode c_Pa_readSelected 11 = .ok (.invokevirtual 32, 3) := by decide +kernel
theorem d_Pa_readSelected_14 : decode c_Pa_readSelected 14 = .ok (.putfield 56, 3) := by decide +kernel
theorem d_Pa_readSelected_17 : decode c_Pa_readSelected 17 = .ok (.iconst 0, 1) := by decide +kernel
theorem d_Pa_readSelected_18 : decode c_Pa_readSelected 18 = .ok (.istore_n 1, 1) := by decide +kernel
theorem d_Pa_readSelected_19 : decode c_Pa_readSelected 19 = .ok (.iload_n 1, 1) := by decide +kernel
theorem d_Pa_readSelected_20 : decode c_Pa_readSelected 20 = .ok (.bipush 6, 2) := by decide +kernel
theorem d_Pa_readSelected_22 : decode c_Pa_readSelected 22 = .ok (.if_icmp .ge 57, 3) := by decide +kernel
theorem d_Pa_readSelected_25 : decode c_Pa_readSelected 25 = .ok (.aload_n 0, 1) := by decide +kernel
theorem d_Pa_readSelected_26 : decode c_Pa_readSelected 26 = .ok (.getfield 15, 3) := by decide +kernel
theorem d_Pa_readSelected_29 : decode c_Pa_readSelected 29 = .ok (.invokevirtual 50, 3) := by decide +kernel
theorem d_Pa_readSelected_32 : decode c_Pa_readSelected 32 = .ok (.iconst 5, 1) := by decide +kernel
theorem d_Pa_readSelected_33 : decode c_Pa_readSelected 33 = .ok (.if_icmp .ne 46, 3) := by decide +kernel
theorem d_Pa_readSelected_36 : decode c_Pa_readSelected 36 = .ok (.aload_n 0, 1) := by decide +kernel
theorem d_Pa_readSelected_37 : decode c_Pa_readSelected 37 = .ok (.invokevirtual 60, 3) := by decide +kernel
theorem d_Pa_readSelected_40 : decode c_Pa_readSelected 40 = .ok (.ifCond .ne 5, 3) := by decide +kernel
theorem d_Pa_readSelected_43 : decode c_Pa_readSelected 43 = .ok (.iconst 0, 1) := by decide +kernel
theorem d_Pa_readSelected_44 : decode c_Pa_readSelected 44 = .ok (.ireturn, 1) := by decide +kernel
theorem d_Pa_readSelected_45 : decode c_Pa_readSelected 45 = .ok (.aload_n 0, 1) := by decide +kernel
theorem d_Pa_readSelected_46 : decode c_Pa_readSelected 46 = .ok (.getfield 19, 3) := by decide +kernel
theorem d_Pa_readSelected_49 : decode c_Pa_readSelected 49 = .ok (.getfield 63, 3) := by decide +kernel
theorem d_Pa_readSelected_52 : decode c_Pa_readSelected 52 = .ok (.iload_n 1, 1) := by decide +kernel
theorem d_Pa_readSelected_53 : decode c_Pa_readSelected 53 = .ok (.aload_n 0, 1) := by decide +kernel
theorem d_Pa_readSelected_54 : decode c_Pa_readSelected 54 = .ok (.getfield 9, 3) := by decide +kernel
theorem d_Pa_readSelected_57 : decode c_Pa_readSelected 57 = .ok (.ldc2_w 67, 3) := by decide +kernel
theorem d_Pa_readSelected_60 : decode c_Pa_readSelected 60 = .ok (.lxor, 1) := by decide +kernel
theorem d_Pa_readSelected_61 : decode c_Pa_readSelected 61 = .ok (.l2i, 1) := by decide +kernel
theorem d_Pa_readSelected_62 : decode c_Pa_readSelected 62 = .ok (.iastore, 1) := by decide +kernel
theorem d_Pa_readSelected_63 : decode c_Pa_readSelected 63 = .ok (.aload_n 0, 1) := by decide +kernel
theorem d_Pa_readSelected_64 : decode c_Pa_readSelected 64 = .ok (.getfield 19, 3) := by decide +kernel
theorem d_Pa_readSelected_67 : decode c_Pa_readSelected 67 = .ok (.iload_n 1, 1) := by decide +kernel
theorem d_Pa_readSelected_68 : decode c_Pa_readSelected 68 = .ok (.iconst 1, 1) := by decide +kernel
theorem d_Pa_readSelected_69 : decode c_Pa_readSelected 69 = .ok (.iadd, 1) := by decide +kernel
theorem d_Pa_readSelected_70 : decode c_Pa_readSelected 70 = .ok (.putfield 69, 3) := by decide +kernel
theorem d_Pa_readSelected_73 : decode c_Pa_readSelected 73 = .ok (.iinc 1 1, 3) := by decide +kernel
theorem d_Pa_readSelected_76 : decode c_Pa_readSelected 76 = .ok (.goto (-57), 3) := by decide +kernel
theorem d_Pa_readSelected_79 : decode c_Pa_readSelected 79 = .ok (.aload_n 0, 1) := by decide +kernel
theorem d_Pa_readSelected_80 : decode c_Pa_readSelected 80 = .ok (.getfield 19, 3) := by decide +kernel
theorem d_Pa_readSelected_83 : decode c_Pa_readSelected 83 = .ok (.getfield 69, 3) := by decide +kernel
theorem d_Pa_readSelected_86 : decode c_Pa_readSelected 86 = .ok (.ifCond .le 7, 3) := by decide +kernel
theorem d_Pa_readSelected_89 : decode c_Pa_readSelected 89 = .ok (.iconst 1, 1) := by decide +kernel
theorem d_Pa_readSelected_90 : decode c_Pa_readSelected 90 = .ok (.goto 4, 3) := by decide +kernel
theorem d_Pa_readSelected_93 : decode c_Pa_readSelected 93 = .ok (.iconst 0, 1) := by decide +kernel
theorem d_Pa_readSelected_94 : decode c_Pa_readSelected 94 = .ok (.ireturn, 1) := by decide +kernel
theorem d_Pa_readOrder_0 : decode c_Pa_readOrder 0 = .ok (.aload_n 0, 1) := by decide +kernel
theorem d_Pa_readOrder_1 : decode c_Pa_readOrder 1 = .ok (.getfield 15, 3) := by decide +kernel
theorem d_Pa_readOrder_4 : decode c_Pa_readOrder 4 = .ok (.ldc2_w 73, 3) := by decide +kernel
theorem d_Pa_readOrder_7 : decode c_Pa_readOrder 7 = .ok (.invokevirtual 32, 3) := by decide +kernel
theorem d_Pa_readOrder_10 : decode c_Pa_readOrder 10 = .ok (.ifCond .ne 5, 3) := by decide +kernel
theorem d_Pa_readOrder_13 : decode c_Pa_readOrder 13 = .ok (.iconst 1, 1) := by decide +kernel
theorem d_Pa_readOrder_14 : decode c_Pa_readOrder 14 = .ok (.ireturn, 1) := by decide +kernel
theorem d_Pa_readOrder_15 : decode c_Pa_readOrder 15 = .ok (.aload_n 0, 1) := by decide +kernel
theorem d_Pa_readOrder_16 : decode c_Pa_readOrder 16 = .ok (.invokevirtual 60, 3) := by decide +kernel
theorem d_Pa_readOrder_19 : decode c_Pa_readOrder 19 = .ok (.ifCond .ne 5, 3) := by decide +kernel
theorem d_Pa_readOrder_22 : decode c_Pa_readOrder 22 = .ok (.iconst 0, 1) := by decide +kernel
theorem d_Pa_readOrder_23 : decode c_Pa_readOrder 23 = .ok (.ireturn, 1) := by decide +kernel
theorem d_Pa_readOrder_24 : decode c_Pa_readOrder 24 = .ok (.aload_n 0, 1) := by decide +kernel
theorem d_Pa_readOrder_25 : decode c_Pa_readOrder 25 = .ok (.getfield 19, 3) := by decide +kernel
theorem d_Pa_readOrder_28 : decode c_Pa_readOrder 28 = .ok (.aload_n 0, 1) := by decide +kernel
theorem d_Pa_readOrder_29 : decode c_Pa_readOrder 29 = .ok (.getfield 9, 3) := by decide +kernel
theorem d_Pa_readOrder_32 : decode c_Pa_readOrder 32 = .ok (.ldc2_w 67, 3) := by decide +kernel
theorem d_Pa_readOrder_35 : decode c_Pa_readOrder 35 = .ok (.lxor, 1) := by decide +kernel
theorem d_Pa_readOrder_36 : decode c_Pa_readOrder 36 = .ok (.l2i, 1) := by decide +kernel
theorem d_Pa_readOrder_37 : decode c_Pa_readOrder 37 = .ok (.putfield 75, 3) := by decide +kernel
theorem d_Pa_readOrder_40 : decode c_Pa_readOrder 40 = .ok (.aload_n 0, 1) := by decide +kernel
theorem d_Pa_readOrder_41 : decode c_Pa_readOrder 41 = .ok (.getfield 19, 3) := by decide +kernel
theorem d_Pa_readOrder_44 : decode c_Pa_readOrder 44 = .ok (.aload_n 0, 1) := by decide +kernel
theorem d_Pa_readOrder_45 : decode c_Pa_readOrder 45 = .ok (.getfield 15, 3) := by decide +kernel
theorem d_Pa_readOrder_48 : decode c_Pa_readOrder 48 = .ok (.ldc2_w 78, 3) := by decide +kernel
theorem d_Pa_readOrder_51 : decode c_Pa_readOrder 51 = .ok (.invokevirtual 32, 3) := by decide +kernel
theorem d_Pa_readOrder_54 : decode c_Pa_readOrder 54 = .ok (.putfield 80, 3) := by decide +kernel
theorem d_Pa_readOrder_57 : decode c_Pa_readOrder 57 = .ok (.iconst 1, 1) := by decide +kernel
theorem d_Pa_readOrder_58 : decode c_Pa_readOrder 58 = .ok (.ireturn, 1) := by decide +kernel
theorem d_Pa_readLimit_0 : decode c_Pa_readLimit 0 = .ok (.aload_n 0, 1) := by decide +kernel
theorem d_Pa_readLimit_1 : decode c_Pa_readLimit 1 = .ok (.getfield 15, 3) := by decide +kernel
theorem d_Pa_readLimit_4 : decode c_Pa_readLimit 4 = .ok (.ldc2_w 83, 3) := by decide +kernel
theorem d_Pa_readLimit_7 : decode c_Pa_readLimit 7 = .ok (.invokevirtual 32, 3) := by decide +kernel
theorem d_Pa_readLimit_10 : decode c_Pa_readLimit 10 = .ok (.ifCond .ne 5, 3) := by decide +kernel
theorem d_Pa_readLimit_13 : decode c_Pa_readLimit 13 = .ok (.iconst 1, 1) := by decide +kernel
theorem d_Pa_readLimit_14 : decode c_Pa_readLimit 14 = .ok (.ireturn, 1) := by decide +kernel
theorem d_Pa_readLimit_15 : decode c_Pa_readLimit 15 = .ok (.aload_n 0, 1) := by decide +kernel
theorem d_Pa_readLimit_16 : decode c_Pa_readLimit 16 = .ok (.getfield 15, 3) := by decide +kernel
theorem d_Pa_readLimit_19 : decode c_Pa_readLimit 19 = .ok (.invokevirtual 85, 3) := by decide +kernel
theorem d_Pa_readLimit_22 : decode c_Pa_readLimit 22 = .ok (.lstore_n 1, 1) := by decide +kernel
theorem d_Pa_readLimit_23 : decode c_Pa_readLimit 23 = .ok (.aload_n 0, 1) := by decide +kernel
theorem d_Pa_readLimit_24 : decode c_Pa_readLimit 24 = .ok (.getfield 15, 3) := by decide +kernel
theorem d_Pa_readLimit_27 : decode c_Pa_readLimit 27 = .ok (.invokevirtual 50, 3) := by decide +kernel
theorem d_Pa_readLimit_30 : decode c_Pa_readLimit 30 = .ok (.iconst 4, 1) := by decide +kernel
theorem d_Pa_readLimit_31 : decode c_Pa_readLimit 31 = .ok (.if_icmp .ne 10, 3) := by decide +kernel
theorem d_Pa_readLimit_34 : decode c_Pa_readLimit 34 = .ok (.lload_n 1, 1) := by decide +kernel
theorem d_Pa_readLimit_35 : decode c_Pa_readLimit 35 = .ok (.invokestatic 89, 3) := by decide +kernel
theorem d_Pa_readLimit_38 : decode c_Pa_readLimit 38 = .ok (.ifCond .ne 5, 3) := by decide +kernel
theorem d_Pa_readLimit_41 : decode c_Pa_readLimit 41 = .ok (.iconst 0, 1) := by decide +kernel
theorem d_Pa_readLimit_42 : decode c_Pa_readLimit 42 = .ok (.ireturn, 1) := by decide +kernel
theorem d_Pa_readLimit_43 : decode c_Pa_readLimit 43 = .ok (.aload_n 0, 1) := by decide +kernel
theorem d_Pa_readLimit_44 : decode c_Pa_readLimit 44 = .ok (.getfield 19, 3) := by decide +kernel
theorem d_Pa_readLimit_47 : decode c_Pa_readLimit 47 = .ok (.lload_n 1, 1) := by decide +kernel
theorem d_Pa_readLimit_48 : decode c_Pa_readLimit 48 = .ok (.l2i, 1) := by decide +kernel
theorem d_Pa_readLimit_49 : decode c_Pa_readLimit 49 = .ok (.iconst 1, 1) := by decide +kernel
theorem d_Pa_readLimit_50 : decode c_Pa_readLimit 50 = .ok (.isub, 1) := by decide +kernel
theorem d_Pa_readLimit_51 : decode c_Pa_readLimit 51 = .ok (.putfield 94, 3) := by decide +kernel
theorem d_Pa_readLimit_54 : decode c_Pa_readLimit 54 = .ok (.aload_n 0, 1) := by decide +kernel
theorem d_Pa_readLimit_55 : decode c_Pa_readLimit 55 = .ok (.getfield 15, 3) := by decide +kernel
theorem d_Pa_readLimit_58 : decode c_Pa_readLimit 58 = .ok (.invokevirtual 97, 3) := by decide +kernel
theorem d_Pa_readLimit_61 : decode c_Pa_readLimit 61 = .ok (.iconst 1, 1) := by decide +kernel
theorem d_Pa_readLimit_62 : decode c_Pa_readLimit 62 = .ok (.ireturn, 1) := by decide +kernel
theorem d_Pa_readGroup_0 : decode c_Pa_readGroup 0 = .ok (.aload_n 0, 1) := by decide +kernel
theorem d_Pa_readGroup_1 : decode c_Pa_readGroup 1 = .ok (.getfield 15, 3) := by decide +kernel
theorem d_Pa_readGroup_4 : decode c_Pa_readGroup 4 = .ok (.bipush 123, 2) := by decide +kernel
theorem d_Pa_readGroup_6 : decode c_Pa_readGroup 6 = .ok (.invokevirtual 100, 3) := by decide +kernel
theorem d_Pa_readGroup_9 : decode c_Pa_readGroup 9 = .ok (.ifCond .eq 8, 3) := by decide +kernel
theorem d_Pa_readGroup_12 : decode c_Pa_readGroup 12 = .ok (.iload_n 2, 1) := by decide +kernel
theorem d_Pa_readGroup_13 : decode c_Pa_readGroup 13 = .ok (.iconst 4, 1) := by decide +kernel
theorem d_Pa_readGroup_14 : decode c_Pa_readGroup 14 = .ok (.if_icmp .lt 5, 3) := by decide +kernel
theorem d_Pa_readGroup_17 : decode c_Pa_readGroup 17 = .ok (.iconst 0, 1) := by decide +kernel
theorem d_Pa_readGroup_18 : decode c_Pa_readGroup 18 = .ok (.ireturn, 1) := by decide +kernel
theorem d_Pa_readGroup_19 : decode c_Pa_readGroup 19 = .ok (.aload_n 0, 1) := by decide +kernel
theorem d_Pa_readGroup_20 : decode c_Pa_readGroup 20 = .ok (.getfield 19, 3) := by decide +kernel
theorem d_Pa_readGroup_23 : decode c_Pa_readGroup 23 = .ok (.iload_n 1, 1) := by decide +kernel
theorem d_Pa_readGroup_24 : decode c_Pa_readGroup 24 = .ok (.invokevirtual 104, 3) := by decide +kernel
theorem d_Pa_readGroup_27 : decode c_Pa_readGroup 27 = .ok (.istore_n 3, 1) := by decide +kernel
theorem d_Pa_readGroup_28 : decode c_Pa_readGroup 28 = .ok (.iload_n 3, 1) := by decide +kernel
theorem d_Pa_readGroup_29 : decode c_Pa_readGroup 29 = .ok (.iconst (-1), 1) := by decide +kernel
theorem d_Pa_readGroup_30 : decode c_Pa_readGroup 30 = .ok (.if_icmp .ne 5, 3) := by decide +kernel
theorem d_Pa_readGroup_33 : decode c_Pa_readGroup 33 = .ok (.iconst 0, 1) := by decide +kernel
theorem d_Pa_readGroup_34 : decode c_Pa_readGroup 34 = .ok (.ireturn, 1) := by decide +kernel
theorem d_Pa_readGroup_35 : decode c_Pa_readGroup 35 = .ok (.aload_n 0, 1) := by decide +kernel
theorem d_Pa_readGroup_36 : decode c_Pa_readGroup 36 = .ok (.getfield 15, 3) := by decide +kernel
theorem d_Pa_readGroup_39 : decode c_Pa_readGroup 39 = .ok (.invokevirtual 97, 3) := by decide +kernel
theorem d_Pa_readGroup_42 : decode c_Pa_readGroup 42 = .ok (.aload_n 0, 1) := by decide +kernel
theorem d_Pa_readGroup_43 : decode c_Pa_readGroup 43 = .ok (.getfield 15, 3) := by decide +kernel
theorem d_Pa_readGroup_46 : decode c_Pa_readGroup 46 = .ok (.bipush 125, 2) := by decide +kernel
theorem d_Pa_readGroup_48 : decode c_Pa_readGroup 48 = .ok (.invokevirtual 108, 3) := by decide +kernel
theorem d_Pa_readGroup_51 : decode c_Pa_readGroup 51 = .ok (.ifCond .eq 5, 3) := by decide +kernel
theorem d_Pa_readGroup_54 : decode c_Pa_readGroup 54 = .ok (.iconst 1, 1) := by decide +kernel
theorem d_Pa_readGroup_55 : decode c_Pa_readGroup 55 = .ok (.ireturn, 1) := by decide +kernel
theorem d_Pa_readGroup_56 : decode c_Pa_readGroup 56 = .ok (.iconst 0, 1) := by decide +kernel
theorem d_Pa_readGroup_57 : decode c_Pa_readGroup 57 = .ok (.istore 4, 2) := by decide +kernel
theorem d_Pa_readGroup_59 : decode c_Pa_readGroup 59 = .ok (.iload 4, 2) := by decide +kernel
theorem d_Pa_readGroup_61 : decode c_Pa_readGroup 61 = .ok (.bipush 12, 2) := by decide +kernel
theorem d_Pa_readGroup_63 : decode c_Pa_readGroup 63 = .ok (.if_icmp .ge 42, 3) := by decide +kernel
theorem d_Pa_readGroup_66 : decode c_Pa_readGroup 66 = .ok (.aload_n 0, 1) := by decide +kernel
theorem d_Pa_readGroup_67 : decode c_Pa_readGroup 67 = .ok (.iload_n 3, 1) := by decide +kernel
theorem d_Pa_readGroup_68 : decode c_Pa_readGroup 68 = .ok (.iload_n 2, 1) := by decide +kernel
theorem d_Pa_readGroup_69 : decode c_Pa_readGroup 69 = .ok (.invokevirtual 111, 3) := by decide +kernel
theorem d_Pa_readGroup_72 : decode c_Pa_readGroup 72 = .ok (.ifCond .ne 5, 3) := by decide +kernel
theorem d_Pa_readGroup_75 : decode c_Pa_readGroup 75 = .ok (.iconst 0, 1) := by decide +kernel
theorem d_Pa_readGroup_76 : decode c_Pa_readGroup 76 = .ok (.ireturn, 1) := by decide +kernel
theorem d_Pa_readGroup_77 : decode c_Pa_readGroup 77 = .ok (.aload_n 0, 1) := by decide +kernel
theorem d_Pa_readGroup_78 : decode c_Pa_readGroup 78 = .ok (.getfield 15, 3) := by decide +kernel
theorem d_Pa_readGroup_81 : decode c_Pa_readGroup 81 = .ok (.bipush 46, 2) := by decide +kernel
theorem d_Pa_readGroup_83 : decode c_Pa_readGroup 83 = .ok (.invokevirtual 108, 3) := by decide +kernel
theorem d_Pa_readGroup_86 : decode c_Pa_readGroup 86 = .ok (.ifCond .ne 13, 3) := by decide +kernel
theorem d_Pa_readGroup_89 : decode c_Pa_readGroup 89 = .ok (.aload_n 0, 1) := by decide +kernel
theorem d_Pa_readGroup_90 : decode c_Pa_readGroup 90 = .ok (.getfield 15, 3) := by decide +kernel
theorem d_Pa_readGroup_93 : decode c_Pa_readGroup 93 = .ok (.bipush 125, 2) := by decide +kernel
theorem d_Pa_readGroup_95 : decode c_Pa_readGroup 95 = .ok (.invokevirtual 108, 3) := by decide +kernel
theorem d_Pa_readGroup_98 : decode c_Pa_readGroup 98 = .ok (.ireturn, 1) := by decide +kernel
theorem d_Pa_readGroup_99 : decode c_Pa_readGroup 99 = .ok (.iinc 4 1, 3) := by decide +kernel
theorem d_Pa_readGroup_102 : decode c_Pa_readGroup 102 = .ok (.goto (-43), 3) := by decide +kernel
theorem d_Pa_readGroup_105 : decode c_Pa_readGroup 105 = .ok (.iconst 0, 1) := by decide +kernel
theorem d_Pa_readGroup_106 : decode c_Pa_readGroup 106 = .ok (.ireturn, 1) := by decide +kernel
theorem d_Pa_readElement_0 : decode c_Pa_readElement 0 = .ok (.aload_n 0, 1) := by decide +kernel
theorem d_Pa_readElement_1 : decode c_Pa_readElement 1 = .ok (.getfield 19, 3) := by decide +kernel
theorem d_Pa_readElement_4 : decode c_Pa_readElement 4 = .ok (.iload_n 1, 1) := by decide +kernel
theorem d_Pa_readElement_5 : decode c_Pa_readElement 5 = .ok (.invokevirtual 114, 3) := by decide +kernel
theorem d_Pa_readElement_8 : decode c_Pa_readElement 8 = .ok (.istore_n 3, 1) := by decide +kernel
theorem d_Pa_readElement_9 : decode c_Pa_readElement 9 = .ok (.iload_n 3, 1) := by decide +kernel
theorem d_Pa_readElement_10 : decode c_Pa_readElement 10 = .ok (.iconst (-1), 1) := by decide +kernel
theorem d_Pa_readElement_11 : decode c_Pa_readElement 11 = .ok (.if_icmp .ne 5, 3) := by decide +kernel
theorem d_Pa_readElement_14 : decode c_Pa_readElement 14 = .ok (.iconst 0, 1) := by decide +kernel
theorem d_Pa_readElement_15 : decode c_Pa_readElement 15 = .ok (.ireturn, 1) := by decide +kernel
theorem d_Pa_readElement_16 : decode c_Pa_readElement 16 = .ok (.aload_n 0, 1) := by decide +kernel
theorem d_Pa_readElement_17 : decode c_Pa_readElement 17 = .ok (.getfield 19, 3) := by decide +kernel
theorem d_Pa_readElement_20 : decode c_Pa_readElement 20 = .ok (.getfield 117, 3) := by decide +kernel
theorem d_Pa_readElement_23 : decode c_Pa_readElement 23 = .ok (.iload_n 3, 1) := by decide +kernel
theorem d_Pa_readElement_24 : decode c_Pa_readElement 24 = .ok (.aaload, 1) := by decide +kernel
theorem d_Pa_readElement_25 : decode c_Pa_readElement 25 = .ok (.astore 4, 2) := by decide +kernel
theorem d_Pa_readElement_27 : decode c_Pa_readElement 27 = .ok (.aload_n 0, 1) := by decide +kernel
theorem d_Pa_readElement_28 : decode c_Pa_readElement 28 = .ok (.getfield 15, 3) := by decide +kernel
theorem d_Pa_readElement_31 : decode c_Pa_readElement 31 = .ok (.ldc2_w 121, 3) := by decide +kernel
theorem d_Pa_readElement_34 : decode c_Pa_readElement 34 = .ok (.invokevirtual 32, 3) := by decide +kernel
theorem d_Pa_readElement_37 : decode c_Pa_readElement 37 = .ok (.ifCond .eq 44, 3) := by decide +kernel
theorem d_Pa_readElement_40 : decode c_Pa_readElement 40 = .ok (.aload 4, 2) := by decide +kernel
theorem d_Pa_readElement_42 : decode c_Pa_readElement 42 = .ok (.iconst 1, 1) := by decide +kernel
theorem d_Pa_readElement_43 : decode c_Pa_readElement 43 = .ok (.putfield 125, 3) := by decide +kernel
theorem d_Pa_readElement_46 : decode c_Pa_readElement 46 = .ok (.aload_n 0, 1) := by decide +kernel
theorem d_Pa_readElement_47 : decode c_Pa_readElement 47 = .ok (.aload 4, 2) := by decide +kernel
theorem d_Pa_readElement_49 : decode c_Pa_readElement 49 = .ok (.invokevirtual 127, 3) := by decide +kernel
theorem d_Pa_readElement_52 : decode c_Pa_readElement 52 = .ok (.aload_n 0, 1) := by decide +kernel
theorem d_Pa_readElement_53 : decode c_Pa_readElement 53 = .ok (.getfield 15, 3) := by decide +kernel
theorem d_Pa_readElement_56 : decode c_Pa_readElement 56 = .ok (.ldc2_w 131, 3) := by decide +kernel
theorem d_Pa_readElement_59 : decode c_Pa_readElement 59 = .ok (.invokevirtual 32, 3) := by decide +kernel
theorem d_Pa_readElement_62 : decode c_Pa_readElement 62 = .ok (.ifCond .eq 12, 3) := by decide +kernel
theorem d_Pa_readElement_65 : decode c_Pa_readElement 65 = .ok (.aload_n 0, 1) := by decide +kernel
theorem d_Pa_readElement_66 : decode c_Pa_readElement 66 = .ok (.aload 4, 2) := by decide +kernel
theorem d_Pa_readElement_68 : decode c_Pa_readElement 68 = .ok (.invokevirtual 133, 3) := by decide +kernel
theorem d_Pa_readElement_71 : decode c_Pa_readElement 71 = .ok (.goto 9, 3) := by decide +kernel
theorem d_Pa_readElement_74 : decode c_Pa_readElement 74 = .ok (.aload_n 0, 1) := by decide +kernel
theorem d_Pa_readElement_75 : decode c_Pa_readElement 75 = .ok (.aload 4, 2) := by decide +kernel
theorem d_Pa_readElement_77 : decode c_Pa_readElement 77 = .ok (.invokevirtual 137, 3) := by decide +kernel
theorem d_Pa_readElement_80 : decode c_Pa_readElement 80 = .ok (.ireturn, 1) := by decide +kernel
theorem d_Pa_readElement_81 : decode c_Pa_readElement 81 = .ok (.aload_n 0, 1) := by decide +kernel
theorem d_Pa_readElement_82 : decode c_Pa_readElement 82 = .ok (.getfield 15, 3) := by decide +kernel
theorem d_Pa_readElement_85 : decode c_Pa_readElement 85 = .ok (.ldc2_w 140, 3) := by decide +kernel
theorem d_Pa_readElement_88 : decode c_Pa_readElement 88 = .ok (.invokevirtual 32, 3) := by decide +kernel
theorem d_Pa_readElement_91 : decode c_Pa_readElement 91 = .ok (.ifCond .eq 18, 3) := by decide +kernel
theorem d_Pa_readElement_94 : decode c_Pa_readElement 94 = .ok (.aload 4, 2) := by decide +kernel
theorem d_Pa_readElement_96 : decode c_Pa_readElement 96 = .ok (.iconst 2, 1) := by decide +kernel
theorem d_Pa_readElement_97 : decode c_Pa_readElement 97 = .ok (.putfield 125, 3) := by decide +kernel
theorem d_Pa_readElement_100 : decode c_Pa_readElement 100 = .ok (.aload_n 0, 1) := by decide +kernel
theorem d_Pa_readElement_101 : decode c_Pa_readElement 101 = .ok (.iload_n 3, 1) := by decide +kernel
theorem d_Pa_readElement_102 : decode c_Pa_readElement 102 = .ok (.iload_n 2, 1) := by decide +kernel
theorem d_Pa_readElement_103 : decode c_Pa_readElement 103 = .ok (.iconst 1, 1) := by decide +kernel
theorem d_Pa_readElement_104 : decode c_Pa_readElement 104 = .ok (.iadd, 1) := by decide +kernel
theorem d_Pa_readElement_105 : decode c_Pa_readElement 105 = .ok (.invokevirtual 40, 3) := by decide +kernel
theorem d_Pa_readElement_108 : decode c_Pa_readElement 108 = .ok (.ireturn, 1) := by decide +kernel
theorem d_Pa_readElement_109 : decode c_Pa_readElement 109 = .ok (.aload_n 0, 1) := by decide +kernel
theorem d_Pa_readElement_110 : decode c_Pa_readElement 110 = .ok (.getfield 15, 3) := by decide +kernel
theorem d_Pa_readElement_113 : decode c_Pa_readElement 113 = .ok (.ldc2_w 142, 3) := by decide +kernel
theorem d_Pa_readElement_116 : decode c_Pa_readElement 116 = .ok (.invokevirtual 32, 3) := by decide +kernel
theorem d_Pa_readElement_119 : decode c_Pa_readElement 119 = .ok (.ifCond .eq 18, 3) := by decide +kernel
theorem d_Pa_readElement_122 : decode c_Pa_readElement 122 = .ok (.aload 4, 2) := by decide +kernel
theorem d_Pa_readElement_124 : decode c_Pa_readElement 124 = .ok (.iconst 3, 1) := by decide +kernel
theorem d_Pa_readElement_125 : decode c_Pa_readElement 125 = .ok (.putfield 125, 3) := by decide +kernel
theorem d_Pa_readElement_128 : decode c_Pa_readElement 128 = .ok (.aload_n 0, 1) := by decide +kernel
theorem d_Pa_readElement_129 : decode c_Pa_readElement 129 = .ok (.iload_n 3, 1) := by decide +kernel
theorem d_Pa_readElement_130 : decode c_Pa_readElement 130 = .ok (.iload_n 2, 1) := by decide +kernel
theorem d_Pa_readElement_131 : decode c_Pa_readElement 131 = .ok (.iconst 1, 1) := by decide +kernel
theorem d_Pa_readElement_132 : decode c_Pa_readElement 132 = .ok (.iadd, 1) := by decide +kernel
theorem d_Pa_readElement_133 : decode c_Pa_readElement 133 = .ok (.invokevirtual 40, 3) := by decide +kernel
theorem d_Pa_readElement_136 : decode c_Pa_readElement 136 = .ok (.ireturn, 1) := by decide +kernel
theorem d_Pa_readElement_137 : decode c_Pa_readElement 137 = .ok (.aload_n 0, 1) := by decide +kernel
theorem d_Pa_readElement_138 : decode c_Pa_readElement 138 = .ok (.getfield 15, 3) := by decide +kernel
theorem d_Pa_readElement_141 : decode c_Pa_readElement 141 = .ok (.bipush 123, 2) := by decide +kernel
theorem d_Pa_readElement_143 : decode c_Pa_readElement 143 = .ok (.invokevirtual 100, 3) := by decide +kernel
theorem d_Pa_readElement_146 : decode c_Pa_readElement 146 = .ok (.ifCond .eq 18, 3) := by decide +kernel
theorem d_Pa_readElement_149 : decode c_Pa_readElement 149 = .ok (.aload 4, 2) := by decide +kernel
theorem d_Pa_readElement_151 : decode c_Pa_readElement 151 = .ok (.iconst 4, 1) := by decide +kernel
theorem d_Pa_readElement_152 : decode c_Pa_readElement 152 = .ok (.putfield 125, 3) := by decide +kernel
theorem d_Pa_readElement_155 : decode c_Pa_readElement 155 = .ok (.aload_n 0, 1) := by decide +kernel
theorem d_Pa_readElement_156 : decode c_Pa_readElement 156 = .ok (.iload_n 3, 1) := by decide +kernel
theorem d_Pa_readElement_157 : decode c_Pa_readElement 157 = .ok (.iload_n 2, 1) := by decide +kernel
theorem d_Pa_readElement_158 : decode c_Pa_readElement 158 = .ok (.iconst 1, 1) := by decide +kernel
theorem d_Pa_readElement_159 : decode c_Pa_readElement 159 = .ok (.iadd, 1) := by decide +kernel
theorem d_Pa_readElement_160 : decode c_Pa_readElement 160 = .ok (.invokevirtual 144, 3) := by decide +kernel
theorem d_Pa_readElement_163 : decode c_Pa_readElement 163 = .ok (.ireturn, 1) := by decide +kernel
theorem d_Pa_readElement_164 : decode c_Pa_readElement 164 = .ok (.aload 4, 2) := by decide +kernel
theorem d_Pa_readElement_166 : decode c_Pa_readElement 166 = .ok (.iconst 0, 1) := by decide +kernel
theorem d_Pa_readElement_167 : decode c_Pa_readElement 167 = .ok (.putfield 125, 3) := by decide +kernel
theorem d_Pa_readElement_170 : decode c_Pa_readElement 170 = .ok (.aload_n 0, 1) := by decide +kernel
theorem d_Pa_readElement_171 : decode c_Pa_readElement 171 = .ok (.aload 4, 2) := by decide +kernel
theorem d_Pa_readElement_173 : decode c_Pa_readElement 173 = .ok (.invokevirtual 147, 3) := by decide +kernel
theorem d_Pa_readElement_176 : decode c_Pa_readElement 176 = .ok (.ireturn, 1) := by decide +kernel
theorem d_Pa_readUnion_0 : decode c_Pa_readUnion 0 = .ok (.iconst 0, 1) := by decide +kernel
theorem d_Pa_readUnion_1 : decode c_Pa_readUnion 1 = .ok (.istore_n 3, 1) := by decide +kernel
theorem d_Pa_readUnion_2 : decode c_Pa_readUnion 2 = .ok (.iload_n 3, 1) := by decide +kernel
theorem d_Pa_readUnion_3 : decode c_Pa_readUnion 3 = .ok (.bipush 12, 2) := by decide +kernel
theorem d_Pa_readUnion_5 : decode c_Pa_readUnion 5 = .ok (.if_icmp .ge 35, 3) := by decide +kernel
theorem d_Pa_readUnion_8 : decode c_Pa_readUnion 8 = .ok (.aload_n 0, 1) := by decide +kernel
theorem d_Pa_readUnion_9 : decode c_Pa_readUnion 9 = .ok (.iload_n 1, 1) := by decide +kernel
theorem d_Pa_readUnion_10 : decode c_Pa_readUnion 10 = .ok (.iload_n 2, 1) := by decide +kernel
theorem d_Pa_readUnion_11 : decode c_Pa_readUnion 11 = .ok (.invokevirtual 40, 3) := by decide +kernel
theorem d_Pa_readUnion_14 : decode c_Pa_readUnion 14 = .ok (.ifCond .ne 5, 3) := by decide +kernel
theorem d_Pa_readUnion_17 : decode c_Pa_readUnion 17 = .ok (.iconst 0, 1) := by decide +kernel
theorem d_Pa_readUnion_18 : decode c_Pa_readUnion 18 = .ok (.ireturn, 1) := by decide +kernel
theorem d_Pa_readUnion_19 : decode c_Pa_readUnion 19 = .ok (.aload_n 0, 1) := by decide +kernel
theorem d_Pa_readUnion_20 : decode c_Pa_readUnion 20 = .ok (.getfield 15, 3) := by decide +kernel
theorem d_Pa_readUnion_23 : decode c_Pa_readUnion 23 = .ok (.ldc2_w 150, 3) := by decide +kernel
theorem d_Pa_readUnion_26 : decode c_Pa_readUnion 26 = .ok (.invokevirtual 32, 3) := by decide +kernel
theorem d_Pa_readUnion_29 : decode c_Pa_readUnion 29 = .ok (.ifCond .ne 5, 3) := by decide +kernel
theorem d_Pa_readUnion_32 : decode c_Pa_readUnion 32 = .ok (.iconst 1, 1) := by decide +kernel
theorem d_Pa_readUnion_33 : decode c_Pa_readUnion 33 = .ok (.ireturn, 1) := by decide +kernel
theorem d_Pa_readUnion_34 : decode c_Pa_readUnion 34 = .ok (.iinc 3 1, 3) := by decide +kernel
theorem d_Pa_readUnion_37 : decode c_Pa_readUnion 37 = .ok (.goto (-35), 3) := by decide +kernel
theorem d_Pa_readUnion_40 : decode c_Pa_readUnion 40 = .ok (.iconst 0, 1) := by decide +kernel
theorem d_Pa_readUnion_41 : decode c_Pa_readUnion 41 = .ok (.ireturn, 1) := by decide +kernel
theorem d_Pa_readPattern_0 : decode c_Pa_readPattern 0 = .ok (.aload_n 0, 1) := by decide +kernel
theorem d_Pa_readPattern_1 : decode c_Pa_readPattern 1 = .ok (.invokevirtual 152, 3) := by decide +kernel
theorem d_Pa_readPattern_4 : decode c_Pa_readPattern 4 = .ok (.ifCond .ne 5, 3) := by decide +kernel
theorem d_Pa_readPattern_7 : decode c_Pa_readPattern 7 = .ok (.iconst 0, 1) := by decide +kernel
theorem d_Pa_readPattern_8 : decode c_Pa_readPattern 8 = .ok (.ireturn, 1) := by decide +kernel
theorem d_Pa_readPattern_9 : decode c_Pa_readPattern 9 = .ok (.aload_n 1, 1) := by decide +kernel
theorem d_Pa_readPattern_10 : decode c_Pa_readPattern 10 = .ok (.aload_n 0, 1) := by decide +kernel
theorem d_Pa_readPattern_11 : decode c_Pa_readPattern 11 = .ok (.getfield 9, 3) := by decide +kernel
theorem d_Pa_readPattern_14 : decode c_Pa_readPattern 14 = .ok (.putfield 155, 3) := by decide +kernel
theorem d_Pa_readPattern_17 : decode c_Pa_readPattern 17 = .ok (.aload_n 0, 1) := by decide +kernel
theorem d_Pa_readPattern_18 : decode c_Pa_readPattern 18 = .ok (.invokevirtual 152, 3) := by decide +kernel
theorem d_Pa_readPattern_21 : decode c_Pa_readPattern 21 = .ok (.ifCond .ne 5, 3) := by decide +kernel
theorem d_Pa_readPattern_24 : decode c_Pa_readPattern 24 = .ok (.iconst 0, 1) := by decide +kernel
theorem d_Pa_readPattern_25 : decode c_Pa_readPattern 25 = .ok (.ireturn, 1) := by decide +kernel
theorem d_Pa_readPattern_26 : decode c_Pa_readPattern 26 = .ok (.aload_n 1, 1) := by decide +kernel
theorem d_Pa_readPattern_27 : decode c_Pa_readPattern 27 = .ok (.aload_n 0, 1) := by decide +kernel
theorem d_Pa_readPattern_28 : decode c_Pa_readPattern 28 = .ok (.getfield 9, 3) := by decide +kernel
theorem d_Pa_readPattern_31 : decode c_Pa_readPattern 31 = .ok (.putfield 158, 3) := by decide +kernel
theorem d_Pa_readPattern_34 : decode c_Pa_readPattern 34 = .ok (.aload_n 0, 1) := by decide +kernel
theorem d_Pa_readPattern_35 : decode c_Pa_readPattern 35 = .ok (.invokevirtual 152, 3) := by decide +kernel
theorem d_Pa_readPattern_38 : decode c_Pa_readPattern 38 = .ok (.ifCond .ne 5, 3) := by decide +kernel
theorem d_Pa_readPattern_41 : decode c_Pa_readPattern 41 = .ok (.iconst 0, 1) := by decide +kernel
theorem d_Pa_readPattern_42 : decode c_Pa_readPattern 42 = .ok (.ireturn, 1) := by decide +kernel
theorem d_Pa_readPattern_43 : decode c_Pa_readPattern 43 = .ok (.aload_n 1, 1) := by decide +kernel
theorem d_Pa_readPattern_44 : decode c_Pa_readPattern 44 = .ok (.aload_n 0, 1) := by decide +kernel
theorem d_Pa_readPattern_45 : decode c_Pa_readPattern 45 = .ok (.getfield 9, 3) := by decide +kernel
theorem d_Pa_readPattern_48 : decode c_Pa_readPattern 48 = .ok (.putfield 161, 3) := by decide +kernel
theorem d_Pa_readPattern_51 : decode c_Pa_readPattern 51 = .ok (.iconst 1, 1) := by decide +kernel
theorem d_Pa_readPattern_52 : decode c_Pa_readPattern 52 = .ok (.ireturn, 1) := by decide +kernel
theorem d_Pa_readNots_0 : decode c_Pa_readNots 0 = .ok (.aload_n 1, 1) := by decide +kernel
theorem d_Pa_readNots_1 : decode c_Pa_readNots 1 = .ok (.iconst 0, 1) := by decide +kernel
theorem d_Pa_readNots_2 : decode c_Pa_readNots 2 = .ok (.putfield 164, 3) := by decide +kernel
theorem d_Pa_readNots_5 : decode c_Pa_readNots 5 = .ok (.iconst 0, 1) := by decide +kernel
theorem d_Pa_readNots_6 : decode c_Pa_readNots 6 = .ok (.istore_n 2, 1) := by decide +kernel
theorem d_Pa_readNots_7 : decode c_Pa_readNots 7 = .ok (.iload_n 2, 1) := by decide +kernel
theorem d_Pa_readNots_8 : decode c_Pa_readNots 8 = .ok (.iconst 4, 1) := by decide +kernel
theorem d_Pa_readNots_9 : decode c_Pa_readNots 9 = .ok (.if_icmp .ge 38, 3) := by decide +kernel
theorem d_Pa_readNots_12 : decode c_Pa_readNots 12 = .ok (.aload_n 0, 1) := by decide +kernel
theorem d_Pa_readNots_13 : decode c_Pa_readNots 13 = .ok (.getfield 15, 3) := by decide +kernel
theorem d_Pa_readNots_16 : decode c_Pa_readNots 16 = .ok (.ldc2_w 167, 3) := by decide +kernel
theorem d_Pa_readNots_19 : decode c_Pa_readNots 19 = .ok (.invokevirtual 32, 3) := by decide +kernel
theorem d_Pa_readNots_22 : decode c_Pa_readNots 22 = .ok (.ifCond .eq 25, 3) := by decide +kernel
theorem d_Pa_readNots_25 : decode c_Pa_readNots 25 = .ok (.aload_n 1, 1) := by decide +kernel
theorem d_Pa_readNots_26 : decode c_Pa_readNots 26 = .ok (.aload_n 1, 1) := by decide +kernel
theorem d_Pa_readNots_27 : decode c_Pa_readNots 27 = .ok (.getfield 164, 3) := by decide +kernel
theorem d_Pa_readNots_30 : decode c_Pa_readNots 30 = .ok (.ifCond .ne 7, 3) := by decide +kernel
theorem d_Pa_readNots_33 : decode c_Pa_readNots 33 = .ok (.iconst 1, 1) := by decide +kernel
theorem d_Pa_readNots_34 : decode c_Pa_readNots 34 = .ok (.goto 4, 3) := by decide +kernel
theorem d_Pa_readNots_37 : decode c_Pa_readNots 37 = .ok (.iconst 0, 1) := by decide +kernel
theorem d_Pa_readNots_38 : decode c_Pa_readNots 38 = .ok (.putfield 164, 3) := by decide +kernel
theorem d_Pa_readNots_41 : decode c_Pa_readNots 41 = .ok (.iinc 2 1, 3) := by decide +kernel
theorem d_Pa_readNots_44 : decode c_Pa_readNots 44 = .ok (.goto (-37), 3) := by decide +kernel
theorem d_Pa_readNots_47 : decode c_Pa_readNots 47 = .ok (.return_, 1) := by decide +kernel
theorem d_Pa_readBound_0 : decode c_Pa_readBound 0 = .ok (.aload_n 0, 1) := by decide +kernel
theorem d_Pa_readBound_1 : decode c_Pa_readBound 1 = .ok (.invokevirtual 60, 3) := by decide +kernel
theorem d_Pa_readBound_4 : decode c_Pa_readBound 4 = .ok (.istore_n 2, 1) := by decide +kernel
theorem d_Pa_readBound_5 : decode c_Pa_readBound 5 = .ok (.aload_n 1, 1) := by decide +kernel
theorem d_Pa_readBound_6 : decode c_Pa_readBound 6 = .ok (.aload_n 0, 1) := by decide +kernel
theorem d_Pa_readBound_7 : decode c_Pa_readBound 7 = .ok (.getfield 9, 3) := by decide +kernel
theorem d_Pa_readBound_10 : decode c_Pa_readBound 10 = .ok (.putfield 155, 3) := by decide +kernel
theorem d_Pa_readBound_13 : decode c_Pa_readBound 13 = .ok (.aload_n 1, 1) := by decide +kernel
theorem d_Pa_readBound_14 : decode c_Pa_readBound 14 = .ok (.bipush 98, 2) := by decide +kernel
theorem d_Pa_readBound_16 : decode c_Pa_readBound 16 = .ok (.putfield 169, 3) := by decide +kernel
theorem d_Pa_readBound_19 : decode c_Pa_readBound 19 = .ok (.iload_n 2, 1) := by decide +kernel
theorem d_Pa_readBound_20 : decode c_Pa_readBound 20 = .ok (.ireturn, 1) := by decide +kernel
theorem d_Pa_readComparison_0 : decode c_Pa_readComparison 0 = .ok (.aload_n 0, 1) := by decide +kernel
theorem d_Pa_readComparison_1 : decode c_Pa_readComparison 1 = .ok (.invokevirtual 152, 3) := by decide +kernel
theorem d_Pa_readComparison_4 : decode c_Pa_readComparison 4 = .ok (.ifCond .ne 5, 3) := by decide +kernel
theorem d_Pa_readComparison_7 : decode c_Pa_readComparison 7 = .ok (.iconst 0, 1) := by decide +kernel
theorem d_Pa_readComparison_8 : decode c_Pa_readComparison 8 = .ok (.ireturn, 1) := by decide +kernel
theorem d_Pa_readComparison_9 : decode c_Pa_readComparison 9 = .ok (.aload_n 1, 1) := by decide +kernel
theorem d_Pa_readComparison_10 : decode c_Pa_readComparison 10 = .ok (.aload_n 0, 1) := by decide +kernel
theorem d_Pa_readComparison_11 : decode c_Pa_readComparison 11 = .ok (.getfield 9, 3) := by decide +kernel
theorem d_Pa_readComparison_14 : decode c_Pa_readComparison 14 = .ok (.putfield 155, 3) := by decide +kernel
theorem d_Pa_readComparison_17 : decode c_Pa_readComparison 17 = .ok (.aload_n 0, 1) := by decide +kernel
theorem d_Pa_readComparison_18 : decode c_Pa_readComparison 18 = .ok (.invokevirtual 172, 3) := by decide +kernel
theorem d_Pa_readComparison_21 : decode c_Pa_readComparison 21 = .ok (.ifCond .ne 5, 3) := by decide +kernel
theorem d_Pa_readComparison_24 : decode c_Pa_readComparison 24 = .ok (.iconst 0, 1) := by decide +kernel
theorem d_Pa_readComparison_25 : decode c_Pa_readComparison 25 = .ok (.ireturn, 1) := by decide +kernel
theorem d_Pa_readComparison_26 : decode c_Pa_readComparison 26 = .ok (.aload_n 1, 1) := by decide +kernel
theorem d_Pa_readComparison_27 : decode c_Pa_readComparison 27 = .ok (.aload_n 0, 1) := by decide +kernel
theorem d_Pa_readComparison_28 : decode c_Pa_readComparison 28 = .ok (.getfield 15, 3) := by decide +kernel
theorem d_Pa_readComparison_31 : decode c_Pa_readComparison 31 = .ok (.invokevirtual 85, 3) := by decide +kernel
theorem d_Pa_readComparison_34 : decode c_Pa_readComparison 34 = .ok (.l2i, 1) := by decide +kernel
theorem d_Pa_readComparison_35 : decode c_Pa_readComparison 35 = .ok (.putfield 169, 3) := by decide +kernel
theorem d_Pa_readComparison_38 : decode c_Pa_readComparison 38 = .ok (.aload_n 0, 1) := by decide +kernel
theorem d_Pa_readComparison_39 : decode c_Pa_readComparison 39 = .ok (.getfield 15, 3) := by decide +kernel
theorem d_Pa_readComparison_42 : decode c_Pa_readComparison 42 = .ok (.invokevirtual 97, 3) := by decide +kernel
theorem d_Pa_readComparison_45 : decode c_Pa_readComparison 45 = .ok (.aload_n 0, 1) := by decide +kernel
theorem d_Pa_readComparison_46 : decode c_Pa_readComparison 46 = .ok (.invokevirtual 152, 3) := by decide +kernel
theorem d_Pa_readComparison_49 : decode c_Pa_readComparison 49 = .ok (.istore_n 2, 1) := by decide +kernel
theorem d_Pa_readComparison_50 : decode c_Pa_readComparison 50 = .ok (.aload_n 1, 1) := by decide +kernel
theorem d_Pa_readComparison_51 : decode c_Pa_readComparison 51 = .ok (.aload_n 0, 1) := by decide +kernel
theorem d_Pa_readComparison_52 : decode c_Pa_readComparison 52 = .ok (.getfield 9, 3) := by decide +kernel
theorem d_Pa_readComparison_55 : decode c_Pa_readComparison 55 = .ok (.putfield 158, 3) := by decide +kernel
theorem d_Pa_readComparison_58 : decode c_Pa_readComparison 58 = .ok (.iload_n 2, 1) := by decide +kernel
theorem d_Pa_readComparison_59 : decode c_Pa_readComparison 59 = .ok (.ireturn, 1) := by decide +kernel
theorem d_Pa_isAtComparison_0 : decode c_Pa_isAtComparison 0 = .ok (.aload_n 0, 1) := by decide +kernel
theorem d_Pa_isAtComparison_1 : decode c_Pa_isAtComparison 1 = .ok (.getfield 15, 3) := by decide +kernel
theorem d_Pa_isAtComparison_4 : decode c_Pa_isAtComparison 4 = .ok (.bipush 61, 2) := by decide +kernel
theorem d_Pa_isAtComparison_6 : decode c_Pa_isAtComparison 6 = .ok (.invokevirtual 100, 3) := by decide +kernel
theorem d_Pa_isAtComparison_9 : decode c_Pa_isAtComparison 9 = .ok (.ifCond .ne 39, 3) := by decide +kernel
theorem d_Pa_isAtComparison_12 : decode c_Pa_isAtComparison 12 = .ok (.aload_n 0, 1) := by decide +kernel
theorem d_Pa_isAtComparison_13 : decode c_Pa_isAtComparison 13 = .ok (.getfield 15, 3) := by decide +kernel
theorem d_Pa_isAtComparison_16 : decode c_Pa_isAtComparison 16 = .ok (.bipush 33, 2) := by decide +kernel
theorem d_Pa_isAtComparison_18 : decode c_Pa_isAtComparison 18 = .ok (.invokevirtual 100, 3) := by decide +kernel
theorem d_Pa_isAtComparison_21 : decode c_Pa_isAtComparison 21 = .ok (.ifCond .ne 27, 3) := by decide +kernel
theorem d_Pa_isAtComparison_24 : decode c_Pa_isAtComparison 24 = .ok (.aload_n 0, 1) := by decide +kernel
theorem d_Pa_isAtComparison_25 : decode c_Pa_isAtComparison 25 = .ok (.getfield 15, 3) := by decide +kernel
theorem d_Pa_isAtComparison_28 : decode c_Pa_isAtComparison 28 = .ok (.bipush 60, 2) := by decide +kernel
theorem d_Pa_isAtComparison_30 : decode c_Pa_isAtComparison 30 = .ok (.invokevirtual 100, 3) := by decide +kernel
theorem d_Pa_isAtComparison_33 : decode c_Pa_isAtComparison 33 = .ok (.ifCond .ne 15, 3) := by decide +kernel
theorem d_Pa_isAtComparison_36 : decode c_Pa_isAtComparison 36 = .ok (.aload_n 0, 1) := by decide +kernel
theorem d_Pa_isAtComparison_37 : decode c_Pa_isAtComparison 37 = .ok (.getfield 15, 3) := by decide +kernel
theorem d_Pa_isAtComparison_40 : decode c_Pa_isAtComparison 40 = .ok (.bipush 62, 2) := by decide +kernel
theorem d_Pa_isAtComparison_42 : decode c_Pa_isAtComparison 42 = .ok (.invokevirtual 100, 3) := by decide +kernel
theorem d_Pa_isAtComparison_45 : decode c_Pa_isAtComparison 45 = .ok (.ifCond .eq 7, 3) := by decide +kernel
theorem d_Pa_isAtComparison_48 : decode c_Pa_isAtComparison 48 = .ok (.iconst 1, 1) := by decide +kernel
theorem d_Pa_isAtComparison_49 : decode c_Pa_isAtComparison 49 = .ok (.goto 4, 3) := by decide +kernel
theorem d_Pa_isAtComparison_52 : decode c_Pa_isAtComparison 52 = .ok (.iconst 0, 1) := by decide +kernel
theorem d_Pa_isAtComparison_53 : decode c_Pa_isAtComparison 53 = .ok (.ireturn, 1) := by decide +kernel
theorem d_Pa_readSide_0 : decode c_Pa_readSide 0 = .ok (.aload_n 0, 1) := by decide +kernel
theorem d_Pa_readSide_1 : decode c_Pa_readSide 1 = .ok (.getfield 15, 3) := by decide +kernel
theorem d_Pa_readSide_4 : decode c_Pa_readSide 4 = .ok (.invokevirtual 50, 3) := by decide +kernel
theorem d_Pa_readSide_7 : decode c_Pa_readSide 7 = .ok (.iconst 4, 1) := by decide +kernel
theorem d_Pa_readSide_8 : decode c_Pa_readSide 8 = .ok (.if_icmp .eq 8, 3) := by decide +kernel
theorem d_Pa_readSide_11 : decode c_Pa_readSide 11 = .ok (.aload_n 0, 1) := by decide +kernel
theorem d_Pa_readSide_12 : decode c_Pa_readSide 12 = .ok (.invokevirtual 60, 3) := by decide +kernel
theorem d_Pa_readSide_15 : decode c_Pa_readSide 15 = .ok (.ireturn, 1) := by decide +kernel
theorem d_Pa_readSide_16 : decode c_Pa_readSide 16 = .ok (.aload_n 0, 1) := by decide +kernel
theorem d_Pa_readSide_17 : decode c_Pa_readSide 17 = .ok (.aload_n 0, 1) := by decide +kernel
theorem d_Pa_readSide_18 : decode c_Pa_readSide 18 = .ok (.getfield 15, 3) := by decide +kernel
theorem d_Pa_readSide_21 : decode c_Pa_readSide 21 = .ok (.invokevirtual 85, 3) := by decide +kernel
theorem d_Pa_readSide_24 : decode c_Pa_readSide 24 = .ok (.putfield 9, 3) := by decide +kernel
theorem d_Pa_readSide_27 : decode c_Pa_readSide 27 = .ok (.aload_n 0, 1) := by decide +kernel
theorem d_Pa_readSide_28 : decode c_Pa_readSide 28 = .ok (.getfield 15, 3) := by decide +kernel
theorem d_Pa_readSide_31 : decode c_Pa_readSide 31 = .ok (.invokevirtual 97, 3) := by decide +kernel
theorem d_Pa_readSide_34 : decode c_Pa_readSide 34 = .ok (.iconst 1, 1) := by decide +kernel
theorem d_Pa_readSide_35 : decode c_Pa_readSide 35 = .ok (.ireturn, 1) := by decide +kernel
theorem d_Pa_readVariable_0 : decode c_Pa_readVariable 0 = .ok (.aload_n 0, 1) := by decide +kernel
theorem d_Pa_readVariable_1 : decode c_Pa_readVariable 1 = .ok (.getfield 15, 3) := by decide +kernel
theorem d_Pa_readVariable_4 : decode c_Pa_readVariable 4 = .ok (.invokevirtual 50, 3) := by decide +kernel
theorem d_Pa_readVariable_7 : decode c_Pa_readVariable 7 = .ok (.iconst 5, 1) := by decide +kernel
theorem d_Pa_readVariable_8 : decode c_Pa_readVariable 8 = .ok (.if_icmp .eq 5, 3) := by decide +kernel
theorem d_Pa_readVariable_11 : decode c_Pa_readVariable 11 = .ok (.iconst 0, 1) := by decide +kernel
theorem d_Pa_readVariable_12 : decode c_Pa_readVariable 12 = .ok (.ireturn, 1) := by decide +kernel
theorem d_Pa_readVariable_13 : decode c_Pa_readVariable 13 = .ok (.aload_n 0, 1) := by decide +kernel
theorem d_Pa_readVariable_14 : decode c_Pa_readVariable 14 = .ok (.getfield 19, 3) := by decide +kernel
theorem d_Pa_readVariable_17 : decode c_Pa_readVariable 17 = .ok (.aload_n 0, 1) := by decide +kernel
theorem d_Pa_readVariable_18 : decode c_Pa_readVariable 18 = .ok (.getfield 15, 3) := by decide +kernel
theorem d_Pa_readVariable_21 : decode c_Pa_readVariable 21 = .ok (.invokevirtual 85, 3) := by decide +kernel
theorem d_Pa_readVariable_24 : decode c_Pa_readVariable 24 = .ok (.invokevirtual 175, 3) := by decide +kernel
theorem d_Pa_readVariable_27 : decode c_Pa_readVariable 27 = .ok (.istore_n 1, 1) := by decide +kernel
theorem d_Pa_readVariable_28 : decode c_Pa_readVariable 28 = .ok (.iload_n 1, 1) := by decide +kernel
theorem d_Pa_readVariable_29 : decode c_Pa_readVariable 29 = .ok (.iconst (-1), 1) := by decide +kernel
theorem d_Pa_readVariable_30 : decode c_Pa_readVariable 30 = .ok (.if_icmp .ne 5, 3) := by decide +kernel
theorem d_Pa_readVariable_33 : decode c_Pa_readVariable 33 = .ok (.iconst 0, 1) := by decide +kernel
theorem d_Pa_readVariable_34 : decode c_Pa_readVariable 34 = .ok (.ireturn, 1) := by decide +kernel
theorem d_Pa_readVariable_35 : decode c_Pa_readVariable 35 = .ok (.aload_n 0, 1) := by decide +kernel
theorem d_Pa_readVariable_36 : decode c_Pa_readVariable 36 = .ok (.iload_n 1, 1) := by decide +kernel
theorem d_Pa_readVariable_37 : decode c_Pa_readVariable 37 = .ok (.iconst (-1), 1) := by decide +kernel
theorem d_Pa_readVariable_38 : decode c_Pa_readVariable 38 = .ok (.ixor, 1) := by decide +kernel
theorem d_Pa_readVariable_39 : decode c_Pa_readVariable 39 = .ok (.i2l, 1) := by decide +kernel
theorem d_Pa_readVariable_40 : decode c_Pa_readVariable 40 = .ok (.putfield 9, 3) := by decide +kernel
theorem d_Pa_readVariable_43 : decode c_Pa_readVariable 43 = .ok (.aload_n 0, 1) := by decide +kernel
theorem d_Pa_readVariable_44 : decode c_Pa_readVariable 44 = .ok (.getfield 15, 3) := by decide +kernel
theorem d_Pa_readVariable_47 : decode c_Pa_readVariable 47 = .ok (.invokevirtual 97, 3) := by decide +kernel
theorem d_Pa_readVariable_50 : decode c_Pa_readVariable 50 = .ok (.iconst 1, 1) := by decide +kernel
theorem d_Pa_readVariable_51 : decode c_Pa_readVariable 51 = .ok (.ireturn, 1) := by decide +kernel
theorem d_Qu_init_0 : decode c_Qu_init 0 = .ok (.aload_n 0, 1) := by decide +kernel
theorem d_Qu_init_1 : decode c_Qu_init 1 = .ok (.invokespecial 3, 3) := by decide +kernel
theorem d_Qu_init_4 : decode c_Qu_init 4 = .ok (.aload_n 0, 1) := by decide +kernel
theorem d_Qu_init_5 : decode c_Qu_init 5 = .ok (.bipush 6, 2) := by decide +kernel
theorem d_Qu_init_7 : decode c_Qu_init 7 = .ok (.newarray .long, 2) := by decide +kernel
theorem d_Qu_init_9 : decode c_Qu_init 9 = .ok (.putfield 9, 3) := by decide +kernel
theorem d_Qu_init_12 : decode c_Qu_init 12 = .ok (.aload_n 0, 1) := by decide +kernel
theorem d_Qu_init_13 : decode c_Qu_init 13 = .ok (.iconst 0, 1) := by decide +kernel
theorem d_Qu_init_14 : decode c_Qu_init 14 = .ok (.putfield 15, 3) := by decide +kernel
theorem d_Qu_init_17 : decode c_Qu_init 17 = .ok (.aload_n 0, 1) := by decide +kernel
theorem d_Qu_init_18 : decode c_Qu_init 18 = .ok (.bipush 6, 2) := by decide +kernel
theorem d_Qu_init_20 : decode c_Qu_init 20 = .ok (.newarray .int, 2) := by decide +kernel
theorem d_Qu_init_22 : decode c_Qu_init 22 = .ok (.putfield 19, 3) := by decide +kernel
theorem d_Qu_init_25 : decode c_Qu_init 25 = .ok (.aload_n 0, 1) := by decide +kernel
theorem d_Qu_init_26 : decode c_Qu_init 26 = .ok (.iconst 0, 1) := by decide +kernel
theorem d_Qu_init_27 : decode c_Qu_init 27 = .ok (.putfield 23, 3) := by decide +kernel
theorem d_Qu_init_30 : decode c_Qu_init 30 = .ok (.aload_n 0, 1) := by decide +kernel
theorem d_Qu_init_31 : decode c_Qu_init 31 = .ok (.iconst 0, 1) := by decide +kernel
theorem d_Qu_init_32 : decode c_Qu_init 32 = .ok (.putfield 26, 3) := by decide +kernel
theorem d_Qu_init_35 : decode c_Qu_init 35 = .ok (.aload_n 0, 1) := by decide +kernel
theorem d_Qu_init_36 : decode c_Qu_init 36 = .ok (.iconst (-1), 1) := by decide +kernel
theorem d_Qu_init_37 : decode c_Qu_init 37 = .ok (.putfield 30, 3) := by decide +kernel
theorem d_Qu_init_40 : decode c_Qu_init 40 = .ok (.aload_n 0, 1) := by decide +kernel
theorem d_Qu_init_41 : decode c_Qu_init 41 = .ok (.iconst 0, 1) := by decide +kernel
theorem d_Qu_init_42 : decode c_Qu_init 42 = .ok (.putfield 33, 3) := by decide +kernel
theorem d_Qu_init_45 : decode c_Qu_init 45 = .ok (.aload_n 0, 1) := by decide +kernel
theorem d_Qu_init_46 : decode c_Qu_init 46 = .ok (.sipush 150, 3) := by decide +kernel
theorem d_Qu_init_49 : decode c_Qu_init 49 = .ok (.putfield 36, 3) := by decide +kernel
theorem d_Qu_init_52 : decode c_Qu_init 52 = .ok (.aload_n 0, 1) := by decide +kernel
theorem d_Qu_init_53 : decode c_Qu_init 53 = .ok (.bipush 12, 2) := by decide +kernel
theorem d_Qu_init_55 : decode c_Qu_init 55 = .ok (.anewarray 39, 3) := by decide +kernel
theorem d_Qu_init_58 : decode c_Qu_init 58 = .ok (.putfield 41, 3) := by decide +kernel
theorem d_Qu_init_61 : decode c_Qu_init 61 = .ok (.aload_n 0, 1) := by decide +kernel
theorem d_Qu_init_62 : decode c_Qu_init 62 = .ok (.iconst 0, 1) := by decide +kernel
theorem d_Qu_init_63 : decode c_Qu_init 63 = .ok (.putfield 45, 3) := by decide +kernel
theorem d_Qu_init_66 : decode c_Qu_init 66 = .ok (.aload_n 0, 1) := by decide +kernel
theorem d_Qu_init_67 : decode c_Qu_init 67 = .ok (.sipush 145, 3) := by decide +kernel
theorem d_Qu_init_70 : decode c_Qu_init 70 = .ok (.newarray .int, 2) := by decide +kernel
theorem d_Qu_init_72 : decode c_Qu_init 72 = .ok (.putfield 48, 3) := by decide +kernel
theorem d_Qu_init_75 : decode c_Qu_init 75 = .ok (.aload_n 0, 1) := by decide +kernel
theorem d_Qu_init_76 : decode c_Qu_init 76 = .ok (.iconst 0, 1) := by decide +kernel
theorem d_Qu_init_77 : decode c_Qu_init 77 = .ok (.putfield 51, 3) := by decide +kernel
theorem d_Qu_init_80 : decode c_Qu_init 80 = .ok (.iconst 0, 1) := by decide +kernel
theorem d_Qu_init_81 : decode c_Qu_init 81 = .ok (.istore_n 1, 1) := by decide +kernel
theorem d_Qu_init_82 : decode c_Qu_init 82 = .ok (.iload_n 1, 1) := by decide +kernel
theorem d_Qu_init_83 : decode c_Qu_init 83 = .ok (.bipush 12, 2) := by decide +kernel
theorem d_Qu_init_85 : decode c_Qu_init 85 = .ok (.if_icmp .ge 22, 3) := by decide +kernel
theorem d_Qu_init_88 : decode c_Qu_init 88 = .ok (.aload_n 0, 1) := by decide +kernel
theorem d_Qu_init_89 : decode c_Qu_init 89 = .ok (.getfield 41, 3) := by decide +kernel
theorem d_Qu_init_92 : decode c_Qu_init 92 = .ok (.iload_n 1, 1) := by decide +kernel
theorem d_Qu_init_93 : decode c_Qu_init 93 = .ok (.new 39, 3) := by decide +kernel
theorem d_Qu_init_96 : decode c_Qu_init 96 = .ok (.dup, 1) := by decide +kernel
theorem d_Qu_init_97 : decode c_Qu_init 97 = .ok (.invokespecial 54, 3) := by decide +kernel
theorem d_Qu_init_100 : decode c_Qu_init 100 = .ok (.aastore, 1) := by decide +kernel
theorem d_Qu_init_101 : decode c_Qu_init 101 = .ok (.iinc 1 1, 3) := by decide +kernel
theorem d_Qu_init_104 : decode c_Qu_init 104 = .ok (.goto (-22), 3) := by decide +kernel
theorem d_Qu_init_107 : decode c_Qu_init 107 = .ok (.return_, 1) := by decide +kernel
theorem d_Qu_clear_0 : decode c_Qu_clear 0 = .ok (.aload_n 0, 1) := by decide +kernel
theorem d_Qu_clear_1 : decode c_Qu_clear 1 = .ok (.iconst 0, 1) := by decide +kernel
theorem d_Qu_clear_2 : decode c_Qu_clear 2 = .ok (.putfield 15, 3) := by decide +kernel
theorem d_Qu_clear_5 : decode c_Qu_clear 5 = .ok (.aload_n 0, 1) := by decide +kernel
theorem d_Qu_clear_6 : decode c_Qu_clear 6 = .ok (.iconst 0, 1) := by decide +kernel
theorem d_Qu_clear_7 : decode c_Qu_clear 7 = .ok (.putfield 23, 3) := by decide +kernel
theorem d_Qu_clear_10 : decode c_Qu_clear 10 = .ok (.aload_n 0, 1) := by decide +kernel
theorem d_Qu_clear_11 : decode c_Qu_clear 11 = .ok (.iconst 0, 1) := by decide +kernel
theorem d_Qu_clear_12 : decode c_Qu_clear 12 = .ok (.putfield 26, 3) := by decide +kernel
theorem d_Qu_clear_15 : decode c_Qu_clear 15 = .ok (.aload_n 0, 1) := by decide +kernel
theorem d_Qu_clear_16 : decode c_Qu_clear 16 = .ok (.iconst (-1), 1) := by decide +kernel
theorem d_Qu_clear_17 : decode c_Qu_clear 17 = .ok (.putfield 30, 3) := by decide +kernel
theorem d_Qu_clear_20 : decode c_Qu_clear 20 = .ok (.aload_n 0, 1) := by decide +kernel
theorem d_Qu_clear_21 : decode c_Qu_clear 21 = .ok (.iconst 0, 1) := by decide +kernel
theorem d_Qu_clear_22 : decode c_Qu_clear 22 = .ok (.putfield 33, 3) := by decide +kernel
theorem d_Qu_clear_25 : decode c_Qu_clear 25 = .ok (.aload_n 0, 1) := by decide +kernel
theorem d_Qu_clear_26 : decode c_Qu_clear 26 = .ok (.sipush 150, 3) := by decide +kernel
theorem d_Qu_clear_29 : decode c_Qu_clear 29 = .ok (.putfield 36, 3) := by decide +kernel
theorem d_Qu_clear_32 : decode c_Qu_clear 32 = .ok (.aload_n 0, 1) := by decide +kernel
theorem d_Qu_clear_33 : decode c_Qu_clear 33 = .ok (.iconst 0, 1) := by decide +kernel
theorem d_Qu_clear_34 : decode c_Qu_clear 34 = .ok (.putfield 45, 3) := by decide +kernel
theorem d_Qu_clear_37 : decode c_Qu_clear 37 = .ok (.aload_n 0, 1) := by decide +kernel
theorem d_Qu_clear_38 : decode c_Qu_clear 38 = .ok (.iconst 0, 1) := by decide +kernel
theorem d_Qu_clear_39 : decode c_Qu_clear 39 = .ok (.putfield 51, 3) := by decide +kernel
theorem d_Qu_clear_42 : decode c_Qu_clear 42 = .ok (.return_, 1) := by decide +kernel
theorem d_Qu_variable_0 : decode c_Qu_variable 0 = .ok (.iconst 0, 1) := by decide +kernel
theorem d_Qu_variable_1 : decode c_Qu_variable 1 = .ok (.istore_n 3, 1) := by decide +kernel
theorem d_Qu_variable_2 : decode c_Qu_variable 2 = .ok (.iload_n 3, 1) := by decide +kernel
theorem d_Qu_variable_3 : decode c_Qu_variable 3 = .ok (.aload_n 0, 1) := by decide +kernel
theorem d_Qu_variable_4 : decode c_Qu_variable 4 = .ok (.getfield 15, 3) := by decide +kernel
theorem d_Qu_variable_7 : decode c_Qu_variable 7 = .ok (.if_icmp .ge 22, 3) := by decide +kernel
theorem d_Qu_variable_10 : decode c_Qu_variable 10 = .ok (.aload_n 0, 1) := by decide +kernel
theorem d_Qu_variable_11 : decode c_Qu_variable 11 = .ok (.getfield 9, 3) := by decide +kernel
theorem d_Qu_variable_14 : decode c_Qu_variable 14 = .ok (.iload_n 3, 1) := by decide +kernel
theorem d_Qu_variable_15 : decode c_Qu_variable 15 = .ok (.laload, 1) := by decide +kernel
theorem d_Qu_variable_16 : decode c_Qu_variable 16 = .ok (.lload_n 1, 1) := by decide +kernel
theorem d_Qu_variable_17 : decode c_Qu_variable 17 = .ok (.lcmp, 1) := by decide +kernel
theorem d_Qu_variable_18 : decode c_Qu_variable 18 = .ok (.ifCond .ne 5, 3) := by decide +kernel
theorem d_Qu_variable_21 : decode c_Qu_variable 21 = .ok (.iload_n 3, 1) := by decide +kernel
theorem d_Qu_variable_22 : decode c_Qu_variable 22 = .ok (.ireturn, 1) := by decide +kernel
theorem d_Qu_variable_23 : decode c_Qu_variable 23 = .ok (.iinc 3 1, 3) := by decide +kernel
theorem d_Qu_variable_26 : decode c_Qu_variable 26 = .ok (.goto (-24), 3) := by decide +kernel
theorem d_Qu_variable_29 : decode c_Qu_variable 29 = .ok (.aload_n 0, 1) := by decide +kernel
theorem d_Qu_variable_30 : decode c_Qu_variable 30 = .ok (.getfield 15, 3) := by decide +kernel
theorem d_Qu_variable_33 : decode c_Qu_variable 33 = .ok (.bipush 6, 2) := by decide +kernel
theorem d_Qu_variable_35 : decode c_Qu_variable 35 = .ok (.if_icmp .lt 5, 3) := by decide +kernel
theorem d_Qu_variable_38 : decode c_Qu_variable 38 = .ok (.iconst (-1), 1) := by decide +kernel
theorem d_Qu_variable_39 : decode c_Qu_variable 39 = .ok (.ireturn, 1) := by decide +kernel
theorem d_Qu_variable_40 : decode c_Qu_variable 40 = .ok (.aload_n 0, 1) := by decide +kernel
theorem d_Qu_variable_41 : decode c_Qu_variable 41 = .ok (.getfield 9, 3) := by decide +kernel
theorem d_Qu_variable_44 : decode c_Qu_variable 44 = .ok (.aload_n 0, 1) := by decide +kernel
theorem d_Qu_variable_45 : decode c_Qu_variable 45 = .ok (.getfield 15, 3) := by decide +kernel
theorem d_Qu_variable_48 : decode c_Qu_variable 48 = .ok (.lload_n 1, 1) := by decide +kernel
theorem d_Qu_variable_49 : decode c_Qu_variable 49 = .ok (.lastore, 1) := by decide +kernel
theorem d_Qu_variable_50 : decode c_Qu_variable 50 = .ok (.aload_n 0, 1) := by decide +kernel
theorem d_Qu_variable_51 : decode c_Qu_variable 51 = .ok (.dup, 1) := by decide +kernel
theorem d_Qu_variable_52 : decode c_Qu_variable 52 = .ok (.getfield 15, 3) := by decide +kernel
theorem d_Qu_variable_55 : decode c_Qu_variable 55 = .ok (.iconst 1, 1) := by decide +kernel
theorem d_Qu_variable_56 : decode c_Qu_variable 56 = .ok (.iadd, 1) := by decide +kernel
theorem d_Qu_variable_57 : decode c_Qu_variable 57 = .ok (.putfield 15, 3) := by decide +kernel
theorem d_Qu_variable_60 : decode c_Qu_variable 60 = .ok (.aload_n 0, 1) := by decide +kernel
theorem d_Qu_variable_61 : decode c_Qu_variable 61 = .ok (.getfield 15, 3) := by decide +kernel
theorem d_Qu_variable_64 : decode c_Qu_variable 64 = .ok (.iconst 1, 1) := by decide +kernel
theorem d_Qu_variable_65 : decode c_Qu_variable 65 = .ok (.isub, 1) := by decide +kernel
theorem d_Qu_variable_66 : decode c_Qu_variable 66 = .ok (.ireturn, 1) := by decide +kernel
theorem d_Qu_newElement_0 : decode c_Qu_newElement 0 = .ok (.aload_n 0, 1) := by decide +kernel
theorem d_Qu_newElement_1 : decode c_Qu_newElement 1 = .ok (.getfield 45, 3) := by decide +kernel
theorem d_Qu_newElement_4 : decode c_Qu_newElement 4 = .ok (.bipush 12, 2) := by decide +kernel
theorem d_Qu_newElement_6 : decode c_Qu_newElement 6 = .ok (.if_icmp .lt 5, 3) := by decide +kernel
theorem d_Qu_newElement_9 : decode c_Qu_newElement 9 = .ok (.iconst (-1), 1) := by decide +kernel
theorem d_Qu_newElement_10 : decode c_Qu_newElement 10 = .ok (.ireturn, 1) := by decide +kernel
theorem d_Qu_newElement_11 : decode c_Qu_newElement 11 = .ok (.aload_n 0, 1) := by decide +kernel
theorem d_Qu_newElement_12 : decode c_Qu_newElement 12 = .ok (.getfield 41, 3) := by decide +kernel
theorem d_Qu_newElement_15 : decode c_Qu_newElement 15 = .ok (.aload_n 0, 1) := by decide +kernel
theorem d_Qu_newElement_16 : decode c_Qu_newElement 16 = .ok (.getfield 45, 3) := by decide +kernel
theorem d_Qu_newElement_19 : decode c_Qu_newElement 19 = .ok (.aaload, 1) := by decide +kernel
theorem d_Qu_newElement_20 : decode c_Qu_newElement 20 = .ok (.iload_n 1, 1) := by decide +kernel
theorem d_Qu_newElement_21 : decode c_Qu_newElement 21 = .ok (.putfield 55, 3) := by decide +kernel
theorem d_Qu_newElement_24 : decode c_Qu_newElement 24 = .ok (.aload_n 0, 1) := by decide +kernel
theorem d_Qu_newElement_25 : decode c_Qu_newElement 25 = .ok (.dup, 1) := by decide +kernel
theorem d_Qu_newElement_26 : decode c_Qu_newElement 26 = .ok (.getfield 45, 3) := by decide +kernel
theorem d_Qu_newElement_29 : decode c_Qu_newElement 29 = .ok (.iconst 1, 1) := by decide +kernel
theorem d_Qu_newElement_30 : decode c_Qu_newElement 30 = .ok (.iadd, 1) := by decide +kernel
theorem d_Qu_newElement_31 : decode c_Qu_newElement 31 = .ok (.putfield 45, 3) := by decide +kernel
theorem d_Qu_newElement_34 : decode c_Qu_newElement 34 = .ok (.aload_n 0, 1) := by decide +kernel
theorem d_Qu_newElement_35 : decode c_Qu_newElement 35 = .ok (.getfield 45, 3) := by decide +kernel
theorem d_Qu_newElement_38 : decode c_Qu_newElement 38 = .ok (.iconst 1, 1) := by decide +kernel
theorem d_Qu_newElement_39 : decode c_Qu_newElement 39 = .ok (.isub, 1) := by decide +kernel
theorem d_Qu_newElement_40 : decode c_Qu_newElement 40 = .ok (.ireturn, 1) := by decide +kernel
theorem d_Qu_newGroup_0 : decode c_Qu_newGroup 0 = .ok (.aload_n 0, 1) := by decide +kernel
theorem d_Qu_newGroup_1 : decode c_Qu_newGroup 1 = .ok (.getfield 51, 3) := by decide +kernel
theorem d_Qu_newGroup_4 : decode c_Qu_newGroup 4 = .ok (.sipush 145, 3) := by decide +kernel
theorem d_Qu_newGroup_7 : decode c_Qu_newGroup 7 = .ok (.if_icmp .lt 5, 3) := by decide +kernel
theorem d_Qu_newGroup_10 : decode c_Qu_newGroup 10 = .ok (.iconst (-1), 1) := by decide +kernel
theorem d_Qu_newGroup_11 : decode c_Qu_newGroup 11 = .ok (.ireturn, 1) := by decide +kernel
theorem d_Qu_newGroup_12 : decode c_Qu_newGroup 12 = .ok (.aload_n 0, 1) := by decide +kernel
theorem d_Qu_newGroup_13 : decode c_Qu_newGroup 13 = .ok (.getfield 48, 3) := by decide +kernel
theorem d_Qu_newGroup_16 : decode c_Qu_newGroup 16 = .ok (.aload_n 0, 1) := by decide +kernel
theorem d_Qu_newGroup_17 : decode c_Qu_newGroup 17 = .ok (.getfield 51, 3) := by decide +kernel
theorem d_Qu_newGroup_20 : decode c_Qu_newGroup 20 = .ok (.iload_n 1, 1) := by decide +kernel
theorem d_Qu_newGroup_21 : decode c_Qu_newGroup 21 = .ok (.iastore, 1) := by decide +kernel
theorem d_Qu_newGroup_22 : decode c_Qu_newGroup 22 = .ok (.aload_n 0, 1) := by decide +kernel
theorem d_Qu_newGroup_23 : decode c_Qu_newGroup 23 = .ok (.dup, 1) := by decide +kernel
theorem d_Qu_newGroup_24 : decode c_Qu_newGroup 24 = .ok (.getfield 51, 3) := by decide +kernel
theorem d_Qu_newGroup_27 : decode c_Qu_newGroup 27 = .ok (.iconst 1, 1) := by decide +kernel
theorem d_Qu_newGroup_28 : decode c_Qu_newGroup 28 = .ok (.iadd, 1) := by decide +kernel
theorem d_Qu_newGroup_29 : decode c_Qu_newGroup 29 = .ok (.putfield 51, 3) := by decide +kernel
theorem d_Qu_newGroup_32 : decode c_Qu_newGroup 32 = .ok (.aload_n 0, 1) := by decide +kernel
theorem d_Qu_newGroup_33 : decode c_Qu_newGroup 33 = .ok (.getfield 51, 3) := by decide +kernel
theorem d_Qu_newGroup_36 : decode c_Qu_newGroup 36 = .ok (.iconst 1, 1) := by decide +kernel
theorem d_Qu_newGroup_37 : decode c_Qu_newGroup 37 = .ok (.isub, 1) := by decide +kernel
theorem d_Qu_newGroup_38 : decode c_Qu_newGroup 38 = .ok (.ireturn, 1) := by decide +kernel
theorem d_To_init_0 : decode c_To_init 0 = .ok (.aload_n 0, 1) := by decide +kernel
theorem d_To_init_1 : decode c_To_init 1 = .ok (.invokespecial 3, 3) := by decide +kernel
theorem d_To_init_4 : decode c_To_init 4 = .ok (.aload_n 0, 1) := by decide +kernel
theorem d_To_init_5 : decode c_To_init 5 = .ok (.sipush 161, 3) := by decide +kernel
theorem d_To_init_8 : decode c_To_init 8 = .ok (.newarray .int, 2) := by decide +kernel
theorem d_To_init_10 : decode c_To_init 10 = .ok (.putfield 9, 3) := by decide +kernel
theorem d_To_init_13 : decode c_To_init 13 = .ok (.aload_n 0, 1) := by decide +kernel
theorem d_To_init_14 : decode c_To_init 14 = .ok (.sipush 161, 3) := by decide +kernel
theorem d_To_init_17 : decode c_To_init 17 = .ok (.newarray .long, 2) := by decide +kernel
theorem d_To_init_19 : decode c_To_init 19 = .ok (.putfield 15, 3) := by decide +kernel
theorem d_To_init_22 : decode c_To_init 22 = .ok (.aload_n 0, 1) := by decide +kernel
theorem d_To_init_23 : decode c_To_init 23 = .ok (.sipush 161, 3) := by decide +kernel
theorem d_To_init_26 : decode c_To_init 26 = .ok (.newarray .int, 2) := by decide +kernel
theorem d_To_init_28 : decode c_To_init 28 = .ok (.putfield 19, 3) := by decide +kernel
theorem d_To_init_31 : decode c_To_init 31 = .ok (.aload_n 0, 1) := by decide +kernel
theorem d_To_init_32 : decode c_To_init 32 = .ok (.iconst 0, 1) := by decide +kernel
theorem d_To_init_33 : decode c_To_init 33 = .ok (.putfield 22, 3) := by decide +kernel
theorem d_To_init_36 : decode c_To_init 36 = .ok (.aload_n 0, 1) := by decide +kernel
theorem d_To_init_37 : decode c_To_init 37 = .ok (.iconst 0, 1) := by decide +kernel
theorem d_To_init_38 : decode c_To_init 38 = .ok (.putfield 26, 3) := by decide +kernel
theorem d_To_init_41 : decode c_To_init 41 = .ok (.return_, 1) := by decide +kernel
theorem d_To_kind_0 : decode c_To_kind 0 = .ok (.aload_n 0, 1) := by decide +kernel
theorem d_To_kind_1 : decode c_To_kind 1 = .ok (.getfield 9, 3) := by decide +kernel
theorem d_To_kind_4 : decode c_To_kind 4 = .ok (.aload_n 0, 1) := by decide +kernel
theorem d_To_kind_5 : decode c_To_kind 5 = .ok (.getfield 26, 3) := by decide +kernel
theorem d_To_kind_8 : decode c_To_kind 8 = .ok (.iaload, 1) := by decide +kernel
theorem d_To_kind_9 : decode c_To_kind 9 = .ok (.ireturn, 1) := by decide +kernel
theorem d_To_value_0 : decode c_To_value 0 = .ok (.aload_n 0, 1) := by decide +kernel
theorem d_To_value_1 : decode c_To_value 1 = .ok (.getfield 15, 3) := by decide +kernel
theorem d_To_value_4 : decode c_To_value 4 = .ok (.aload_n 0, 1) := by decide +kernel
theorem d_To_value_5 : decode c_To_value 5 = .ok (.getfield 26, 3) := by decide +kernel
theorem d_To_value_8 : decode c_To_value 8 = .ok (.laload, 1) := by decide +kernel
theorem d_To_value_9 : decode c_To_value 9 = .ok (.lreturn, 1) := by decide +kernel
theorem d_To_place_0 : decode c_To_place 0 = .ok (.aload_n 0, 1) := by decide +kernel
theorem d_To_place_1 : decode c_To_place 1 = .ok (.getfield 19, 3) := by decide +kernel
theorem d_To_place_4 : decode c_To_place 4 = .ok (.aload_n 0, 1) := by decide +kernel
theorem d_To_place_5 : decode c_To_place 5 = .ok (.getfield 26, 3) := by decide +kernel
theorem d_To_place_8 : decode c_To_place 8 = .ok (.iaload, 1) := by decide +kernel
theorem d_To_place_9 : decode c_To_place 9 = .ok (.ireturn, 1) := by decide +kernel
theorem d_To_step_0 : decode c_To_step 0 = .ok (.aload_n 0, 1) := by decide +kernel
theorem d_To_step_1 : decode c_To_step 1 = .ok (.getfield 26, 3) := by decide +kernel
theorem d_To_step_4 : decode c_To_step 4 = .ok (.aload_n 0, 1) := by decide +kernel
theorem d_To_step_5 : decode c_To_step 5 = .ok (.getfield 22, 3) := by decide +kernel
theorem d_To_step_8 : decode c_To_step 8 = .ok (.iconst 1, 1) := by decide +kernel
theorem d_To_step_9 : decode c_To_step 9 = .ok (.isub, 1) := by decide +kernel
theorem d_To_step_10 : decode c_To_step 10 = .ok (.if_icmp .ge 13, 3) := by decide +kernel
theorem d_To_step_13 : decode c_To_step 13 = .ok (.aload_n 0, 1) := by decide +kernel
theorem d_To_step_14 : decode c_To_step 14 = .ok (.dup, 1) := by decide +kernel
theorem d_To_step_15 : decode c_To_step 15 = .ok (.getfield 26, 3) := by decide +kernel
theorem d_To_step_18 : decode c_To_step 18 = .ok (.iconst 1, 1) := by decide +kernel
theorem d_To_step_19 : decode c_To_step 19 = .ok (.iadd, 1) := by decide +kernel
theorem d_To_step_20 : decode c_To_step 20 = .ok (.putfield 26, 3) := by decide +kernel
theorem d_To_step_23 : decode c_To_step 23 = .ok (.return_, 1) := by decide +kernel
theorem d_To_isAtSign_0 : decode c_To_isAtSign 0 = .ok (.aload_n 0, 1) := by decide +kernel
theorem d_To_isAtSign_1 : decode c_To_isAtSign 1 = .ok (.getfield 9, 3) := by decide +kernel
theorem d_To_isAtSign_4 : decode c_To_isAtSign 4 = .ok (.aload_n 0, 1) := by decide +kernel
theorem d_To_isAtSign_5 : decode c_To_isAtSign 5 = .ok (.getfield 26, 3) := by decide +kernel
theorem d_To_isAtSign_8 : decode c_To_isAtSign 8 = .ok (.iaload, 1) := by decide +kernel
theorem d_To_isAtSign_9 : decode c_To_isAtSign 9 = .ok (.iconst 3, 1) := by decide +kernel
theorem d_To_isAtSign_10 : decode c_To_isAtSign 10 = .ok (.if_icmp .ne 22, 3) := by decide +kernel
theorem d_To_isAtSign_13 : decode c_To_isAtSign 13 = .ok (.aload_n 0, 1) := by decide +kernel
theorem d_To_isAtSign_14 : decode c_To_isAtSign 14 = .ok (.getfield 15, 3) := by decide +kernel
theorem d_To_isAtSign_17 : decode c_To_isAtSign 17 = .ok (.aload_n 0, 1) := by decide +kernel
theorem d_To_isAtSign_18 : decode c_To_isAtSign 18 = .ok (.getfield 26, 3) := by decide +kernel
theorem d_To_isAtSign_21 : decode c_To_isAtSign 21 = .ok (.laload, 1) := by decide +kernel
theorem d_To_isAtSign_22 : decode c_To_isAtSign 22 = .ok (.iload_n 1, 1) := by decide +kernel
theorem d_To_isAtSign_23 : decode c_To_isAtSign 23 = .ok (.i2l, 1) := by decide +kernel
theorem d_To_isAtSign_24 : decode c_To_isAtSign 24 = .ok (.lcmp, 1) := by decide +kernel
theorem d_To_isAtSign_25 : decode c_To_isAtSign 25 = .ok (.ifCond .ne 7, 3) := by decide +kernel
theorem d_To_isAtSign_28 : decode c_To_isAtSign 28 = .ok (.iconst 1, 1) := by decide +kernel
theorem d_To_isAtSign_29 : decode c_To_isAtSign 29 = .ok (.goto 4, 3) := by decide +kernel
theorem d_To_isAtSign_32 : decode c_To_isAtSign 32 = .ok (.iconst 0, 1) := by decide +kernel
theorem d_To_isAtSign_33 : decode c_To_isAtSign 33 = .ok (.ireturn, 1) := by decide +kernel
theorem d_To_takeSign_0 : decode c_To_takeSign 0 = .ok (.aload_n 0, 1) := by decide +kernel
theorem d_To_takeSign_1 : decode c_To_takeSign 1 = .ok (.iload_n 1, 1) := by decide +kernel
theorem d_To_takeSign_2 : decode c_To_takeSign 2 = .ok (.invokevirtual 29, 3) := by decide +kernel
theorem d_To_takeSign_5 : decode c_To_takeSign 5 = .ok (.istore_n 2, 1) := by decide +kernel
theorem d_To_takeSign_6 : decode c_To_takeSign 6 = .ok (.iload_n 2, 1) := by decide +kernel
theorem d_To_takeSign_7 : decode c_To_takeSign 7 = .ok (.ifCond .eq 7, 3) := by decide +kernel
theorem d_To_takeSign_10 : decode c_To_takeSign 10 = .ok (.aload_n 0, 1) := by decide +kernel
theorem d_To_takeSign_11 : decode c_To_takeSign 11 = .ok (.invokevirtual 33, 3) := by decide +kernel
theorem d_To_takeSign_14 : decode c_To_takeSign 14 = .ok (.iload_n 2, 1) := by decide +kernel
theorem d_To_takeSign_15 : decode c_To_takeSign 15 = .ok (.ireturn, 1) := by decide +kernel
theorem d_To_takeKey_0 : decode c_To_takeKey 0 = .ok (.aload_n 0, 1) := by decide +kernel
theorem d_To_takeKey_1 : decode c_To_takeKey 1 = .ok (.getfield 9, 3) := by decide +kernel
theorem d_To_takeKey_4 : decode c_To_takeKey 4 = .ok (.aload_n 0, 1) := by decide +kernel
theorem d_To_takeKey_5 : decode c_To_takeKey 5 = .ok (.getfield 26, 3) := by decide +kernel
theorem d_To_takeKey_8 : decode c_To_takeKey 8 = .ok (.iaload, 1) := by decide +kernel
theorem d_To_takeKey_9 : decode c_To_takeKey 9 = .ok (.iconst 2, 1) := by decide +kernel
theorem d_To_takeKey_10 : decode c_To_takeKey 10 = .ok (.if_icmp .ne 21, 3) := by decide +kernel
theorem d_To_takeKey_13 : decode c_To_takeKey 13 = .ok (.aload_n 0, 1) := by decide +kernel
theorem d_To_takeKey_14 : decode c_To_takeKey 14 = .ok (.getfield 15, 3) := by decide +kernel
theorem d_To_takeKey_17 : decode c_To_takeKey 17 = .ok (.aload_n 0, 1) := by decide +kernel
theorem d_To_takeKey_18 : decode c_To_takeKey 18 = .ok (.getfield 26, 3) := by decide +kernel
theorem d_To_takeKey_21 : decode c_To_takeKey 21 = .ok (.laload, 1) := by decide +kernel
theorem d_To_takeKey_22 : decode c_To_takeKey 22 = .ok (.lload_n 1, 1) := by decide +kernel
theorem d_To_takeKey_23 : decode c_To_takeKey 23 = .ok (.lcmp, 1) := by decide +kernel
theorem d_To_takeKey_24 : decode c_To_takeKey 24 = .ok (.ifCond .ne 7, 3) := by decide +kernel
theorem d_To_takeKey_27 : decode c_To_takeKey 27 = .ok (.iconst 1, 1) := by decide +kernel
theorem d_To_takeKey_28 : decode c_To_takeKey 28 = .ok (.goto 4, 3) := by decide +kernel
theorem d_To_takeKey_31 : decode c_To_takeKey 31 = .ok (.iconst 0, 1) := by decide +kernel
theorem d_To_takeKey_32 : decode c_To_takeKey 32 = .ok (.istore_n 3, 1) := by decide +kernel
theorem d_To_takeKey_33 : decode c_To_takeKey 33 = .ok (.iload_n 3, 1) := by decide +kernel
theorem d_To_takeKey_34 : decode c_To_takeKey 34 = .ok (.ifCond .eq 7, 3) := by decide +kernel
theorem d_To_takeKey_37 : decode c_To_takeKey 37 = .ok (.aload_n 0, 1) := by decide +kernel
theorem d_To_takeKey_38 : decode c_To_takeKey 38 = .ok (.invokevirtual 33, 3) := by decide +kernel
theorem d_To_takeKey_41 : decode c_To_takeKey 41 = .ok (.iload_n 3, 1) := by decide +kernel
theorem d_To_takeKey_42 : decode c_To_takeKey 42 = .ok (.ireturn, 1) := by decide +kernel
theorem d_To_readAll_0 : decode c_To_readAll 0 = .ok (.iconst 0, 1) := by decide +kernel
theorem d_To_readAll_1 : decode c_To_readAll 1 = .ok (.istore_n 3, 1) := by decide +kernel
theorem d_To_readAll_2 : decode c_To_readAll 2 = .ok (.iconst 0, 1) := by decide +kernel
theorem d_To_readAll_3 : decode c_To_readAll 3 = .ok (.istore 4, 2) := by decide +kernel
theorem d_To_readAll_5 : decode c_To_readAll 5 = .ok (.aload_n 0, 1) := by decide +kernel
theorem d_To_readAll_6 : decode c_To_readAll 6 = .ok (.iconst 0, 1) := by decide +kernel
theorem d_To_readAll_7 : decode c_To_readAll 7 = .ok (.putfield 26, 3) := by decide +kernel
theorem d_To_readAll_10 : decode c_To_readAll 10 = .ok (.aload_n 0, 1) := by decide +kernel
theorem d_To_readAll_11 : decode c_To_readAll 11 = .ok (.iconst 0, 1) := by decide +kernel
theorem d_To_readAll_12 : decode c_To_readAll 12 = .ok (.putfield 22, 3) := by decide +kernel
theorem d_To_readAll_15 : decode c_To_readAll 15 = .ok (.iconst 0, 1) := by decide +kernel
theorem d_To_readAll_16 : decode c_To_readAll 16 = .ok (.istore 5, 2) := by decide +kernel
theorem d_To_readAll_18 : decode c_To_readAll 18 = .ok (.iload 5, 2) := by decide +kernel
theorem d_To_readAll_20 : decode c_To_readAll 20 = .ok (.sipush 160, 3) := by decide +kernel
theorem d_To_readAll_23 : decode c_To_readAll 23 = .ok (.if_icmp .ge 39, 3) := by decide +kernel
theorem d_To_readAll_26 : decode c_To_readAll 26 = .ok (.iload_n 3, 1) := by decide +kernel
theorem d_To_readAll_27 : decode c_To_readAll 27 = .ok (.iload_n 2, 1) := by decide +kernel
theorem d_To_readAll_28 : decode c_To_readAll 28 = .ok (.if_icmp .ge 34, 3) := by decide +kernel
theorem d_To_readAll_31 : decode c_To_readAll 31 = .ok (.aload_n 1, 1) := by decide +kernel
theorem d_To_readAll_32 : decode c_To_readAll 32 = .ok (.iload_n 3, 1) := by decide +kernel
theorem d_To_readAll_33 : decode c_To_readAll 33 = .ok (.caload, 1) := by decide +kernel
theorem d_To_readAll_34 : decode c_To_readAll 34 = .ok (.bipush 32, 2) := by decide +kernel
theorem d_To_readAll_36 : decode c_To_readAll 36 = .ok (.if_icmp .ne 9, 3) := by decide +kernel
theorem d_To_readAll_39 : decode c_To_readAll 39 = .ok (.iinc 3 1, 3) := by decide +kernel
theorem d_To_readAll_42 : decode c_To_readAll 42 = .ok (.goto 14, 3) := by decide +kernel
theorem d_To_readAll_45 : decode c_To_readAll 45 = .ok (.aload_n 0, 1) := by decide +kernel
theorem d_To_readAll_46 : decode c_To_readAll 46 = .ok (.aload_n 1, 1) := by decide +kernel
theorem d_To_readAll_47 : decode c_To_readAll 47 = .ok (.iload_n 2, 1) := by decide +kernel
theorem d_To_readAll_48 : decode c_To_readAll 48 = .ok (.iload_n 3, 1) := by decide +kernel
theorem d_To_readAll_49 : decode c_To_readAll 49 = .ok (.invokevirtual 36, 3) := by decide +kernel
theorem d_To_readAll_52 : decode c_To_readAll 52 = .ok (.istore_n 3, 1) := by decide +kernel
theorem d_To_readAll_53 : decode c_To_readAll 53 = .ok (.iload_n 3, 1) := by decide +kernel
theorem d_To_readAll_54 : decode c_To_readAll 54 = .ok (.istore 4, 2) := by decide +kernel
theorem d_To_readAll_56 : decode c_To_readAll 56 = .ok (.iinc 5 1, 3) := by decide +kernel
theorem d_To_readAll_59 : decode c_To_readAll 59 = .ok (.goto (-41), 3) := by decide +kernel
theorem d_To_readAll_62 : decode c_To_readAll 62 = .ok (.aload_n 0, 1) := by decide +kernel
theorem d_To_readAll_63 : decode c_To_readAll 63 = .ok (.iconst 0, 1) := by decide +kernel
theorem d_To_readAll_64 : decode c_To_readAll 64 = .ok (.lconst 0, 1) := by decide +kernel
theorem d_To_readAll_65 : decode c_To_readAll 65 = .ok (.iload 4, 2) := by decide +kernel
theorem d_To_readAll_67 : decode c_To_readAll 67 = .ok (.invokevirtual 40, 3) := by decide +kernel
theorem d_To_readAll_70 : decode c_To_readAll 70 = .ok (.return_, 1) := by decide +kernel
theorem d_To_note_0 : decode c_To_note 0 = .ok (.aload_n 0, 1) := by decide +kernel
theorem d_To_note_1 : decode c_To_note 1 = .ok (.getfield 22, 3) := by decide +kernel
theorem d_To_note_4 : decode c_To_note 4 = .ok (.sipush 160, 3) := by decide +kernel
theorem d_To_note_7 : decode c_To_note 7 = .ok (.if_icmp .le 4, 3) := by decide +kernel
theorem d_To_note_10 : decode c_To_note 10 = .ok (.return_, 1) := by decide +kernel
theorem d_To_note_11 : decode c_To_note 11 = .ok (.aload_n 0, 1) := by decide +kernel
theorem d_To_note_12 : decode c_To_note 12 = .ok (.getfield 9, 3) := by decide +kernel
theorem d_To_note_15 : decode c_To_note 15 = .ok (.aload_n 0, 1) := by decide +kernel
theorem d_To_note_16 : decode c_To_note 16 = .ok (.getfield 22, 3) := by decide +kernel
theorem d_To_note_19 : decode c_To_note 19 = .ok (.iload_n 1, 1) := by decide +kernel
theorem d_To_note_20 : decode c_To_note 20 = .ok (.iastore, 1) := by decide +kernel
theorem d_To_note_21 : decode c_To_note 21 = .ok (.aload_n 0, 1) := by decide +kernel
theorem d_To_note_22 : decode c_To_note 22 = .ok (.getfield 15, 3) := by decide +kernel
theorem d_To_note_25 : decode c_To_note 25 = .ok (.aload_n 0, 1) := by decide +kernel
theorem d_To_note_26 : decode c_To_note 26 = .ok (.getfield 22, 3) := by decide +kernel
theorem d_To_note_29 : decode c_To_note 29 = .ok (.lload_n 2, 1) := by decide +kernel
theorem d_To_note_30 : decode c_To_note 30 = .ok (.lastore, 1) := by decide +kernel
theorem d_To_note_31 : decode c_To_note 31 = .ok (.aload_n 0, 1) := by decide +kernel
theorem d_To_note_32 : decode c_To_note 32 = .ok (.getfield 19, 3) := by decide +kernel
theorem d_To_note_35 : decode c_To_note 35 = .ok (.aload_n 0, 1) := by decide +kernel
theorem d_To_note_36 : decode c_To_note 36 = .ok (.getfield 22, 3) := by decide +kernel
theorem d_To_note_39 : decode c_To_note 39 = .ok (.iload 4, 2) := by decide +kernel
theorem d_To_note_41 : decode c_To_note 41 = .ok (.iastore, 1) := by decide +kernel
theorem d_To_note_42 : decode c_To_note 42 = .ok (.aload_n 0, 1) := by decide +kernel
theorem d_To_note_43 : decode c_To_note 43 = .ok (.dup, 1) := by decide +kernel
theorem d_To_note_44 : decode c_To_note 44 = .ok (.getfield 22, 3) := by decide +kernel
theorem d_To_note_47 : decode c_To_note 47 = .ok (.iconst 1, 1) := by decide +kernel
theorem d_To_note_48 : decode c_To_note 48 = .ok (.iadd, 1) := by decide +kernel
theorem d_To_note_49 : decode c_To_note 49 = .ok (.putfield 22, 3) := by decide +kernel
theorem d_To_note_52 : decode c_To_note 52 = .ok (.return_, 1) := by decide +kernel
theorem d_To_readToken_0 : decode c_To_readToken 0 = .ok (.aload_n 1, 1) := by decide +kernel
theorem d_To_readToken_1 : decode c_To_readToken 1 = .ok (.iload_n 3, 1) := by decide +kernel
theorem d_To_readToken_2 : decode c_To_readToken 2 = .ok (.caload, 1) := by decide +kernel
theorem d_To_readToken_3 : decode c_To_readToken 3 = .ok (.istore 4, 2) := by decide +kernel
theorem d_To_readToken_5 : decode c_To_readToken 5 = .ok (.iload 4, 2) := by decide +kernel
theorem d_To_readToken_7 : decode c_To_readToken 7 = .ok (.invokestatic 44, 3) := by decide +kernel
theorem d_To_readToken_10 : decode c_To_readToken 10 = .ok (.ifCond .eq 11, 3) := by decide +kernel
theorem d_To_readToken_13 : decode c_To_readToken 13 = .ok (.aload_n 0, 1) := by decide +kernel
theorem d_To_readToken_14 : decode c_To_readToken 14 = .ok (.aload_n 1, 1) := by decide +kernel
theorem d_To_readToken_15 : decode c_To_readToken 15 = .ok (.iload_n 2, 1) := by decide +kernel
theorem d_To_readToken_16 : decode c_To_readToken 16 = .ok (.iload_n 3, 1) := by decide +kernel
theorem d_To_readToken_17 : decode c_To_readToken 17 = .ok (.invokevirtual 50, 3) := by decide +kernel
theorem d_To_readToken_20 : decode c_To_readToken 20 = .ok (.ireturn, 1) := by decide +kernel
theorem d_To_readToken_21 : decode c_To_readToken 21 = .ok (.iload 4, 2) := by decide +kernel
theorem d_To_readToken_23 : decode c_To_readToken 23 = .ok (.invokestatic 53, 3) := by decide +kernel
theorem d_To_readToken_26 : decode c_To_readToken 26 = .ok (.ifCond .eq 11, 3) := by decide +kernel
theorem d_To_readToken_29 : decode c_To_readToken 29 = .ok (.aload_n 0, 1) := by decide +kernel
theorem d_To_readToken_30 : decode c_To_readToken 30 = .ok (.aload_n 1, 1) := by decide +kernel
theorem d_To_readToken_31 : decode c_To_readToken 31 = .ok (.iload_n 2, 1) := by decide +kernel
theorem d_To_readToken_32 : decode c_To_readToken 32 = .ok (.iload_n 3, 1) := by decide +kernel
theorem d_To_readToken_33 : decode c_To_readToken 33 = .ok (.invokevirtual 56, 3) := by decide +kernel
theorem d_To_readToken_36 : decode c_To_readToken 36 = .ok (.ireturn, 1) := by decide +kernel
theorem d_To_readToken_37 : decode c_To_readToken 37 = .ok (.iload 4, 2) := by decide +kernel
theorem d_To_readToken_39 : decode c_To_readToken 39 = .ok (.bipush 63, 2) := by decide +kernel
theorem d_To_readToken_41 : decode c_To_readToken 41 = .ok (.if_icmp .ne 11, 3) := by decide +kernel
theorem d_To_readToken_44 : decode c_To_readToken 44 = .ok (.aload_n 0, 1) := by decide +kernel
theorem d_To_readToken_45 : decode c_To_readToken 45 = .ok (.aload_n 1, 1) := by decide +kernel
theorem d_To_readToken_46 : decode c_To_readToken 46 = .ok (.iload_n 2, 1) := by decide +kernel
theorem d_To_readToken_47 : decode c_To_readToken 47 = .ok (.iload_n 3, 1) := by decide +kernel
theorem d_To_readToken_48 : decode c_To_readToken 48 = .ok (.invokevirtual 59, 3) := by decide +kernel
theorem d_To_readToken_51 : decode c_To_readToken 51 = .ok (.ireturn, 1) := by decide +kernel
theorem d_To_readToken_52 : decode c_To_readToken 52 = .ok (.aload_n 0, 1) := by decide +kernel
theorem d_To_readToken_53 : decode c_To_readToken 53 = .ok (.iload 4, 2) := by decide +kernel
theorem d_To_readToken_55 : decode c_To_readToken 55 = .ok (.invokestatic 62, 3) := by decide +kernel
theorem d_To_readToken_58 : decode c_To_readToken 58 = .ok (.ifCond .eq 7, 3) := by decide +kernel
theorem d_To_readToken_61 : decode c_To_readToken 61 = .ok (.iconst 3, 1) := by decide +kernel
theorem d_To_readToken_62 : decode c_To_readToken 62 = .ok (.goto 4, 3) := by decide +kernel
theorem d_To_readToken_65 : decode c_To_readToken 65 = .ok (.iconst 1, 1) := by decide +kernel
theorem d_To_readToken_66 : decode c_To_readToken 66 = .ok (.iload 4, 2) := by decide +kernel
theorem d_To_readToken_68 : decode c_To_readToken 68 = .ok (.i2l, 1) := by decide +kernel
theorem d_To_readToken_69 : decode c_To_readToken 69 = .ok (.iload_n 3, 1) := by decide +kernel
theorem d_To_readToken_70 : decode c_To_readToken 70 = .ok (.invokevirtual 40, 3) := by decide +kernel
theorem d_To_readToken_73 : decode c_To_readToken 73 = .ok (.iload_n 3, 1) := by decide +kernel
theorem d_To_readToken_74 : decode c_To_readToken 74 = .ok (.iconst 1, 1) := by decide +kernel
theorem d_To_readToken_75 : decode c_To_readToken 75 = .ok (.iadd, 1) := by decide +kernel
theorem d_To_readToken_76 : decode c_To_readToken 76 = .ok (.ireturn, 1) := by decide +kernel
theorem d_To_readWord_0 : decode c_To_readWord 0 = .ok (.aload_n 1, 1) := by decide +kernel
theorem d_To_readWord_1 : decode c_To_readWord 1 = .ok (.iload_n 2, 1) := by decide +kernel
theorem d_To_readWord_2 : decode c_To_readWord 2 = .ok (.iload_n 3, 1) := by decide +kernel
theorem d_To_readWord_3 : decode c_To_readWord 3 = .ok (.invokestatic 65, 3) := by decide +kernel
theorem d_To_readWord_6 : decode c_To_readWord 6 = .ok (.istore 4, 2) := by decide +kernel
theorem d_To_readWord_8 : decode c_To_readWord 8 = .ok (.aload_n 1, 1) := by decide +kernel
theorem d_To_readWord_9 : decode c_To_readWord 9 = .ok (.iload_n 3, 1) := by decide +kernel
theorem d_To_readWord_10 : decode c_To_readWord 10 = .ok (.iload 4, 2) := by decide +kernel
theorem d_To_readWord_12 : decode c_To_readWord 12 = .ok (.invokestatic 68, 3) := by decide +kernel
theorem d_To_readWord_15 : decode c_To_readWord 15 = .ok (.lstore 5, 2) := by decide +kernel
theorem d_To_readWord_17 : decode c_To_readWord 17 = .ok (.iload 4, 2) := by decide +kernel
theorem d_To_readWord_19 : decode c_To_readWord 19 = .ok (.iload_n 3, 1) := by decide +kernel
theorem d_To_readWord_20 : decode c_To_readWord 20 = .ok (.isub, 1) := by decide +kernel
theorem d_To_readWord_21 : decode c_To_readWord 21 = .ok (.bipush 8, 2) := by decide +kernel
theorem d_To_readWord_23 : decode c_To_readWord 23 = .ok (.if_icmp .le 13, 3) := by decide +kernel
theorem d_To_readWord_26 : decode c_To_readWord 26 = .ok (.aload_n 0, 1) := by decide +kernel
theorem d_To_readWord_27 : decode c_To_readWord 27 = .ok (.iconst 1, 1) := by decide +kernel
theorem d_To_readWord_28 : decode c_To_readWord 28 = .ok (.lconst 0, 1) := by decide +kernel
theorem d_To_readWord_29 : decode c_To_readWord 29 = .ok (.iload_n 3, 1) := by decide +kernel
theorem d_To_readWord_30 : decode c_To_readWord 30 = .ok (.invokevirtual 40, 3) := by decide +kernel
theorem d_To_readWord_33 : decode c_To_readWord 33 = .ok (.goto 23, 3) := by decide +kernel
theorem d_To_readWord_36 : decode c_To_readWord 36 = .ok (.aload_n 0, 1) := by decide +kernel
theorem d_To_readWord_37 : decode c_To_readWord 37 = .ok (.lload 5, 2) := by decide +kernel
theorem d_To_readWord_39 : decode c_To_readWord 39 = .ok (.invokestatic 72, 3) := by decide +kernel
theorem d_To_readWord_42 : decode c_To_readWord 42 = .ok (.ifCond .eq 7, 3) := by decide +kernel
theorem d_To_readWord_45 : decode c_To_readWord 45 = .ok (.iconst 2, 1) := by decide +kernel
theorem d_To_readWord_46 : decode c_To_readWord 46 = .ok (.goto 4, 3) := by decide +kernel
theorem d_To_readWord_49 : decode c_To_readWord 49 = .ok (.iconst 4, 1) := by decide +kernel
theorem d_To_readWord_50 : decode c_To_readWord 50 = .ok (.lload 5, 2) := by decide +kernel
theorem d_To_readWord_52 : decode c_To_readWord 52 = .ok (.iload_n 3, 1) := by decide +kernel
theorem d_To_readWord_53 : decode c_To_readWord 53 = .ok (.invokevirtual 40, 3) := by decide +kernel
theorem d_To_readWord_56 : decode c_To_readWord 56 = .ok (.iload 4, 2) := by decide +kernel
theorem d_To_readWord_58 : decode c_To_readWord 58 = .ok (.ireturn, 1) := by decide +kernel
theorem d_To_readVariable_0 : decode c_To_readVariable 0 = .ok (.aload_n 1, 1) := by decide +kernel
theorem d_To_readVariable_1 : decode c_To_readVariable 1 = .ok (.iload_n 2, 1) := by decide +kernel
theorem d_To_readVariable_2 : decode c_To_readVariable 2 = .ok (.iload_n 3, 1) := by decide +kernel
theorem d_To_readVariable_3 : decode c_To_readVariable 3 = .ok (.iconst 1, 1) := by decide +kernel
theorem d_To_readVariable_4 : decode c_To_readVariable 4 = .ok (.iadd, 1) := by decide +kernel
theorem d_To_readVariable_5 : decode c_To_readVariable 5 = .ok (.invokestatic 65, 3) := by decide +kernel
theorem d_To_readVariable_8 : decode c_To_readVariable 8 = .ok (.istore 4, 2) := by decide +kernel
theorem d_To_readVariable_10 : decode c_To_readVariable 10 = .ok (.iload 4, 2) := by decide +kernel
theorem d_To_readVariable_12 : decode c_To_readVariable 12 = .ok (.iload_n 3, 1) := by decide +kernel
theorem d_To_readVariable_13 : decode c_To_readVariable 13 = .ok (.isub, 1) := by decide +kernel
theorem d_To_readVariable_14 : decode c_To_readVariable 14 = .ok (.iconst 1, 1) := by decide +kernel
theorem d_To_readVariable_15 : decode c_To_readVariable 15 = .ok (.isub, 1) := by decide +kernel
theorem d_To_readVariable_16 : decode c_To_readVariable 16 = .ok (.istore 5, 2) := by decide +kernel
theorem d_To_readVariable_18 : decode c_To_readVariable 18 = .ok (.iload 5, 2) := by decide +kernel
theorem d_To_readVariable_20 : decode c_To_readVariable 20 = .ok (.iconst 1, 1) := by decide +kernel
theorem d_To_readVariable_21 : decode c_To_readVariable 21 = .ok (.if_icmp .lt 14, 3) := by decide +kernel
theorem d_To_readVariable_24 : decode c_To_readVariable 24 = .ok (.iload 5, 2) := by decide +kernel
theorem d_To_readVariable_26 : decode c_To_readVariable 26 = .ok (.bipush 8, 2) := by decide +kernel
theorem d_To_readVariable_28 : decode c_To_readVariable 28 = .ok (.if_icmp .gt 7, 3) := by decide +kernel
theorem d_To_readVariable_31 : decode c_To_readVariable 31 = .ok (.iconst 1, 1) := by decide +kernel
theorem d_To_readVariable_32 : decode c_To_readVariable 32 = .ok (.goto 4, 3) := by decide +kernel
theorem d_To_readVariable_35 : decode c_To_readVariable 35 = .ok (.iconst 0, 1) := by decide +kernel
theorem d_To_readVariable_36 : decode c_To_readVariable 36 = .ok (.istore 6, 2) := by decide +kernel
theorem d_To_readVariable_38 : decode c_To_readVariable 38 = .ok (.aload_n 0, 1) := by decide +kernel
theorem d_To_readVariable_39 : decode c_To_readVariable 39 = .ok (.iload 6, 2) := by decide +kernel
theorem d_To_readVariable_41 : decode c_To_readVariable 41 = .ok (.ifCond .eq 7, 3) := by decide +kernel
theorem d_To_readVariable_44 : decode c_To_readVariable 44 = .ok (.iconst 5, 1) := by decide +kernel
theorem d_To_readVariable_45 : decode c_To_readVariable 45 = .ok (.goto 4, 3) := by decide +kernel
theorem d_To_readVariable_48 : decode c_To_readVariable 48 = .ok (.iconst 1, 1) := by decide +kernel
theorem d_To_readVariable_49 : decode c_To_readVariable 49 = .ok (.aload_n 1, 1) := by decide +kernel
theorem d_To_readVariable_50 : decode c_To_readVariable 50 = .ok (.iload_n 3, 1) := by decide +kernel
theorem d_To_readVariable_51 : decode c_To_readVariable 51 = .ok (.iconst 1, 1) := by decide +kernel
theorem d_To_readVariable_52 : decode c_To_readVariable 52 = .ok (.iadd, 1) := by decide +kernel
theorem d_To_readVariable_53 : decode c_To_readVariable 53 = .ok (.iload 4, 2) := by decide +kernel
theorem d_To_readVariable_55 : decode c_To_readVariable 55 = .ok (.invokestatic 68, 3) := by decide +kernel
theorem d_To_readVariable_58 : decode c_To_readVariable 58 = .ok (.iload_n 3, 1) := by decide +kernel
theorem d_To_readVariable_59 : decode c_To_readVariable 59 = .ok (.invokevirtual 40, 3) := by decide +kernel
theorem d_To_readVariable_62 : decode c_To_readVariable 62 = .ok (.iload 4, 2) := by decide +kernel
theorem d_To_readVariable_64 : decode c_To_readVariable 64 = .ok (.ireturn, 1) := by decide +kernel
theorem d_To_readNumber_0 : decode c_To_readNumber 0 = .ok (.iload_n 3, 1) := by decide +kernel
theorem d_To_readNumber_1 : decode c_To_readNumber 1 = .ok (.istore 4, 2) := by decide +kernel
theorem d_To_readNumber_3 : decode c_To_readNumber 3 = .ok (.iconst 0, 1) := by decide +kernel
theorem d_To_readNumber_4 : decode c_To_readNumber 4 = .ok (.istore 5, 2) := by decide +kernel
theorem d_To_readNumber_6 : decode c_To_readNumber 6 = .ok (.iload 4, 2) := by decide +kernel
theorem d_To_readNumber_8 : decode c_To_readNumber 8 = .ok (.iload_n 2, 1) := by decide +kernel
theorem d_To_readNumber_9 : decode c_To_readNumber 9 = .ok (.if_icmp .ge 34, 3) := by decide +kernel
theorem d_To_readNumber_12 : decode c_To_readNumber 12 = .ok (.aload_n 1, 1) := by decide +kernel
theorem d_To_readNumber_13 : decode c_To_readNumber 13 = .ok (.iload 4, 2) := by decide +kernel
theorem d_To_readNumber_15 : decode c_To_readNumber 15 = .ok (.caload, 1) := by decide +kernel
theorem d_To_readNumber_16 : decode c_To_readNumber 16 = .ok (.invokestatic 53, 3) := by decide +kernel
theorem d_To_readNumber_19 : decode c_To_readNumber 19 = .ok (.ifCond .eq 24, 3) := by decide +kernel
theorem d_To_readNumber_22 : decode c_To_readNumber 22 = .ok (.iload 5, 2) := by decide +kernel
theorem d_To_readNumber_24 : decode c_To_readNumber 24 = .ok (.bipush 10, 2) := by decide +kernel
theorem d_To_readNumber_26 : decode c_To_readNumber 26 = .ok (.imul, 1) := by decide +kernel
theorem d_To_readNumber_27 : decode c_To_readNumber 27 = .ok (.aload_n 1, 1) := by decide +kernel
theorem d_To_readNumber_28 : decode c_To_readNumber 28 = .ok (.iload 4, 2) := by decide +kernel
theorem d_To_readNumber_30 : decode c_To_readNumber 30 = .ok (.caload, 1) := by decide +kernel
theorem d_To_readNumber_31 : decode c_To_readNumber 31 = .ok (.bipush 48, 2) := by decide +kernel
theorem d_To_readNumber_33 : decode c_To_readNumber 33 = .ok (.isub, 1) := by decide +kernel
theorem d_To_readNumber_34 : decode c_To_readNumber 34 = .ok (.iadd, 1) := by decide +kernel
theorem d_To_readNumber_35 : decode c_To_readNumber 35 = .ok (.istore 5, 2) := by decide +kernel
theorem d_To_readNumber_37 : decode c_To_readNumber 37 = .ok (.iinc 4 1, 3) := by decide +kernel
theorem d_To_readNumber_40 : decode c_To_readNumber 40 = .ok (.goto (-34), 3) := by decide +kernel
theorem d_To_readNumber_43 : decode c_To_readNumber 43 = .ok (.aload_n 0, 1) := by decide +kernel
theorem d_To_readNumber_44 : decode c_To_readNumber 44 = .ok (.iload 4, 2) := by decide +kernel
theorem d_To_readNumber_46 : decode c_To_readNumber 46 = .ok (.iload_n 3, 1) := by decide +kernel
theorem d_To_readNumber_47 : decode c_To_readNumber 47 = .ok (.isub, 1) := by decide +kernel
theorem d_To_readNumber_48 : decode c_To_readNumber 48 = .ok (.iconst 4, 1) := by decide +kernel
theorem d_To_readNumber_49 : decode c_To_readNumber 49 = .ok (.if_icmp .gt 7, 3) := by decide +kernel
theorem d_To_readNumber_52 : decode c_To_readNumber 52 = .ok (.iconst 4, 1) := by decide +kernel
theorem d_To_readNumber_53 : decode c_To_readNumber 53 = .ok (.goto 4, 3) := by decide +kernel
theorem d_To_readNumber_56 : decode c_To_readNumber 56 = .ok (.iconst 1, 1) := by decide +kernel
theorem d_To_readNumber_57 : decode c_To_readNumber 57 = .ok (.iload 5, 2) := by decide +kernel
theorem d_To_readNumber_59 : decode c_To_readNumber 59 = .ok (.iconst 1, 1) := by decide +kernel
theorem d_To_readNumber_60 : decode c_To_readNumber 60 = .ok (.iadd, 1) := by decide +kernel
theorem d_To_readNumber_61 : decode c_To_readNumber 61 = .ok (.i2l, 1) := by decide +kernel
theorem d_To_readNumber_62 : decode c_To_readNumber 62 = .ok (.iload_n 3, 1) := by decide +kernel
theorem d_To_readNumber_63 : decode c_To_readNumber 63 = .ok (.invokevirtual 40, 3) := by decide +kernel
theorem d_To_readNumber_66 : decode c_To_readNumber 66 = .ok (.iload 4, 2) := by decide +kernel
theorem d_To_readNumber_68 : decode c_To_readNumber 68 = .ok (.ireturn, 1) := by decide +kernel
theorem d_To_endOfLetters_0 : decode c_To_endOfLetters 0 = .ok (.iload_n 2, 1) := by decide +kernel
theorem d_To_endOfLetters_1 : decode c_To_endOfLetters 1 = .ok (.istore_n 3, 1) := by decide +kernel
theorem d_To_endOfLetters_2 : decode c_To_endOfLetters 2 = .ok (.iload_n 3, 1) := by decide +kernel
theorem d_To_endOfLetters_3 : decode c_To_endOfLetters 3 = .ok (.iload_n 1, 1) := by decide +kernel
theorem d_To_endOfLetters_4 : decode c_To_endOfLetters 4 = .ok (.if_icmp .ge 18, 3) := by decide +kernel
theorem d_To_endOfLetters_7 : decode c_To_endOfLetters 7 = .ok (.aload_n 0, 1) := by decide +kernel
theorem d_To_endOfLetters_8 : decode c_To_endOfLetters 8 = .ok (.iload_n 3, 1) := by decide +kernel
theorem d_To_endOfLetters_9 : decode c_To_endOfLetters 9 = .ok (.caload, 1) := by decide +kernel
theorem d_To_endOfLetters_10 : decode c_To_endOfLetters 10 = .ok (.invokestatic 44, 3) := by decide +kernel
theorem d_To_endOfLetters_13 : decode c_To_endOfLetters 13 = .ok (.ifCond .eq 9, 3) := by decide +kernel
theorem d_To_endOfLetters_16 : decode c_To_endOfLetters 16 = .ok (.iinc 3 1, 3) := by decide +kernel
theorem d_To_endOfLetters_19 : decode c_To_endOfLetters 19 = .ok (.goto (-17), 3) := by decide +kernel
theorem d_To_endOfLetters_22 : decode c_To_endOfLetters 22 = .ok (.iload_n 3, 1) := by decide +kernel
theorem d_To_endOfLetters_23 : decode c_To_endOfLetters 23 = .ok (.ireturn, 1) := by decide +kernel
theorem d_To_packed_0 : decode c_To_packed 0 = .ok (.lconst 0, 1) := by decide +kernel
theorem d_To_packed_1 : decode c_To_packed 1 = .ok (.lstore_n 3, 1) := by decide +kernel
theorem d_To_packed_2 : decode c_To_packed 2 = .ok (.iload_n 1, 1) := by decide +kernel
theorem d_To_packed_3 : decode c_To_packed 3 = .ok (.istore 5, 2) := by decide +kernel
theorem d_To_packed_5 : decode c_To_packed 5 = .ok (.iload 5, 2) := by decide +kernel
theorem d_To_packed_7 : decode c_To_packed 7 = .ok (.iload_n 1, 1) := by decide +kernel
theorem d_To_packed_8 : decode c_To_packed 8 = .ok (.bipush 8, 2) := by decide +kernel
theorem d_To_packed_10 : decode c_To_packed 10 = .ok (.iadd, 1) := by decide +kernel
theorem d_To_packed_11 : decode c_To_packed 11 = .ok (.if_icmp .ge 30, 3) := by decide +kernel
theorem d_To_packed_14 : decode c_To_packed 14 = .ok (.lload_n 3, 1) := by decide +kernel
theorem d_To_packed_15 : decode c_To_packed 15 = .ok (.bipush 8, 2) := by decide +kernel
theorem d_To_packed_17 : decode c_To_packed 17 = .ok (.lshl, 1) := by decide +kernel
theorem d_To_packed_18 : decode c_To_packed 18 = .ok (.iload 5, 2) := by decide +kernel
theorem d_To_packed_20 : decode c_To_packed 20 = .ok (.iload_n 2, 1) := by decide +kernel
theorem d_To_packed_21 : decode c_To_packed 21 = .ok (.if_icmp .ge 10, 3) := by decide +kernel
theorem d_To_packed_24 : decode c_To_packed 24 = .ok (.aload_n 0, 1) := by decide +kernel
theorem d_To_packed_25 : decode c_To_packed 25 = .ok (.iload 5, 2) := by decide +kernel
theorem d_To_packed_27 : decode c_To_packed 27 = .ok (.caload, 1) := by decide +kernel
theorem d_To_packed_28 : decode c_To_packed 28 = .ok (.goto 4, 3) := by decide +kernel
theorem d_To_packed_31 : decode c_To_packed 31 = .ok (.iconst 0, 1) := by decide +kernel
theorem d_To_packed_32 : decode c_To_packed 32 = .ok (.i2l, 1) := by decide +kernel
theorem d_To_packed_33 : decode c_To_packed 33 = .ok (.lor, 1) := by decide +kernel
theorem d_To_packed_34 : decode c_To_packed 34 = .ok (.lstore_n 3, 1) := by decide +kernel
theorem d_To_packed_35 : decode c_To_packed 35 = .ok (.iinc 5 1, 3) := by decide +kernel
theorem d_To_packed_38 : decode c_To_packed 38 = .ok (.goto (-33), 3) := by decide +kernel
theorem d_To_packed_41 : decode c_To_packed 41 = .ok (.lload_n 3, 1) := by decide +kernel
theorem d_To_packed_42 : decode c_To_packed 42 = .ok (.lreturn, 1) := by decide +kernel
theorem d_To_isSign_0 : decode c_To_isSign 0 = .ok (.iload_n 0, 1) := by decide +kernel
theorem d_To_isSign_1 : decode c_To_isSign 1 = .ok (.bipush 123, 2) := by decide +kernel
theorem d_To_isSign_3 : decode c_To_isSign 3 = .ok (.if_icmp .eq 39, 3) := by decide +kernel
theorem d_To_isSign_6 : decode c_To_isSign 6 = .ok (.iload_n 0, 1) := by decide +kernel
theorem d_To_isSign_7 : decode c_To_isSign 7 = .ok (.bipush 125, 2) := by decide +kernel
theorem d_To_isSign_9 : decode c_To_isSign 9 = .ok (.if_icmp .eq 33, 3) := by decide +kernel
theorem d_To_isSign_12 : decode c_To_isSign 12 = .ok (.iload_n 0, 1) := by decide +kernel
theorem d_To_isSign_13 : decode c_To_isSign 13 = .ok (.bipush 46, 2) := by decide +kernel
theorem d_To_isSign_15 : decode c_To_isSign 15 = .ok (.if_icmp .eq 27, 3) := by decide +kernel
theorem d_To_isSign_18 : decode c_To_isSign 18 = .ok (.iload_n 0, 1) := by decide +kernel
theorem d_To_isSign_19 : decode c_To_isSign 19 = .ok (.bipush 61, 2) := by decide +kernel
theorem d_To_isSign_21 : decode c_To_isSign 21 = .ok (.if_icmp .eq 21, 3) := by decide +kernel
theorem d_To_isSign_24 : decode c_To_isSign 24 = .ok (.iload_n 0, 1) := by decide +kernel
theorem d_To_isSign_25 : decode c_To_isSign 25 = .ok (.bipush 60, 2) := by decide +kernel
theorem d_To_isSign_27 : decode c_To_isSign 27 = .ok (.if_icmp .eq 15, 3) := by decide +kernel
theorem d_To_isSign_30 : decode c_To_isSign 30 = .ok (.iload_n 0, 1) := by decide +kernel
theorem d_To_isSign_31 : decode c_To_isSign 31 = .ok (.bipush 62, 2) := by decide +kernel
theorem d_To_isSign_33 : decode c_To_isSign 33 = .ok (.if_icmp .eq 9, 3) := by decide +kernel
theorem d_To_isSign_36 : decode c_To_isSign 36 = .ok (.iload_n 0, 1) := by decide +kernel
theorem d_To_isSign_37 : decode c_To_isSign 37 = .ok (.bipush 33, 2) := by decide +kernel
theorem d_To_isSign_39 : decode c_To_isSign 39 = .ok (.if_icmp .ne 7, 3) := by decide +kernel
theorem d_To_isSign_42 : decode c_To_isSign 42 = .ok (.iconst 1, 1) := by decide +kernel
theorem d_To_isSign_43 : decode c_To_isSign 43 = .ok (.goto 4, 3) := by decide +kernel
theorem d_To_isSign_46 : decode c_To_isSign 46 = .ok (.iconst 0, 1) := by decide +kernel
theorem d_To_isSign_47 : decode c_To_isSign 47 = .ok (.ireturn, 1) := by decide +kernel
theorem d_To_isKey_0 : decode c_To_isKey 0 = .ok (.lload_n 0, 1) := by decide +kernel
theorem d_To_isKey_1 : decode c_To_isKey 1 = .ok (.ldc2_w 76, 3) := by decide +kernel
theorem d_To_isKey_4 : decode c_To_isKey 4 = .ok (.lcmp, 1) := by decide +kernel
theorem d_To_isKey_5 : decode c_To_isKey 5 = .ok (.ifCond .eq 83, 3) := by decide +kernel
theorem d_To_isKey_8 : decode c_To_isKey 8 = .ok (.lload_n 0, 1) := by decide +kernel
theorem d_To_isKey_9 : decode c_To_isKey 9 = .ok (.ldc2_w 78, 3) := by decide +kernel
theorem d_To_isKey_12 : decode c_To_isKey 12 = .ok (.lcmp, 1) := by decide +kernel
theorem d_To_isKey_13 : decode c_To_isKey 13 = .ok (.ifCond .eq 75, 3) := by decide +kernel
theorem d_To_isKey_16 : decode c_To_isKey 16 = .ok (.lload_n 0, 1) := by decide +kernel
theorem d_To_isKey_17 : decode c_To_isKey 17 = .ok (.ldc2_w 80, 3) := by decide +kernel
theorem d_To_isKey_20 : decode c_To_isKey 20 = .ok (.lcmp, 1) := by decide +kernel
theorem d_To_isKey_21 : decode c_To_isKey 21 = .ok (.ifCond .eq 67, 3) := by decide +kernel
theorem d_To_isKey_24 : decode c_To_isKey 24 = .ok (.lload_n 0, 1) := by decide +kernel
theorem d_To_isKey_25 : decode c_To_isKey 25 = .ok (.ldc2_w 82, 3) := by decide +kernel
theorem d_To_isKey_28 : decode c_To_isKey 28 = .ok (.lcmp, 1) := by decide +kernel
theorem d_To_isKey_29 : decode c_To_isKey 29 = .ok (.ifCond .eq 59, 3) := by decide +kernel
theorem d_To_isKey_32 : decode c_To_isKey 32 = .ok (.lload_n 0, 1) := by decide +kernel
theorem d_To_isKey_33 : decode c_To_isKey 33 = .ok (.ldc2_w 84, 3) := by decide +kernel
theorem d_To_isKey_36 : decode c_To_isKey 36 = .ok (.lcmp, 1) := by decide +kernel
theorem d_To_isKey_37 : decode c_To_isKey 37 = .ok (.ifCond .eq 51, 3) := by decide +kernel
theorem d_To_isKey_40 : decode c_To_isKey 40 = .ok (.lload_n 0, 1) := by decide +kernel
theorem d_To_isKey_41 : decode c_To_isKey 41 = .ok (.ldc2_w 86, 3) := by decide +kernel
theorem d_To_isKey_44 : decode c_To_isKey 44 = .ok (.lcmp, 1) := by decide +kernel
theorem d_To_isKey_45 : decode c_To_isKey 45 = .ok (.ifCond .eq 43, 3) := by decide +kernel
theorem d_To_isKey_48 : decode c_To_isKey 48 = .ok (.lload_n 0, 1) := by decide +kernel
theorem d_To_isKey_49 : decode c_To_isKey 49 = .ok (.ldc2_w 88, 3) := by decide +kernel
theorem d_To_isKey_52 : decode c_To_isKey 52 = .ok (.lcmp, 1) := by decide +kernel
theorem d_To_isKey_53 : decode c_To_isKey 53 = .ok (.ifCond .eq 35, 3) := by decide +kernel
theorem d_To_isKey_56 : decode c_To_isKey 56 = .ok (.lload_n 0, 1) := by decide +kernel
theorem d_To_isKey_57 : decode c_To_isKey 57 = .ok (.ldc2_w 90, 3) := by decide +kernel
theorem d_To_isKey_60 : decode c_To_isKey 60 = .ok (.lcmp, 1) := by decide +kernel
theorem d_To_isKey_61 : decode c_To_isKey 61 = .ok (.ifCond .eq 27, 3) := by decide +kernel
theorem d_To_isKey_64 : decode c_To_isKey 64 = .ok (.lload_n 0, 1) := by decide +kernel
theorem d_To_isKey_65 : decode c_To_isKey 65 = .ok (.ldc2_w 92, 3) := by decide +kernel
theorem d_To_isKey_68 : decode c_To_isKey 68 = .ok (.lcmp, 1) := by decide +kernel
theorem d_To_isKey_69 : decode c_To_isKey 69 = .ok (.ifCond .eq 19, 3) := by decide +kernel
theorem d_To_isKey_72 : decode c_To_isKey 72 = .ok (.lload_n 0, 1) := by decide +kernel
theorem d_To_isKey_73 : decode c_To_isKey 73 = .ok (.ldc2_w 94, 3) := by decide +kernel
theorem d_To_isKey_76 : decode c_To_isKey 76 = .ok (.lcmp, 1) := by decide +kernel
theorem d_To_isKey_77 : decode c_To_isKey 77 = .ok (.ifCond .eq 11, 3) := by decide +kernel
theorem d_To_isKey_80 : decode c_To_isKey 80 = .ok (.lload_n 0, 1) := by decide +kernel
theorem d_To_isKey_81 : decode c_To_isKey 81 = .ok (.ldc2_w 96, 3) := by decide +kernel
theorem d_To_isKey_84 : decode c_To_isKey 84 = .ok (.lcmp, 1) := by decide +kernel
theorem d_To_isKey_85 : decode c_To_isKey 85 = .ok (.ifCond .ne 7, 3) := by decide +kernel
theorem d_To_isKey_88 : decode c_To_isKey 88 = .ok (.iconst 1, 1) := by decide +kernel
theorem d_To_isKey_89 : decode c_To_isKey 89 = .ok (.goto 4, 3) := by decide +kernel
theorem d_To_isKey_92 : decode c_To_isKey 92 = .ok (.iconst 0, 1) := by decide +kernel
theorem d_To_isKey_93 : decode c_To_isKey 93 = .ok (.ireturn, 1) := by decide +kernel
