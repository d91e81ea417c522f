theorem d_El_init_0 : decode c_El_init 0 = .ok (.aload_n 0, 1) := by decide +kernel
theorem d_El_init_1 : decode c_El_init 1 = .ok (.invokespecial 3, 3) := by decide +kernel
theorem d_El_init_4 : decode c_El_init 4 = .ok (.aload_n 0, 1) := by decide +kernel
theorem d_El_init_5 : decode c_El_init 5 = .ok (.iconst 0, 1) := by decide +kernel
theorem d_El_init_6 : decode c_El_init 6 = .ok (.putfield 11, 3) := by decide +kernel
theorem d_El_init_9 : decode c_El_init 9 = .ok (.aload_n 0, 1) := by decide +kernel
theorem d_El_init_10 : decode c_El_init 10 = .ok (.iconst 0, 1) := by decide +kernel
theorem d_El_init_11 : decode c_El_init 11 = .ok (.putfield 15, 3) := by decide +kernel
theorem d_El_init_14 : decode c_El_init 14 = .ok (.aload_n 0, 1) := by decide +kernel
theorem d_El_init_15 : decode c_El_init 15 = .ok (.lconst 0, 1) := by decide +kernel
theorem d_El_init_16 : decode c_El_init 16 = .ok (.putfield 18, 3) := by decide +kernel
theorem d_El_init_19 : decode c_El_init 19 = .ok (.aload_n 0, 1) := by decide +kernel
theorem d_El_init_20 : decode c_El_init 20 = .ok (.lconst 0, 1) := by decide +kernel
theorem d_El_init_21 : decode c_El_init 21 = .ok (.putfield 22, 3) := by decide +kernel
theorem d_El_init_24 : decode c_El_init 24 = .ok (.aload_n 0, 1) := by decide +kernel
theorem d_El_init_25 : decode c_El_init 25 = .ok (.lconst 0, 1) := by decide +kernel
theorem d_El_init_26 : decode c_El_init 26 = .ok (.putfield 25, 3) := by decide +kernel
theorem d_El_init_29 : decode c_El_init 29 = .ok (.aload_n 0, 1) := by decide +kernel
theorem d_El_init_30 : decode c_El_init 30 = .ok (.iconst 0, 1) := by decide +kernel
theorem d_El_init_31 : decode c_El_init 31 = .ok (.putfield 28, 3) := by decide +kernel
theorem d_El_init_34 : decode c_El_init 34 = .ok (.aload_n 0, 1) := by decide +kernel
theorem d_El_init_35 : decode c_El_init 35 = .ok (.iconst 0, 1) := by decide +kernel
theorem d_El_init_36 : decode c_El_init 36 = .ok (.putfield 31, 3) := by decide +kernel
theorem d_El_init_39 : decode c_El_init 39 = .ok (.return_, 1) := by decide +kernel
theorem d_So_init_0 : decode c_So_init 0 = .ok (.aload_n 0, 1) := by decide +kernel
theorem d_So_init_1 : decode c_So_init 1 = .ok (.invokespecial 3, 3) := by decide +kernel
theorem d_So_init_4 : decode c_So_init 4 = .ok (.aload_n 0, 1) := by decide +kernel
theorem d_So_init_5 : decode c_So_init 5 = .ok (.sipush 900, 3) := by decide +kernel
theorem d_So_init_8 : decode c_So_init 8 = .ok (.newarray .long, 2) := by decide +kernel
theorem d_So_init_10 : decode c_So_init 10 = .ok (.putfield 9, 3) := by decide +kernel
theorem d_So_init_13 : decode c_So_init 13 = .ok (.aload_n 0, 1) := by decide +kernel
theorem d_So_init_14 : decode c_So_init 14 = .ok (.iconst 0, 1) := by decide +kernel
theorem d_So_init_15 : decode c_So_init 15 = .ok (.putfield 15, 3) := by decide +kernel
theorem d_So_init_18 : decode c_So_init 18 = .ok (.return_, 1) := by decide +kernel
theorem d_So_size_0 : decode c_So_size 0 = .ok (.aload_n 0, 1) := by decide +kernel
theorem d_So_size_1 : decode c_So_size 1 = .ok (.getfield 15, 3) := by decide +kernel
theorem d_So_size_4 : decode c_So_size 4 = .ok (.ireturn, 1) := by decide +kernel
theorem d_So_clear_0 : decode c_So_clear 0 = .ok (.aload_n 0, 1) := by decide +kernel
theorem d_So_clear_1 : decode c_So_clear 1 = .ok (.iconst 0, 1) := by decide +kernel
theorem d_So_clear_2 : decode c_So_clear 2 = .ok (.putfield 15, 3) := by decide +kernel
theorem d_So_clear_5 : decode c_So_clear 5 = .ok (.return_, 1) := by decide +kernel
theorem d_So_term_0 : decode c_So_term 0 = .ok (.iload_n 1, 1) := by decide +kernel
theorem d_So_term_1 : decode c_So_term 1 = .ok (.ifCond .lt 21, 3) := by decide +kernel
theorem d_So_term_4 : decode c_So_term 4 = .ok (.iload_n 1, 1) := by decide +kernel
theorem d_So_term_5 : decode c_So_term 5 = .ok (.aload_n 0, 1) := by decide +kernel
theorem d_So_term_6 : decode c_So_term 6 = .ok (.getfield 15, 3) := by decide +kernel
theorem d_So_term_9 : decode c_So_term 9 = .ok (.if_icmp .ge 13, 3) := by decide +kernel
theorem d_So_term_12 : decode c_So_term 12 = .ok (.iload_n 2, 1) := by decide +kernel
theorem d_So_term_13 : decode c_So_term 13 = .ok (.ifCond .lt 9, 3) := by decide +kernel
theorem d_So_term_16 : decode c_So_term 16 = .ok (.iload_n 2, 1) := by decide +kernel
theorem d_So_term_17 : decode c_So_term 17 = .ok (.bipush 6, 2) := by decide +kernel
theorem d_So_term_19 : decode c_So_term 19 = .ok (.if_icmp .lt 5, 3) := by decide +kernel
theorem d_So_term_22 : decode c_So_term 22 = .ok (.lconst 0, 1) := by decide +kernel
theorem d_So_term_23 : decode c_So_term 23 = .ok (.lreturn, 1) := by decide +kernel
theorem d_So_term_24 : decode c_So_term 24 = .ok (.aload_n 0, 1) := by decide +kernel
theorem d_So_term_25 : decode c_So_term 25 = .ok (.getfield 9, 3) := by decide +kernel
theorem d_So_term_28 : decode c_So_term 28 = .ok (.iload_n 1, 1) := by decide +kernel
theorem d_So_term_29 : decode c_So_term 29 = .ok (.bipush 6, 2) := by decide +kernel
theorem d_So_term_31 : decode c_So_term 31 = .ok (.imul, 1) := by decide +kernel
theorem d_So_term_32 : decode c_So_term 32 = .ok (.iload_n 2, 1) := by decide +kernel
theorem d_So_term_33 : decode c_So_term 33 = .ok (.iadd, 1) := by decide +kernel
theorem d_So_term_34 : decode c_So_term 34 = .ok (.laload, 1) := by decide +kernel
theorem d_So_term_35 : decode c_So_term 35 = .ok (.lreturn, 1) := by decide +kernel
theorem d_So_put_0 : decode c_So_put 0 = .ok (.aload_n 0, 1) := by decide +kernel
theorem d_So_put_1 : decode c_So_put 1 = .ok (.getfield 15, 3) := by decide +kernel
theorem d_So_put_4 : decode c_So_put 4 = .ok (.sipush 150, 3) := by decide +kernel
theorem d_So_put_7 : decode c_So_put 7 = .ok (.if_icmp .lt 5, 3) := by decide +kernel
theorem d_So_put_10 : decode c_So_put 10 = .ok (.iconst 0, 1) := by decide +kernel
theorem d_So_put_11 : decode c_So_put 11 = .ok (.ireturn, 1) := by decide +kernel
theorem d_So_put_12 : decode c_So_put 12 = .ok (.aload_n 1, 1) := by decide +kernel
theorem d_So_put_13 : decode c_So_put 13 = .ok (.iconst 0, 1) := by decide +kernel
theorem d_So_put_14 : decode c_So_put 14 = .ok (.aload_n 0, 1) := by decide +kernel
theorem d_So_put_15 : decode c_So_put 15 = .ok (.getfield 9, 3) := by decide +kernel
theorem d_So_put_18 : decode c_So_put 18 = .ok (.aload_n 0, 1) := by decide +kernel
theorem d_So_put_19 : decode c_So_put 19 = .ok (.getfield 15, 3) := by decide +kernel
theorem d_So_put_22 : decode c_So_put 22 = .ok (.bipush 6, 2) := by decide +kernel
theorem d_So_put_24 : decode c_So_put 24 = .ok (.imul, 1) := by decide +kernel
theorem d_So_put_25 : decode c_So_put 25 = .ok (.bipush 6, 2) := by decide +kernel
theorem d_So_put_27 : decode c_So_put 27 = .ok (.invokestatic 21, 3) := by decide +kernel
theorem d_So_put_30 : decode c_So_put 30 = .ok (.aload_n 0, 1) := by decide +kernel
theorem d_So_put_31 : decode c_So_put 31 = .ok (.dup, 1) := by decide +kernel
theorem d_So_put_32 : decode c_So_put 32 = .ok (.getfield 15, 3) := by decide +kernel
theorem d_So_put_35 : decode c_So_put 35 = .ok (.iconst 1, 1) := by decide +kernel
theorem d_So_put_36 : decode c_So_put 36 = .ok (.iadd, 1) := by decide +kernel
theorem d_So_put_37 : decode c_So_put 37 = .ok (.putfield 15, 3) := by decide +kernel
theorem d_So_put_40 : decode c_So_put 40 = .ok (.iconst 1, 1) := by decide +kernel
theorem d_So_put_41 : decode c_So_put 41 = .ok (.ireturn, 1) := by decide +kernel
theorem d_So_copy_0 : decode c_So_copy 0 = .ok (.iload_n 1, 1) := by decide +kernel
theorem d_So_copy_1 : decode c_So_copy 1 = .ok (.ifCond .lt 26, 3) := by decide +kernel
theorem d_So_copy_4 : decode c_So_copy 4 = .ok (.iload_n 1, 1) := by decide +kernel
theorem d_So_copy_5 : decode c_So_copy 5 = .ok (.aload_n 0, 1) := by decide +kernel
theorem d_So_copy_6 : decode c_So_copy 6 = .ok (.getfield 15, 3) := by decide +kernel
theorem d_So_copy_9 : decode c_So_copy 9 = .ok (.if_icmp .ge 18, 3) := by decide +kernel
theorem d_So_copy_12 : decode c_So_copy 12 = .ok (.aload_n 0, 1) := by decide +kernel
theorem d_So_copy_13 : decode c_So_copy 13 = .ok (.getfield 9, 3) := by decide +kernel
theorem d_So_copy_16 : decode c_So_copy 16 = .ok (.iload_n 1, 1) := by decide +kernel
theorem d_So_copy_17 : decode c_So_copy 17 = .ok (.bipush 6, 2) := by decide +kernel
theorem d_So_copy_19 : decode c_So_copy 19 = .ok (.imul, 1) := by decide +kernel
theorem d_So_copy_20 : decode c_So_copy 20 = .ok (.aload_n 2, 1) := by decide +kernel
theorem d_So_copy_21 : decode c_So_copy 21 = .ok (.iconst 0, 1) := by decide +kernel
theorem d_So_copy_22 : decode c_So_copy 22 = .ok (.bipush 6, 2) := by decide +kernel
theorem d_So_copy_24 : decode c_So_copy 24 = .ok (.invokestatic 21, 3) := by decide +kernel
theorem d_So_copy_27 : decode c_So_copy 27 = .ok (.return_, 1) := by decide +kernel
theorem d_So_joinInto_0 : decode c_So_joinInto 0 = .ok (.iconst 0, 1) := by decide +kernel
theorem d_So_joinInto_1 : decode c_So_joinInto 1 = .ok (.istore_n 3, 1) := by decide +kernel
theorem d_So_joinInto_2 : decode c_So_joinInto 2 = .ok (.iload_n 3, 1) := by decide +kernel
theorem d_So_joinInto_3 : decode c_So_joinInto 3 = .ok (.bipush 6, 2) := by decide +kernel
theorem d_So_joinInto_5 : decode c_So_joinInto 5 = .ok (.if_icmp .ge 51, 3) := by decide +kernel
theorem d_So_joinInto_8 : decode c_So_joinInto 8 = .ok (.aload_n 0, 1) := by decide +kernel
theorem d_So_joinInto_9 : decode c_So_joinInto 9 = .ok (.iload_n 1, 1) := by decide +kernel
theorem d_So_joinInto_10 : decode c_So_joinInto 10 = .ok (.iload_n 3, 1) := by decide +kernel
theorem d_So_joinInto_11 : decode c_So_joinInto 11 = .ok (.invokevirtual 27, 3) := by decide +kernel
theorem d_So_joinInto_14 : decode c_So_joinInto 14 = .ok (.lstore 4, 2) := by decide +kernel
theorem d_So_joinInto_16 : decode c_So_joinInto 16 = .ok (.aload_n 2, 1) := by decide +kernel
theorem d_So_joinInto_17 : decode c_So_joinInto 17 = .ok (.iload_n 3, 1) := by decide +kernel
theorem d_So_joinInto_18 : decode c_So_joinInto 18 = .ok (.laload, 1) := by decide +kernel
theorem d_So_joinInto_19 : decode c_So_joinInto 19 = .ok (.lconst 0, 1) := by decide +kernel
theorem d_So_joinInto_20 : decode c_So_joinInto 20 = .ok (.lcmp, 1) := by decide +kernel
theorem d_So_joinInto_21 : decode c_So_joinInto 21 = .ok (.ifCond .ne 11, 3) := by decide +kernel
theorem d_So_joinInto_24 : decode c_So_joinInto 24 = .ok (.aload_n 2, 1) := by decide +kernel
theorem d_So_joinInto_25 : decode c_So_joinInto 25 = .ok (.iload_n 3, 1) := by decide +kernel
theorem d_So_joinInto_26 : decode c_So_joinInto 26 = .ok (.lload 4, 2) := by decide +kernel
theorem d_So_joinInto_28 : decode c_So_joinInto 28 = .ok (.lastore, 1) := by decide +kernel
theorem d_So_joinInto_29 : decode c_So_joinInto 29 = .ok (.goto 21, 3) := by decide +kernel
theorem d_So_joinInto_32 : decode c_So_joinInto 32 = .ok (.lload 4, 2) := by decide +kernel
theorem d_So_joinInto_34 : decode c_So_joinInto 34 = .ok (.lconst 0, 1) := by decide +kernel
theorem d_So_joinInto_35 : decode c_So_joinInto 35 = .ok (.lcmp, 1) := by decide +kernel
theorem d_So_joinInto_36 : decode c_So_joinInto 36 = .ok (.ifCond .eq 14, 3) := by decide +kernel
theorem d_So_joinInto_39 : decode c_So_joinInto 39 = .ok (.lload 4, 2) := by decide +kernel
theorem d_So_joinInto_41 : decode c_So_joinInto 41 = .ok (.aload_n 2, 1) := by decide +kernel
theorem d_So_joinInto_42 : decode c_So_joinInto 42 = .ok (.iload_n 3, 1) := by decide +kernel
theorem d_So_joinInto_43 : decode c_So_joinInto 43 = .ok (.laload, 1) := by decide +kernel
theorem d_So_joinInto_44 : decode c_So_joinInto 44 = .ok (.lcmp, 1) := by decide +kernel
theorem d_So_joinInto_45 : decode c_So_joinInto 45 = .ok (.ifCond .eq 5, 3) := by decide +kernel
theorem d_So_joinInto_48 : decode c_So_joinInto 48 = .ok (.iconst 0, 1) := by decide +kernel
theorem d_So_joinInto_49 : decode c_So_joinInto 49 = .ok (.ireturn, 1) := by decide +kernel
theorem d_So_joinInto_50 : decode c_So_joinInto 50 = .ok (.iinc 3 1, 3) := by decide +kernel
theorem d_So_joinInto_53 : decode c_So_joinInto 53 = .ok (.goto (-51), 3) := by decide +kernel
theorem d_So_joinInto_56 : decode c_So_joinInto 56 = .ok (.iconst 1, 1) := by decide +kernel
theorem d_So_joinInto_57 : decode c_So_joinInto 57 = .ok (.ireturn, 1) := by decide +kernel
theorem d_So_sharesVariable_0 : decode c_So_sharesVariable 0 = .ok (.iconst 0, 1) := by decide +kernel
theorem d_So_sharesVariable_1 : decode c_So_sharesVariable 1 = .ok (.istore_n 3, 1) := by decide +kernel
theorem d_So_sharesVariable_2 : decode c_So_sharesVariable 2 = .ok (.iload_n 3, 1) := by decide +kernel
theorem d_So_sharesVariable_3 : decode c_So_sharesVariable 3 = .ok (.bipush 6, 2) := by decide +kernel
theorem d_So_sharesVariable_5 : decode c_So_sharesVariable 5 = .ok (.if_icmp .ge 30, 3) := by decide +kernel
theorem d_So_sharesVariable_8 : decode c_So_sharesVariable 8 = .ok (.aload_n 2, 1) := by decide +kernel
theorem d_So_sharesVariable_9 : decode c_So_sharesVariable 9 = .ok (.iload_n 3, 1) := by decide +kernel
theorem d_So_sharesVariable_10 : decode c_So_sharesVariable 10 = .ok (.laload, 1) := by decide +kernel
theorem d_So_sharesVariable_11 : decode c_So_sharesVariable 11 = .ok (.lconst 0, 1) := by decide +kernel
theorem d_So_sharesVariable_12 : decode c_So_sharesVariable 12 = .ok (.lcmp, 1) := by decide +kernel
theorem d_So_sharesVariable_13 : decode c_So_sharesVariable 13 = .ok (.ifCond .eq 16, 3) := by decide +kernel
theorem d_So_sharesVariable_16 : decode c_So_sharesVariable 16 = .ok (.aload_n 0, 1) := by decide +kernel
theorem d_So_sharesVariable_17 : decode c_So_sharesVariable 17 = .ok (.iload_n 1, 1) := by decide +kernel
theorem d_So_sharesVariable_18 : decode c_So_sharesVariable 18 = .ok (.iload_n 3, 1) := by decide +kernel
theorem d_So_sharesVariable_19 : decode c_So_sharesVariable 19 = .ok (.invokevirtual 27, 3) := by decide +kernel
theorem d_So_sharesVariable_22 : decode c_So_sharesVariable 22 = .ok (.lconst 0, 1) := by decide +kernel
theorem d_So_sharesVariable_23 : decode c_So_sharesVariable 23 = .ok (.lcmp, 1) := by decide +kernel
theorem d_So_sharesVariable_24 : decode c_So_sharesVariable 24 = .ok (.ifCond .eq 5, 3) := by decide +kernel
theorem d_So_sharesVariable_27 : decode c_So_sharesVariable 27 = .ok (.iconst 1, 1) := by decide +kernel
theorem d_So_sharesVariable_28 : decode c_So_sharesVariable 28 = .ok (.ireturn, 1) := by decide +kernel
theorem d_So_sharesVariable_29 : decode c_So_sharesVariable 29 = .ok (.iinc 3 1, 3) := by decide +kernel
theorem d_So_sharesVariable_32 : decode c_So_sharesVariable 32 = .ok (.goto (-30), 3) := by decide +kernel
theorem d_So_sharesVariable_35 : decode c_So_sharesVariable 35 = .ok (.iconst 0, 1) := by decide +kernel
theorem d_So_sharesVariable_36 : decode c_So_sharesVariable 36 = .ok (.ireturn, 1) := by decide +kernel
theorem d_St_init_0 : decode c_St_init 0 = .ok (.aload_n 0, 1) := by decide +kernel
theorem d_St_init_1 : decode c_St_init 1 = .ok (.invokespecial 3, 3) := by decide +kernel
theorem d_St_init_4 : decode c_St_init 4 = .ok (.aload_n 0, 1) := by decide +kernel
theorem d_St_init_5 : decode c_St_init 5 = .ok (.new 9, 3) := by decide +kernel
theorem d_St_init_8 : decode c_St_init 8 = .ok (.dup, 1) := by decide +kernel
theorem d_St_init_9 : decode c_St_init 9 = .ok (.bipush 48, 2) := by decide +kernel
theorem d_St_init_11 : decode c_St_init 11 = .ok (.invokespecial 11, 3) := by decide +kernel
theorem d_St_init_14 : decode c_St_init 14 = .ok (.putfield 14, 3) := by decide +kernel
theorem d_St_init_17 : decode c_St_init 17 = .ok (.aload_n 0, 1) := by decide +kernel
theorem d_St_init_18 : decode c_St_init 18 = .ok (.new 9, 3) := by decide +kernel
theorem d_St_init_21 : decode c_St_init 21 = .ok (.dup, 1) := by decide +kernel
theorem d_St_init_22 : decode c_St_init 22 = .ok (.sipush 512, 3) := by decide +kernel
theorem d_St_init_25 : decode c_St_init 25 = .ok (.invokespecial 11, 3) := by decide +kernel
theorem d_St_init_28 : decode c_St_init 28 = .ok (.putfield 20, 3) := by decide +kernel
theorem d_St_init_31 : decode c_St_init 31 = .ok (.aload_n 0, 1) := by decide +kernel
theorem d_St_init_32 : decode c_St_init 32 = .ok (.sipush 512, 3) := by decide +kernel
theorem d_St_init_35 : decode c_St_init 35 = .ok (.newarray .boolean, 2) := by decide +kernel
theorem d_St_init_37 : decode c_St_init 37 = .ok (.putfield 23, 3) := by decide +kernel
theorem d_St_init_40 : decode c_St_init 40 = .ok (.aload_n 0, 1) := by decide +kernel
theorem d_St_init_41 : decode c_St_init 41 = .ok (.sipush 512, 3) := by decide +kernel
theorem d_St_init_44 : decode c_St_init 44 = .ok (.newarray .int, 2) := by decide +kernel
theorem d_St_init_46 : decode c_St_init 46 = .ok (.putfield 27, 3) := by decide +kernel
theorem d_St_init_49 : decode c_St_init 49 = .ok (.aload_n 0, 1) := by decide +kernel
theorem d_St_init_50 : decode c_St_init 50 = .ok (.iconst 0, 1) := by decide +kernel
theorem d_St_init_51 : decode c_St_init 51 = .ok (.putfield 31, 3) := by decide +kernel
theorem d_St_init_54 : decode c_St_init 54 = .ok (.aload_n 0, 1) := by decide +kernel
theorem d_St_init_55 : decode c_St_init 55 = .ok (.iconst 0, 1) := by decide +kernel
theorem d_St_init_56 : decode c_St_init 56 = .ok (.putfield 35, 3) := by decide +kernel
theorem d_St_init_59 : decode c_St_init 59 = .ok (.aload_n 0, 1) := by decide +kernel
theorem d_St_init_60 : decode c_St_init 60 = .ok (.iconst 0, 1) := by decide +kernel
theorem d_St_init_61 : decode c_St_init 61 = .ok (.putfield 39, 3) := by decide +kernel
theorem d_St_init_64 : decode c_St_init 64 = .ok (.aload_n 0, 1) := by decide +kernel
theorem d_St_init_65 : decode c_St_init 65 = .ok (.iconst 0, 1) := by decide +kernel
theorem d_St_init_66 : decode c_St_init 66 = .ok (.putfield 42, 3) := by decide +kernel
theorem d_St_init_69 : decode c_St_init 69 = .ok (.return_, 1) := by decide +kernel
theorem d_St_size_0 : decode c_St_size 0 = .ok (.aload_n 0, 1) := by decide +kernel
theorem d_St_size_1 : decode c_St_size 1 = .ok (.getfield 14, 3) := by decide +kernel
theorem d_St_size_4 : decode c_St_size 4 = .ok (.invokevirtual 45, 3) := by decide +kernel
theorem d_St_size_7 : decode c_St_size 7 = .ok (.ireturn, 1) := by decide +kernel
theorem d_St_isOpen_0 : decode c_St_isOpen 0 = .ok (.aload_n 0, 1) := by decide +kernel
theorem d_St_isOpen_1 : decode c_St_isOpen 1 = .ok (.getfield 31, 3) := by decide +kernel
theorem d_St_isOpen_4 : decode c_St_isOpen 4 = .ok (.ireturn, 1) := by decide +kernel
theorem d_St_changes_0 : decode c_St_changes 0 = .ok (.aload_n 0, 1) := by decide +kernel
theorem d_St_changes_1 : decode c_St_changes 1 = .ok (.getfield 35, 3) := by decide +kernel
theorem d_St_changes_4 : decode c_St_changes 4 = .ok (.ireturn, 1) := by decide +kernel
theorem d_St_committed_0 : decode c_St_committed 0 = .ok (.aload_n 0, 1) := by decide +kernel
theorem d_St_committed_1 : decode c_St_committed 1 = .ok (.getfield 39, 3) := by decide +kernel
theorem d_St_committed_4 : decode c_St_committed 4 = .ok (.ireturn, 1) := by decide +kernel
theorem d_St_unsynced_0 : decode c_St_unsynced 0 = .ok (.aload_n 0, 1) := by decide +kernel
theorem d_St_unsynced_1 : decode c_St_unsynced 1 = .ok (.getfield 42, 3) := by decide +kernel
theorem d_St_unsynced_4 : decode c_St_unsynced 4 = .ok (.ireturn, 1) := by decide +kernel
theorem d_St_has_0 : decode c_St_has 0 = .ok (.aload_n 0, 1) := by decide +kernel
theorem d_St_has_1 : decode c_St_has 1 = .ok (.getfield 14, 3) := by decide +kernel
theorem d_St_has_4 : decode c_St_has 4 = .ok (.lload_n 1, 1) := by decide +kernel
theorem d_St_has_5 : decode c_St_has 5 = .ok (.lload_n 3, 1) := by decide +kernel
theorem d_St_has_6 : decode c_St_has 6 = .ok (.lload 5, 2) := by decide +kernel
theorem d_St_has_8 : decode c_St_has 8 = .ok (.invokevirtual 49, 3) := by decide +kernel
theorem d_St_has_11 : decode c_St_has 11 = .ok (.ifCond .lt 7, 3) := by decide +kernel
theorem d_St_has_14 : decode c_St_has 14 = .ok (.iconst 1, 1) := by decide +kernel
theorem d_St_has_15 : decode c_St_has 15 = .ok (.goto 4, 3) := by decide +kernel
theorem d_St_has_18 : decode c_St_has 18 = .ok (.iconst 0, 1) := by decide +kernel
theorem d_St_has_19 : decode c_St_has 19 = .ok (.ireturn, 1) := by decide +kernel
theorem d_St_subject_0 : decode c_St_subject 0 = .ok (.aload_n 0, 1) := by decide +kernel
theorem d_St_subject_1 : decode c_St_subject 1 = .ok (.getfield 14, 3) := by decide +kernel
theorem d_St_subject_4 : decode c_St_subject 4 = .ok (.iload_n 1, 1) := by decide +kernel
theorem d_St_subject_5 : decode c_St_subject 5 = .ok (.invokevirtual 53, 3) := by decide +kernel
theorem d_St_subject_8 : decode c_St_subject 8 = .ok (.lreturn, 1) := by decide +kernel
theorem d_St_predicate_0 : decode c_St_predicate 0 = .ok (.aload_n 0, 1) := by decide +kernel
theorem d_St_predicate_1 : decode c_St_predicate 1 = .ok (.getfield 14, 3) := by decide +kernel
theorem d_St_predicate_4 : decode c_St_predicate 4 = .ok (.iload_n 1, 1) := by decide +kernel
theorem d_St_predicate_5 : decode c_St_predicate 5 = .ok (.invokevirtual 57, 3) := by decide +kernel
theorem d_St_predicate_8 : decode c_St_predicate 8 = .ok (.lreturn, 1) := by decide +kernel
theorem d_St_object_0 : decode c_St_object 0 = .ok (.aload_n 0, 1) := by decide +kernel
theorem d_St_object_1 : decode c_St_object 1 = .ok (.getfield 14, 3) := by decide +kernel
theorem d_St_object_4 : decode c_St_object 4 = .ok (.iload_n 1, 1) := by decide +kernel
theorem d_St_object_5 : decode c_St_object 5 = .ok (.invokevirtual 60, 3) := by decide +kernel
theorem d_St_object_8 : decode c_St_object 8 = .ok (.lreturn, 1) := by decide +kernel
theorem d_St_insert_0 : decode c_St_insert 0 = .ok (.aload_n 0, 1) := by decide +kernel
theorem d_St_insert_1 : decode c_St_insert 1 = .ok (.getfield 20, 3) := by decide +kernel
theorem d_St_insert_4 : decode c_St_insert 4 = .ok (.invokevirtual 63, 3) := by decide +kernel
theorem d_St_insert_7 : decode c_St_insert 7 = .ok (.ifCond .ne 13, 3) := by decide +kernel
theorem d_St_insert_10 : decode c_St_insert 10 = .ok (.aload_n 0, 1) := by decide +kernel
theorem d_St_insert_11 : decode c_St_insert 11 = .ok (.getfield 14, 3) := by decide +kernel
theorem d_St_insert_14 : decode c_St_insert 14 = .ok (.invokevirtual 63, 3) := by decide +kernel
theorem d_St_insert_17 : decode c_St_insert 17 = .ok (.ifCond .eq 5, 3) := by decide +kernel
theorem d_St_insert_20 : decode c_St_insert 20 = .ok (.iconst 0, 1) := by decide +kernel
theorem d_St_insert_21 : decode c_St_insert 21 = .ok (.ireturn, 1) := by decide +kernel
theorem d_St_insert_22 : decode c_St_insert 22 = .ok (.aload_n 0, 1) := by decide +kernel
theorem d_St_insert_23 : decode c_St_insert 23 = .ok (.getfield 14, 3) := by decide +kernel
theorem d_St_insert_26 : decode c_St_insert 26 = .ok (.lload_n 1, 1) := by decide +kernel
theorem d_St_insert_27 : decode c_St_insert 27 = .ok (.lload_n 3, 1) := by decide +kernel
theorem d_St_insert_28 : decode c_St_insert 28 = .ok (.lload 5, 2) := by decide +kernel
theorem d_St_insert_30 : decode c_St_insert 30 = .ok (.invokevirtual 67, 3) := by decide +kernel
theorem d_St_insert_33 : decode c_St_insert 33 = .ok (.aload_n 0, 1) := by decide +kernel
theorem d_St_insert_34 : decode c_St_insert 34 = .ok (.lload_n 1, 1) := by decide +kernel
theorem d_St_insert_35 : decode c_St_insert 35 = .ok (.lload_n 3, 1) := by decide +kernel
theorem d_St_insert_36 : decode c_St_insert 36 = .ok (.lload 5, 2) := by decide +kernel
theorem d_St_insert_38 : decode c_St_insert 38 = .ok (.iconst 1, 1) := by decide +kernel
theorem d_St_insert_39 : decode c_St_insert 39 = .ok (.invokevirtual 71, 3) := by decide +kernel
theorem d_St_insert_42 : decode c_St_insert 42 = .ok (.iconst 1, 1) := by decide +kernel
theorem d_St_insert_43 : decode c_St_insert 43 = .ok (.ireturn, 1) := by decide +kernel
theorem d_St_delete_0 : decode c_St_delete 0 = .ok (.aload_n 0, 1) := by decide +kernel
theorem d_St_delete_1 : decode c_St_delete 1 = .ok (.getfield 14, 3) := by decide +kernel
theorem d_St_delete_4 : decode c_St_delete 4 = .ok (.lload_n 1, 1) := by decide +kernel
theorem d_St_delete_5 : decode c_St_delete 5 = .ok (.lload_n 3, 1) := by decide +kernel
theorem d_St_delete_6 : decode c_St_delete 6 = .ok (.lload 5, 2) := by decide +kernel
theorem d_St_delete_8 : decode c_St_delete 8 = .ok (.invokevirtual 49, 3) := by decide +kernel
theorem d_St_delete_11 : decode c_St_delete 11 = .ok (.istore 7, 2) := by decide +kernel
theorem d_St_delete_13 : decode c_St_delete 13 = .ok (.iload 7, 2) := by decide +kernel
theorem d_St_delete_15 : decode c_St_delete 15 = .ok (.ifCond .lt 13, 3) := by decide +kernel
theorem d_St_delete_18 : decode c_St_delete 18 = .ok (.aload_n 0, 1) := by decide +kernel
theorem d_St_delete_19 : decode c_St_delete 19 = .ok (.getfield 20, 3) := by decide +kernel
theorem d_St_delete_22 : decode c_St_delete 22 = .ok (.invokevirtual 63, 3) := by decide +kernel
theorem d_St_delete_25 : decode c_St_delete 25 = .ok (.ifCond .eq 5, 3) := by decide +kernel
theorem d_St_delete_28 : decode c_St_delete 28 = .ok (.iconst 0, 1) := by decide +kernel
theorem d_St_delete_29 : decode c_St_delete 29 = .ok (.ireturn, 1) := by decide +kernel
theorem d_St_delete_30 : decode c_St_delete 30 = .ok (.aload_n 0, 1) := by decide +kernel
theorem d_St_delete_31 : decode c_St_delete 31 = .ok (.getfield 14, 3) := by decide +kernel
theorem d_St_delete_34 : decode c_St_delete 34 = .ok (.iload 7, 2) := by decide +kernel
theorem d_St_delete_36 : decode c_St_delete 36 = .ok (.invokevirtual 75, 3) := by decide +kernel
theorem d_St_delete_39 : decode c_St_delete 39 = .ok (.aload_n 0, 1) := by decide +kernel
theorem d_St_delete_40 : decode c_St_delete 40 = .ok (.lload_n 1, 1) := by decide +kernel
theorem d_St_delete_41 : decode c_St_delete 41 = .ok (.lload_n 3, 1) := by decide +kernel
theorem d_St_delete_42 : decode c_St_delete 42 = .ok (.lload 5, 2) := by decide +kernel
theorem d_St_delete_44 : decode c_St_delete 44 = .ok (.iconst 0, 1) := by decide +kernel
theorem d_St_delete_45 : decode c_St_delete 45 = .ok (.invokevirtual 71, 3) := by decide +kernel
theorem d_St_delete_48 : decode c_St_delete 48 = .ok (.iconst 1, 1) := by decide +kernel
theorem d_St_delete_49 : decode c_St_delete 49 = .ok (.ireturn, 1) := by decide +kernel
theorem d_St_noteChange_0 : decode c_St_noteChange 0 = .ok (.aload_n 0, 1) := by decide +kernel
theorem d_St_noteChange_1 : decode c_St_noteChange 1 = .ok (.getfield 20, 3) := by decide +kernel
theorem d_St_noteChange_4 : decode c_St_noteChange 4 = .ok (.invokevirtual 45, 3) := by decide +kernel
theorem d_St_noteChange_7 : decode c_St_noteChange 7 = .ok (.istore 8, 2) := by decide +kernel
theorem d_St_noteChange_9 : decode c_St_noteChange 9 = .ok (.iload 8, 2) := by decide +kernel
theorem d_St_noteChange_11 : decode c_St_noteChange 11 = .ok (.sipush 512, 3) := by decide +kernel
theorem d_St_noteChange_14 : decode c_St_noteChange 14 = .ok (.if_icmp .lt 4, 3) := by decide +kernel
theorem d_St_noteChange_17 : decode c_St_noteChange 17 = .ok (.return_, 1) := by decide +kernel
theorem d_St_noteChange_18 : decode c_St_noteChange 18 = .ok (.aload_n 0, 1) := by decide +kernel
theorem d_St_noteChange_19 : decode c_St_noteChange 19 = .ok (.getfield 20, 3) := by decide +kernel
theorem d_St_noteChange_22 : decode c_St_noteChange 22 = .ok (.lload_n 1, 1) := by decide +kernel
theorem d_St_noteChange_23 : decode c_St_noteChange 23 = .ok (.lload_n 3, 1) := by decide +kernel
theorem d_St_noteChange_24 : decode c_St_noteChange 24 = .ok (.lload 5, 2) := by decide +kernel
theorem d_St_noteChange_26 : decode c_St_noteChange 26 = .ok (.invokevirtual 67, 3) := by decide +kernel
theorem d_St_noteChange_29 : decode c_St_noteChange 29 = .ok (.aload_n 0, 1) := by decide +kernel
theorem d_St_noteChange_30 : decode c_St_noteChange 30 = .ok (.getfield 23, 3) := by decide +kernel
theorem d_St_noteChange_33 : decode c_St_noteChange 33 = .ok (.iload 8, 2) := by decide +kernel
theorem d_St_noteChange_35 : decode c_St_noteChange 35 = .ok (.iload 7, 2) := by decide +kernel
theorem d_St_noteChange_37 : decode c_St_noteChange 37 = .ok (.bastore, 1) := by decide +kernel
theorem d_St_noteChange_38 : decode c_St_noteChange 38 = .ok (.aload_n 0, 1) := by decide +kernel
theorem d_St_noteChange_39 : decode c_St_noteChange 39 = .ok (.getfield 27, 3) := by decide +kernel
theorem d_St_noteChange_42 : decode c_St_noteChange 42 = .ok (.iload 8, 2) := by decide +kernel
theorem d_St_noteChange_44 : decode c_St_noteChange 44 = .ok (.aload_n 0, 1) := by decide +kernel
theorem d_St_noteChange_45 : decode c_St_noteChange 45 = .ok (.getfield 39, 3) := by decide +kernel
theorem d_St_noteChange_48 : decode c_St_noteChange 48 = .ok (.iastore, 1) := by decide +kernel
theorem d_St_noteChange_49 : decode c_St_noteChange 49 = .ok (.aload_n 0, 1) := by decide +kernel
theorem d_St_noteChange_50 : decode c_St_noteChange 50 = .ok (.getfield 31, 3) := by decide +kernel
theorem d_St_noteChange_53 : decode c_St_noteChange 53 = .ok (.ifCond .eq 16, 3) := by decide +kernel
theorem d_St_noteChange_56 : decode c_St_noteChange 56 = .ok (.aload_n 0, 1) := by decide +kernel
theorem d_St_noteChange_57 : decode c_St_noteChange 57 = .ok (.dup, 1) := by decide +kernel
theorem d_St_noteChange_58 : decode c_St_noteChange 58 = .ok (.getfield 35, 3) := by decide +kernel
theorem d_St_noteChange_61 : decode c_St_noteChange 61 = .ok (.iconst 1, 1) := by decide +kernel
theorem d_St_noteChange_62 : decode c_St_noteChange 62 = .ok (.iadd, 1) := by decide +kernel
theorem d_St_noteChange_63 : decode c_St_noteChange 63 = .ok (.putfield 35, 3) := by decide +kernel
theorem d_St_noteChange_66 : decode c_St_noteChange 66 = .ok (.goto 7, 3) := by decide +kernel
theorem d_St_noteChange_69 : decode c_St_noteChange 69 = .ok (.aload_n 0, 1) := by decide +kernel
theorem d_St_noteChange_70 : decode c_St_noteChange 70 = .ok (.invokevirtual 78, 3) := by decide +kernel
theorem d_St_noteChange_73 : decode c_St_noteChange 73 = .ok (.return_, 1) := by decide +kernel
theorem d_St_countCommitted_0 : decode c_St_countCommitted 0 = .ok (.aload_n 0, 1) := by decide +kernel
theorem d_St_countCommitted_1 : decode c_St_countCommitted 1 = .ok (.dup, 1) := by decide +kernel
theorem d_St_countCommitted_2 : decode c_St_countCommitted 2 = .ok (.getfield 39, 3) := by decide +kernel
theorem d_St_countCommitted_5 : decode c_St_countCommitted 5 = .ok (.iconst 1, 1) := by decide +kernel
theorem d_St_countCommitted_6 : decode c_St_countCommitted 6 = .ok (.iadd, 1) := by decide +kernel
theorem d_St_countCommitted_7 : decode c_St_countCommitted 7 = .ok (.putfield 39, 3) := by decide +kernel
theorem d_St_countCommitted_10 : decode c_St_countCommitted 10 = .ok (.aload_n 0, 1) := by decide +kernel
theorem d_St_countCommitted_11 : decode c_St_countCommitted 11 = .ok (.dup, 1) := by decide +kernel
theorem d_St_countCommitted_12 : decode c_St_countCommitted 12 = .ok (.getfield 42, 3) := by decide +kernel
theorem d_St_countCommitted_15 : decode c_St_countCommitted 15 = .ok (.iconst 1, 1) := by decide +kernel
theorem d_St_countCommitted_16 : decode c_St_countCommitted 16 = .ok (.iadd, 1) := by decide +kernel
theorem d_St_countCommitted_17 : decode c_St_countCommitted 17 = .ok (.putfield 42, 3) := by decide +kernel
theorem d_St_countCommitted_20 : decode c_St_countCommitted 20 = .ok (.return_, 1) := by decide +kernel
theorem d_St_openTransaction_0 : decode c_St_openTransaction 0 = .ok (.aload_n 0, 1) := by decide +kernel
theorem d_St_openTransaction_1 : decode c_St_openTransaction 1 = .ok (.iconst 1, 1) := by decide +kernel
theorem d_St_openTransaction_2 : decode c_St_openTransaction 2 = .ok (.putfield 31, 3) := by decide +kernel
theorem d_St_openTransaction_5 : decode c_St_openTransaction 5 = .ok (.aload_n 0, 1) := by decide +kernel
theorem d_St_openTransaction_6 : decode c_St_openTransaction 6 = .ok (.getfield 39, 3) := by decide +kernel
theorem d_St_openTransaction_9 : decode c_St_openTransaction 9 = .ok (.ireturn, 1) := by decide +kernel
theorem d_St_commitOpen_0 : decode c_St_commitOpen 0 = .ok (.aload_n 0, 1) := by decide +kernel
theorem d_St_commitOpen_1 : decode c_St_commitOpen 1 = .ok (.getfield 35, 3) := by decide +kernel
theorem d_St_commitOpen_4 : decode c_St_commitOpen 4 = .ok (.istore_n 1, 1) := by decide +kernel
theorem d_St_commitOpen_5 : decode c_St_commitOpen 5 = .ok (.aload_n 0, 1) := by decide +kernel
theorem d_St_commitOpen_6 : decode c_St_commitOpen 6 = .ok (.iconst 0, 1) := by decide +kernel
theorem d_St_commitOpen_7 : decode c_St_commitOpen 7 = .ok (.putfield 31, 3) := by decide +kernel
theorem d_St_commitOpen_10 : decode c_St_commitOpen 10 = .ok (.aload_n 0, 1) := by decide +kernel
theorem d_St_commitOpen_11 : decode c_St_commitOpen 11 = .ok (.iconst 0, 1) := by decide +kernel
theorem d_St_commitOpen_12 : decode c_St_commitOpen 12 = .ok (.putfield 35, 3) := by decide +kernel
theorem d_St_commitOpen_15 : decode c_St_commitOpen 15 = .ok (.aload_n 0, 1) := by decide +kernel
theorem d_St_commitOpen_16 : decode c_St_commitOpen 16 = .ok (.invokevirtual 78, 3) := by decide +kernel
theorem d_St_commitOpen_19 : decode c_St_commitOpen 19 = .ok (.iload_n 1, 1) := by decide +kernel
theorem d_St_commitOpen_20 : decode c_St_commitOpen 20 = .ok (.ireturn, 1) := by decide +kernel
theorem d_St_undoOpen_0 : decode c_St_undoOpen 0 = .ok (.aload_n 0, 1) := by decide +kernel
theorem d_St_undoOpen_1 : decode c_St_undoOpen 1 = .ok (.getfield 35, 3) := by decide +kernel
theorem d_St_undoOpen_4 : decode c_St_undoOpen 4 = .ok (.istore_n 1, 1) := by decide +kernel
theorem d_St_undoOpen_5 : decode c_St_undoOpen 5 = .ok (.aload_n 0, 1) := by decide +kernel
theorem d_St_undoOpen_6 : decode c_St_undoOpen 6 = .ok (.aload_n 0, 1) := by decide +kernel
theorem d_St_undoOpen_7 : decode c_St_undoOpen 7 = .ok (.getfield 39, 3) := by decide +kernel
theorem d_St_undoOpen_10 : decode c_St_undoOpen 10 = .ok (.invokevirtual 81, 3) := by decide +kernel
theorem d_St_undoOpen_13 : decode c_St_undoOpen 13 = .ok (.iload_n 1, 1) := by decide +kernel
theorem d_St_undoOpen_14 : decode c_St_undoOpen 14 = .ok (.ireturn, 1) := by decide +kernel
theorem d_St_syncAll_0 : decode c_St_syncAll 0 = .ok (.aload_n 0, 1) := by decide +kernel
theorem d_St_syncAll_1 : decode c_St_syncAll 1 = .ok (.getfield 42, 3) := by decide +kernel
theorem d_St_syncAll_4 : decode c_St_syncAll 4 = .ok (.istore_n 1, 1) := by decide +kernel
theorem d_St_syncAll_5 : decode c_St_syncAll 5 = .ok (.aload_n 0, 1) := by decide +kernel
theorem d_St_syncAll_6 : decode c_St_syncAll 6 = .ok (.iconst 0, 1) := by decide +kernel
theorem d_St_syncAll_7 : decode c_St_syncAll 7 = .ok (.putfield 42, 3) := by decide +kernel
theorem d_St_syncAll_10 : decode c_St_syncAll 10 = .ok (.iload_n 1, 1) := by decide +kernel
theorem d_St_syncAll_11 : decode c_St_syncAll 11 = .ok (.ireturn, 1) := by decide +kernel
theorem d_St_loseBut_0 : decode c_St_loseBut 0 = .ok (.aload_n 0, 1) := by decide +kernel
theorem d_St_loseBut_1 : decode c_St_loseBut 1 = .ok (.aload_n 0, 1) := by decide +kernel
theorem d_St_loseBut_2 : decode c_St_loseBut 2 = .ok (.getfield 39, 3) := by decide +kernel
theorem d_St_loseBut_5 : decode c_St_loseBut 5 = .ok (.aload_n 0, 1) := by decide +kernel
theorem d_St_loseBut_6 : decode c_St_loseBut 6 = .ok (.getfield 42, 3) := by decide +kernel
theorem d_St_loseBut_9 : decode c_St_loseBut 9 = .ok (.isub, 1) := by decide +kernel
theorem d_St_loseBut_10 : decode c_St_loseBut 10 = .ok (.iload_n 1, 1) := by decide +kernel
theorem d_St_loseBut_11 : decode c_St_loseBut 11 = .ok (.aload_n 0, 1) := by decide +kernel
theorem d_St_loseBut_12 : decode c_St_loseBut 12 = .ok (.getfield 42, 3) := by decide +kernel
theorem d_St_loseBut_15 : decode c_St_loseBut 15 = .ok (.invokestatic 84, 3) := by decide +kernel
theorem d_St_loseBut_18 : decode c_St_loseBut 18 = .ok (.iadd, 1) := by decide +kernel
theorem d_St_loseBut_19 : decode c_St_loseBut 19 = .ok (.invokevirtual 81, 3) := by decide +kernel
theorem d_St_loseBut_22 : decode c_St_loseBut 22 = .ok (.aload_n 0, 1) := by decide +kernel
theorem d_St_loseBut_23 : decode c_St_loseBut 23 = .ok (.iconst 0, 1) := by decide +kernel
theorem d_St_loseBut_24 : decode c_St_loseBut 24 = .ok (.putfield 42, 3) := by decide +kernel
theorem d_St_loseBut_27 : decode c_St_loseBut 27 = .ok (.return_, 1) := by decide +kernel
theorem d_St_undoFrom_0 : decode c_St_undoFrom 0 = .ok (.aload_n 0, 1) := by decide +kernel
theorem d_St_undoFrom_1 : decode c_St_undoFrom 1 = .ok (.getfield 20, 3) := by decide +kernel
theorem d_St_undoFrom_4 : decode c_St_undoFrom 4 = .ok (.invokevirtual 45, 3) := by decide +kernel
theorem d_St_undoFrom_7 : decode c_St_undoFrom 7 = .ok (.iconst 1, 1) := by decide +kernel
theorem d_St_undoFrom_8 : decode c_St_undoFrom 8 = .ok (.isub, 1) := by decide +kernel
theorem d_St_undoFrom_9 : decode c_St_undoFrom 9 = .ok (.istore_n 2, 1) := by decide +kernel
theorem d_St_undoFrom_10 : decode c_St_undoFrom 10 = .ok (.iload_n 2, 1) := by decide +kernel
theorem d_St_undoFrom_11 : decode c_St_undoFrom 11 = .ok (.ifCond .lt 24, 3) := by decide +kernel
theorem d_St_undoFrom_14 : decode c_St_undoFrom 14 = .ok (.aload_n 0, 1) := by decide +kernel
theorem d_St_undoFrom_15 : decode c_St_undoFrom 15 = .ok (.getfield 27, 3) := by decide +kernel
theorem d_St_undoFrom_18 : decode c_St_undoFrom 18 = .ok (.iload_n 2, 1) := by decide +kernel
theorem d_St_undoFrom_19 : decode c_St_undoFrom 19 = .ok (.iaload, 1) := by decide +kernel
theorem d_St_undoFrom_20 : decode c_St_undoFrom 20 = .ok (.iload_n 1, 1) := by decide +kernel
theorem d_St_undoFrom_21 : decode c_St_undoFrom 21 = .ok (.if_icmp .lt 14, 3) := by decide +kernel
theorem d_St_undoFrom_24 : decode c_St_undoFrom 24 = .ok (.aload_n 0, 1) := by decide +kernel
theorem d_St_undoFrom_25 : decode c_St_undoFrom 25 = .ok (.iload_n 2, 1) := by decide +kernel
theorem d_St_undoFrom_26 : decode c_St_undoFrom 26 = .ok (.invokevirtual 90, 3) := by decide +kernel
theorem d_St_undoFrom_29 : decode c_St_undoFrom 29 = .ok (.iinc 2 (-1), 3) := by decide +kernel
theorem d_St_undoFrom_32 : decode c_St_undoFrom 32 = .ok (.goto (-22), 3) := by decide +kernel
theorem d_St_undoFrom_35 : decode c_St_undoFrom 35 = .ok (.aload_n 0, 1) := by decide +kernel
theorem d_St_undoFrom_36 : decode c_St_undoFrom 36 = .ok (.iconst 0, 1) := by decide +kernel
theorem d_St_undoFrom_37 : decode c_St_undoFrom 37 = .ok (.putfield 31, 3) := by decide +kernel
theorem d_St_undoFrom_40 : decode c_St_undoFrom 40 = .ok (.aload_n 0, 1) := by decide +kernel
theorem d_St_undoFrom_41 : decode c_St_undoFrom 41 = .ok (.iconst 0, 1) := by decide +kernel
theorem d_St_undoFrom_42 : decode c_St_undoFrom 42 = .ok (.putfield 35, 3) := by decide +kernel
theorem d_St_undoFrom_45 : decode c_St_undoFrom 45 = .ok (.return_, 1) := by decide +kernel
theorem d_St_undoLast_0 : decode c_St_undoLast 0 = .ok (.aload_n 0, 1) := by decide +kernel
theorem d_St_undoLast_1 : decode c_St_undoLast 1 = .ok (.getfield 20, 3) := by decide +kernel
theorem d_St_undoLast_4 : decode c_St_undoLast 4 = .ok (.iload_n 1, 1) := by decide +kernel
theorem d_St_undoLast_5 : decode c_St_undoLast 5 = .ok (.invokevirtual 53, 3) := by decide +kernel
theorem d_St_undoLast_8 : decode c_St_undoLast 8 = .ok (.lstore_n 2, 1) := by decide +kernel
theorem d_St_undoLast_9 : decode c_St_undoLast 9 = .ok (.aload_n 0, 1) := by decide +kernel
theorem d_St_undoLast_10 : decode c_St_undoLast 10 = .ok (.getfield 20, 3) := by decide +kernel
theorem d_St_undoLast_13 : decode c_St_undoLast 13 = .ok (.iload_n 1, 1) := by decide +kernel
theorem d_St_undoLast_14 : decode c_St_undoLast 14 = .ok (.invokevirtual 57, 3) := by decide +kernel
theorem d_St_undoLast_17 : decode c_St_undoLast 17 = .ok (.lstore 4, 2) := by decide +kernel
theorem d_St_undoLast_19 : decode c_St_undoLast 19 = .ok (.aload_n 0, 1) := by decide +kernel
theorem d_St_undoLast_20 : decode c_St_undoLast 20 = .ok (.getfield 20, 3) := by decide +kernel
theorem d_St_undoLast_23 : decode c_St_undoLast 23 = .ok (.iload_n 1, 1) := by decide +kernel
theorem d_St_undoLast_24 : decode c_St_undoLast 24 = .ok (.invokevirtual 60, 3) := by decide +kernel
theorem d_St_undoLast_27 : decode c_St_undoLast 27 = .ok (.lstore 6, 2) := by decide +kernel
theorem d_St_undoLast_29 : decode c_St_undoLast 29 = .ok (.aload_n 0, 1) := by decide +kernel
theorem d_St_undoLast_30 : decode c_St_undoLast 30 = .ok (.getfield 23, 3) := by decide +kernel
theorem d_St_undoLast_33 : decode c_St_undoLast 33 = .ok (.iload_n 1, 1) := by decide +kernel
theorem d_St_undoLast_34 : decode c_St_undoLast 34 = .ok (.baload, 1) := by decide +kernel
theorem d_St_undoLast_35 : decode c_St_undoLast 35 = .ok (.ifCond .eq 25, 3) := by decide +kernel
theorem d_St_undoLast_38 : decode c_St_undoLast 38 = .ok (.aload_n 0, 1) := by decide +kernel
theorem d_St_undoLast_39 : decode c_St_undoLast 39 = .ok (.getfield 14, 3) := by decide +kernel
theorem d_St_undoLast_42 : decode c_St_undoLast 42 = .ok (.aload_n 0, 1) := by decide +kernel
theorem d_St_undoLast_43 : decode c_St_undoLast 43 = .ok (.getfield 14, 3) := by decide +kernel
theorem d_St_undoLast_46 : decode c_St_undoLast 46 = .ok (.lload_n 2, 1) := by decide +kernel
theorem d_St_undoLast_47 : decode c_St_undoLast 47 = .ok (.lload 4, 2) := by decide +kernel
theorem d_St_undoLast_49 : decode c_St_undoLast 49 = .ok (.lload 6, 2) := by decide +kernel
theorem d_St_undoLast_51 : decode c_St_undoLast 51 = .ok (.invokevirtual 49, 3) := by decide +kernel
theorem d_St_undoLast_54 : decode c_St_undoLast 54 = .ok (.invokevirtual 75, 3) := by decide +kernel
theorem d_St_undoLast_57 : decode c_St_undoLast 57 = .ok (.goto 15, 3) := by decide +kernel
theorem d_St_undoLast_60 : decode c_St_undoLast 60 = .ok (.aload_n 0, 1) := by decide +kernel
theorem d_St_undoLast_61 : decode c_St_undoLast 61 = .ok (.getfield 14, 3) := by decide +kernel
theorem d_St_undoLast_64 : decode c_St_undoLast 64 = .ok (.lload_n 2, 1) := by decide +kernel
theorem d_St_undoLast_65 : decode c_St_undoLast 65 = .ok (.lload 4, 2) := by decide +kernel
theorem d_St_undoLast_67 : decode c_St_undoLast 67 = .ok (.lload 6, 2) := by decide +kernel
theorem d_St_undoLast_69 : decode c_St_undoLast 69 = .ok (.invokevirtual 67, 3) := by decide +kernel
theorem d_St_undoLast_72 : decode c_St_undoLast 72 = .ok (.aload_n 0, 1) := by decide +kernel
theorem d_St_undoLast_73 : decode c_St_undoLast 73 = .ok (.getfield 20, 3) := by decide +kernel
theorem d_St_undoLast_76 : decode c_St_undoLast 76 = .ok (.iload_n 1, 1) := by decide +kernel
theorem d_St_undoLast_77 : decode c_St_undoLast 77 = .ok (.invokevirtual 75, 3) := by decide +kernel
theorem d_St_undoLast_80 : decode c_St_undoLast 80 = .ok (.return_, 1) := by decide +kernel
theorem d_Te_isTriple_0 : decode c_Te_isTriple 0 = .ok (.lload_n 0, 1) := by decide +kernel
theorem d_Te_isTriple_1 : decode c_Te_isTriple 1 = .ok (.invokestatic 9, 3) := by decide +kernel
theorem d_Te_isTriple_4 : decode c_Te_isTriple 4 = .ok (.ifCond .eq 30, 3) := by decide +kernel
theorem d_Te_isTriple_7 : decode c_Te_isTriple 7 = .ok (.lload_n 2, 1) := by decide +kernel
theorem d_Te_isTriple_8 : decode c_Te_isTriple 8 = .ok (.invokestatic 9, 3) := by decide +kernel
theorem d_Te_isTriple_11 : decode c_Te_isTriple 11 = .ok (.ifCond .eq 23, 3) := by decide +kernel
theorem d_Te_isTriple_14 : decode c_Te_isTriple 14 = .ok (.lload 4, 2) := by decide +kernel
theorem d_Te_isTriple_16 : decode c_Te_isTriple 16 = .ok (.invokestatic 9, 3) := by decide +kernel
theorem d_Te_isTriple_19 : decode c_Te_isTriple 19 = .ok (.ifCond .ne 11, 3) := by decide +kernel
theorem d_Te_isTriple_22 : decode c_Te_isTriple 22 = .ok (.lload 4, 2) := by decide +kernel
theorem d_Te_isTriple_24 : decode c_Te_isTriple 24 = .ok (.invokestatic 15, 3) := by decide +kernel
theorem d_Te_isTriple_27 : decode c_Te_isTriple 27 = .ok (.ifCond .eq 7, 3) := by decide +kernel
theorem d_Te_isTriple_30 : decode c_Te_isTriple 30 = .ok (.iconst 1, 1) := by decide +kernel
theorem d_Te_isTriple_31 : decode c_Te_isTriple 31 = .ok (.goto 4, 3) := by decide +kernel
theorem d_Te_isTriple_34 : decode c_Te_isTriple 34 = .ok (.iconst 0, 1) := by decide +kernel
theorem d_Te_isTriple_35 : decode c_Te_isTriple 35 = .ok (.ireturn, 1) := by decide +kernel
theorem d_Te_isWord_0 : decode c_Te_isWord 0 = .ok (.lload_n 0, 1) := by decide +kernel
theorem d_Te_isWord_1 : decode c_Te_isWord 1 = .ok (.lstore_n 2, 1) := by decide +kernel
theorem d_Te_isWord_2 : decode c_Te_isWord 2 = .ok (.iconst 0, 1) := by decide +kernel
theorem d_Te_isWord_3 : decode c_Te_isWord 3 = .ok (.istore 4, 2) := by decide +kernel
theorem d_Te_isWord_5 : decode c_Te_isWord 5 = .ok (.iload 4, 2) := by decide +kernel
theorem d_Te_isWord_7 : decode c_Te_isWord 7 = .ok (.bipush 8, 2) := by decide +kernel
theorem d_Te_isWord_9 : decode c_Te_isWord 9 = .ok (.if_icmp .ge 26, 3) := by decide +kernel
theorem d_Te_isWord_12 : decode c_Te_isWord 12 = .ok (.lload_n 2, 1) := by decide +kernel
theorem d_Te_isWord_13 : decode c_Te_isWord 13 = .ok (.ldc2_w 18, 3) := by decide +kernel
theorem d_Te_isWord_16 : decode c_Te_isWord 16 = .ok (.land, 1) := by decide +kernel
theorem d_Te_isWord_17 : decode c_Te_isWord 17 = .ok (.l2i, 1) := by decide +kernel
theorem d_Te_isWord_18 : decode c_Te_isWord 18 = .ok (.invokestatic 20, 3) := by decide +kernel
theorem d_Te_isWord_21 : decode c_Te_isWord 21 = .ok (.ifCond .eq 14, 3) := by decide +kernel
theorem d_Te_isWord_24 : decode c_Te_isWord 24 = .ok (.lload_n 2, 1) := by decide +kernel
theorem d_Te_isWord_25 : decode c_Te_isWord 25 = .ok (.bipush 8, 2) := by decide +kernel
theorem d_Te_isWord_27 : decode c_Te_isWord 27 = .ok (.lushr, 1) := by decide +kernel
theorem d_Te_isWord_28 : decode c_Te_isWord 28 = .ok (.lstore_n 2, 1) := by decide +kernel
theorem d_Te_isWord_29 : decode c_Te_isWord 29 = .ok (.iinc 4 1, 3) := by decide +kernel
theorem d_Te_isWord_32 : decode c_Te_isWord 32 = .ok (.goto (-27), 3) := by decide +kernel
theorem d_Te_isWord_35 : decode c_Te_isWord 35 = .ok (.iload 4, 2) := by decide +kernel
theorem d_Te_isWord_37 : decode c_Te_isWord 37 = .ok (.ifCond .le 13, 3) := by decide +kernel
theorem d_Te_isWord_40 : decode c_Te_isWord 40 = .ok (.lload_n 2, 1) := by decide +kernel
theorem d_Te_isWord_41 : decode c_Te_isWord 41 = .ok (.lconst 0, 1) := by decide +kernel
theorem d_Te_isWord_42 : decode c_Te_isWord 42 = .ok (.lcmp, 1) := by decide +kernel
theorem d_Te_isWord_43 : decode c_Te_isWord 43 = .ok (.ifCond .ne 7, 3) := by decide +kernel
theorem d_Te_isWord_46 : decode c_Te_isWord 46 = .ok (.iconst 1, 1) := by decide +kernel
theorem d_Te_isWord_47 : decode c_Te_isWord 47 = .ok (.goto 4, 3) := by decide +kernel
theorem d_Te_isWord_50 : decode c_Te_isWord 50 = .ok (.iconst 0, 1) := by decide +kernel
theorem d_Te_isWord_51 : decode c_Te_isWord 51 = .ok (.ireturn, 1) := by decide +kernel
theorem d_Te_isNumber_0 : decode c_Te_isNumber 0 = .ok (.lload_n 0, 1) := by decide +kernel
theorem d_Te_isNumber_1 : decode c_Te_isNumber 1 = .ok (.lconst 0, 1) := by decide +kernel
theorem d_Te_isNumber_2 : decode c_Te_isNumber 2 = .ok (.lcmp, 1) := by decide +kernel
theorem d_Te_isNumber_3 : decode c_Te_isNumber 3 = .ok (.ifCond .ge 15, 3) := by decide +kernel
theorem d_Te_isNumber_6 : decode c_Te_isNumber 6 = .ok (.lload_n 0, 1) := by decide +kernel
theorem d_Te_isNumber_7 : decode c_Te_isNumber 7 = .ok (.ldc2_w 24, 3) := by decide +kernel
theorem d_Te_isNumber_10 : decode c_Te_isNumber 10 = .ok (.lcmp, 1) := by decide +kernel
theorem d_Te_isNumber_11 : decode c_Te_isNumber 11 = .ok (.ifCond .lt 7, 3) := by decide +kernel
theorem d_Te_isNumber_14 : decode c_Te_isNumber 14 = .ok (.iconst 1, 1) := by decide +kernel
theorem d_Te_isNumber_15 : decode c_Te_isNumber 15 = .ok (.goto 4, 3) := by decide +kernel
theorem d_Te_isNumber_18 : decode c_Te_isNumber 18 = .ok (.iconst 0, 1) := by decide +kernel
theorem d_Te_isNumber_19 : decode c_Te_isNumber 19 = .ok (.ireturn, 1) := by decide +kernel
theorem d_Te_isHeldNumber_0 : decode c_Te_isHeldNumber 0 = .ok (.lload_n 0, 1) := by decide +kernel
theorem d_Te_isHeldNumber_1 : decode c_Te_isHeldNumber 1 = .ok (.lconst 0, 1) := by decide +kernel
theorem d_Te_isHeldNumber_2 : decode c_Te_isHeldNumber 2 = .ok (.lcmp, 1) := by decide +kernel
theorem d_Te_isHeldNumber_3 : decode c_Te_isHeldNumber 3 = .ok (.ifCond .le 15, 3) := by decide +kernel
theorem d_Te_isHeldNumber_6 : decode c_Te_isHeldNumber 6 = .ok (.lload_n 0, 1) := by decide +kernel
theorem d_Te_isHeldNumber_7 : decode c_Te_isHeldNumber 7 = .ok (.ldc2_w 26, 3) := by decide +kernel
theorem d_Te_isHeldNumber_10 : decode c_Te_isHeldNumber 10 = .ok (.lcmp, 1) := by decide +kernel
theorem d_Te_isHeldNumber_11 : decode c_Te_isHeldNumber 11 = .ok (.ifCond .gt 7, 3) := by decide +kernel
theorem d_Te_isHeldNumber_14 : decode c_Te_isHeldNumber 14 = .ok (.iconst 1, 1) := by decide +kernel
theorem d_Te_isHeldNumber_15 : decode c_Te_isHeldNumber 15 = .ok (.goto 4, 3) := by decide +kernel
theorem d_Te_isHeldNumber_18 : decode c_Te_isHeldNumber 18 = .ok (.iconst 0, 1) := by decide +kernel
theorem d_Te_isHeldNumber_19 : decode c_Te_isHeldNumber 19 = .ok (.ireturn, 1) := by decide +kernel
theorem d_Te_isLetter_0 : decode c_Te_isLetter 0 = .ok (.iload_n 0, 1) := by decide +kernel
theorem d_Te_isLetter_1 : decode c_Te_isLetter 1 = .ok (.bipush 97, 2) := by decide +kernel
theorem d_Te_isLetter_3 : decode c_Te_isLetter 3 = .ok (.if_icmp .lt 13, 3) := by decide +kernel
theorem d_Te_isLetter_6 : decode c_Te_isLetter 6 = .ok (.iload_n 0, 1) := by decide +kernel
theorem d_Te_isLetter_7 : decode c_Te_isLetter 7 = .ok (.bipush 122, 2) := by decide +kernel
theorem d_Te_isLetter_9 : decode c_Te_isLetter 9 = .ok (.if_icmp .gt 7, 3) := by decide +kernel
theorem d_Te_isLetter_12 : decode c_Te_isLetter 12 = .ok (.iconst 1, 1) := by decide +kernel
theorem d_Te_isLetter_13 : decode c_Te_isLetter 13 = .ok (.goto 4, 3) := by decide +kernel
theorem d_Te_isLetter_16 : decode c_Te_isLetter 16 = .ok (.iconst 0, 1) := by decide +kernel
theorem d_Te_isLetter_17 : decode c_Te_isLetter 17 = .ok (.ireturn, 1) := by decide +kernel
theorem d_Te_isDigit_0 : decode c_Te_isDigit 0 = .ok (.iload_n 0, 1) := by decide +kernel
theorem d_Te_isDigit_1 : decode c_Te_isDigit 1 = .ok (.bipush 48, 2) := by decide +kernel
theorem d_Te_isDigit_3 : decode c_Te_isDigit 3 = .ok (.if_icmp .lt 13, 3) := by decide +kernel
theorem d_Te_isDigit_6 : decode c_Te_isDigit 6 = .ok (.iload_n 0, 1) := by decide +kernel
theorem d_Te_isDigit_7 : decode c_Te_isDigit 7 = .ok (.bipush 57, 2) := by decide +kernel
theorem d_Te_isDigit_9 : decode c_Te_isDigit 9 = .ok (.if_icmp .gt 7, 3) := by decide +kernel
theorem d_Te_isDigit_12 : decode c_Te_isDigit 12 = .ok (.iconst 1, 1) := by decide +kernel
theorem d_Te_isDigit_13 : decode c_Te_isDigit 13 = .ok (.goto 4, 3) := by decide +kernel
theorem d_Te_isDigit_16 : decode c_Te_isDigit 16 = .ok (.iconst 0, 1) := by decide +kernel
theorem d_Te_isDigit_17 : decode c_Te_isDigit 17 = .ok (.ireturn, 1) := by decide +kernel
theorem d_Te_held_0 : decode c_Te_held 0 = .ok (.lload_n 0, 1) := by decide +kernel
theorem d_Te_held_1 : decode c_Te_held 1 = .ok (.lconst 0, 1) := by decide +kernel
theorem d_Te_held_2 : decode c_Te_held 2 = .ok (.lcmp, 1) := by decide +kernel
theorem d_Te_held_3 : decode c_Te_held 3 = .ok (.ifCond .ge 6, 3) := by decide +kernel
theorem d_Te_held_6 : decode c_Te_held 6 = .ok (.lload_n 0, 1) := by decide +kernel
theorem d_Te_held_7 : decode c_Te_held 7 = .ok (.lneg, 1) := by decide +kernel
theorem d_Te_held_8 : decode c_Te_held 8 = .ok (.lreturn, 1) := by decide +kernel
theorem d_Te_held_9 : decode c_Te_held 9 = .ok (.lload_n 0, 1) := by decide +kernel
theorem d_Te_held_10 : decode c_Te_held 10 = .ok (.lstore_n 2, 1) := by decide +kernel
theorem d_Te_held_11 : decode c_Te_held 11 = .ok (.iconst 1, 1) := by decide +kernel
theorem d_Te_held_12 : decode c_Te_held 12 = .ok (.istore 4, 2) := by decide +kernel
theorem d_Te_held_14 : decode c_Te_held 14 = .ok (.iload 4, 2) := by decide +kernel
theorem d_Te_held_16 : decode c_Te_held 16 = .ok (.bipush 8, 2) := by decide +kernel
theorem d_Te_held_18 : decode c_Te_held 18 = .ok (.if_icmp .ge 23, 3) := by decide +kernel
theorem d_Te_held_21 : decode c_Te_held 21 = .ok (.lload_n 2, 1) := by decide +kernel
theorem d_Te_held_22 : decode c_Te_held 22 = .ok (.bipush 56, 2) := by decide +kernel
theorem d_Te_held_24 : decode c_Te_held 24 = .ok (.lushr, 1) := by decide +kernel
theorem d_Te_held_25 : decode c_Te_held 25 = .ok (.lconst 0, 1) := by decide +kernel
theorem d_Te_held_26 : decode c_Te_held 26 = .ok (.lcmp, 1) := by decide +kernel
theorem d_Te_held_27 : decode c_Te_held 27 = .ok (.ifCond .ne 14, 3) := by decide +kernel
theorem d_Te_held_30 : decode c_Te_held 30 = .ok (.lload_n 2, 1) := by decide +kernel
theorem d_Te_held_31 : decode c_Te_held 31 = .ok (.bipush 8, 2) := by decide +kernel
theorem d_Te_held_33 : decode c_Te_held 33 = .ok (.lshl, 1) := by decide +kernel
theorem d_Te_held_34 : decode c_Te_held 34 = .ok (.lstore_n 2, 1) := by decide +kernel
theorem d_Te_held_35 : decode c_Te_held 35 = .ok (.iinc 4 1, 3) := by decide +kernel
theorem d_Te_held_38 : decode c_Te_held 38 = .ok (.goto (-24), 3) := by decide +kernel
theorem d_Te_held_41 : decode c_Te_held 41 = .ok (.lload_n 2, 1) := by decide +kernel
theorem d_Te_held_42 : decode c_Te_held 42 = .ok (.lreturn, 1) := by decide +kernel
theorem d_Te_shown_0 : decode c_Te_shown 0 = .ok (.lload_n 0, 1) := by decide +kernel
theorem d_Te_shown_1 : decode c_Te_shown 1 = .ok (.invokestatic 28, 3) := by decide +kernel
theorem d_Te_shown_4 : decode c_Te_shown 4 = .ok (.ifCond .eq 6, 3) := by decide +kernel
theorem d_Te_shown_7 : decode c_Te_shown 7 = .ok (.lload_n 0, 1) := by decide +kernel
theorem d_Te_shown_8 : decode c_Te_shown 8 = .ok (.lneg, 1) := by decide +kernel
theorem d_Te_shown_9 : decode c_Te_shown 9 = .ok (.lreturn, 1) := by decide +kernel
theorem d_Te_shown_10 : decode c_Te_shown 10 = .ok (.lload_n 0, 1) := by decide +kernel
theorem d_Te_shown_11 : decode c_Te_shown 11 = .ok (.lstore_n 2, 1) := by decide +kernel
theorem d_Te_shown_12 : decode c_Te_shown 12 = .ok (.iconst 1, 1) := by decide +kernel
theorem d_Te_shown_13 : decode c_Te_shown 13 = .ok (.istore 4, 2) := by decide +kernel
theorem d_Te_shown_15 : decode c_Te_shown 15 = .ok (.iload 4, 2) := by decide +kernel
theorem d_Te_shown_17 : decode c_Te_shown 17 = .ok (.bipush 8, 2) := by decide +kernel
theorem d_Te_shown_19 : decode c_Te_shown 19 = .ok (.if_icmp .ge 24, 3) := by decide +kernel
theorem d_Te_shown_22 : decode c_Te_shown 22 = .ok (.lload_n 2, 1) := by decide +kernel
theorem d_Te_shown_23 : decode c_Te_shown 23 = .ok (.ldc2_w 18, 3) := by decide +kernel
theorem d_Te_shown_26 : decode c_Te_shown 26 = .ok (.land, 1) := by decide +kernel
theorem d_Te_shown_27 : decode c_Te_shown 27 = .ok (.lconst 0, 1) := by decide +kernel
theorem d_Te_shown_28 : decode c_Te_shown 28 = .ok (.lcmp, 1) := by decide +kernel
theorem d_Te_shown_29 : decode c_Te_shown 29 = .ok (.ifCond .ne 14, 3) := by decide +kernel
theorem d_Te_shown_32 : decode c_Te_shown 32 = .ok (.lload_n 2, 1) := by decide +kernel
theorem d_Te_shown_33 : decode c_Te_shown 33 = .ok (.bipush 8, 2) := by decide +kernel
theorem d_Te_shown_35 : decode c_Te_shown 35 = .ok (.lushr, 1) := by decide +kernel
theorem d_Te_shown_36 : decode c_Te_shown 36 = .ok (.lstore_n 2, 1) := by decide +kernel
theorem d_Te_shown_37 : decode c_Te_shown 37 = .ok (.iinc 4 1, 3) := by decide +kernel
theorem d_Te_shown_40 : decode c_Te_shown 40 = .ok (.goto (-25), 3) := by decide +kernel
theorem d_Te_shown_43 : decode c_Te_shown 43 = .ok (.lload_n 2, 1) := by decide +kernel
theorem d_Te_shown_44 : decode c_Te_shown 44 = .ok (.lreturn, 1) := by decide +kernel
theorem d_Tr_init_0 : decode c_Tr_init 0 = .ok (.aload_n 0, 1) := by decide +kernel
theorem d_Tr_init_1 : decode c_Tr_init 1 = .ok (.invokespecial 1, 3) := by decide +kernel
theorem d_Tr_init_4 : decode c_Tr_init 4 = .ok (.aload_n 0, 1) := by decide +kernel
theorem d_Tr_init_5 : decode c_Tr_init 5 = .ok (.iconst 0, 1) := by decide +kernel
theorem d_Tr_init_6 : decode c_Tr_init 6 = .ok (.putfield 7, 3) := by decide +kernel
theorem d_Tr_init_9 : decode c_Tr_init 9 = .ok (.aload_n 0, 1) := by decide +kernel
theorem d_Tr_init_10 : decode c_Tr_init 10 = .ok (.iload_n 1, 1) := by decide +kernel
theorem d_Tr_init_11 : decode c_Tr_init 11 = .ok (.newarray .long, 2) := by decide +kernel
theorem d_Tr_init_13 : decode c_Tr_init 13 = .ok (.putfield 13, 3) := by decide +kernel
theorem d_Tr_init_16 : decode c_Tr_init 16 = .ok (.aload_n 0, 1) := by decide +kernel
theorem d_Tr_init_17 : decode c_Tr_init 17 = .ok (.iload_n 1, 1) := by decide +kernel
theorem d_Tr_init_18 : decode c_Tr_init 18 = .ok (.newarray .long, 2) := by decide +kernel
theorem d_Tr_init_20 : decode c_Tr_init 20 = .ok (.putfield 17, 3) := by decide +kernel
theorem d_Tr_init_23 : decode c_Tr_init 23 = .ok (.aload_n 0, 1) := by decide +kernel
theorem d_Tr_init_24 : decode c_Tr_init 24 = .ok (.iload_n 1, 1) := by decide +kernel
theorem d_Tr_init_25 : decode c_Tr_init 25 = .ok (.newarray .long, 2) := by decide +kernel
theorem d_Tr_init_27 : decode c_Tr_init 27 = .ok (.putfield 20, 3) := by decide +kernel
theorem d_Tr_init_30 : decode c_Tr_init 30 = .ok (.return_, 1) := by decide +kernel
theorem d_Tr_size_0 : decode c_Tr_size 0 = .ok (.aload_n 0, 1) := by decide +kernel
theorem d_Tr_size_1 : decode c_Tr_size 1 = .ok (.getfield 7, 3) := by decide +kernel
theorem d_Tr_size_4 : decode c_Tr_size 4 = .ok (.ireturn, 1) := by decide +kernel
theorem d_Tr_isFull_0 : decode c_Tr_isFull 0 = .ok (.aload_n 0, 1) := by decide +kernel
theorem d_Tr_isFull_1 : decode c_Tr_isFull 1 = .ok (.getfield 7, 3) := by decide +kernel
theorem d_Tr_isFull_4 : decode c_Tr_isFull 4 = .ok (.aload_n 0, 1) := by decide +kernel
theorem d_Tr_isFull_5 : decode c_Tr_isFull 5 = .ok (.getfield 13, 3) := by decide +kernel
theorem d_Tr_isFull_8 : decode c_Tr_isFull 8 = .ok (.arraylength, 1) := by decide +kernel
theorem d_Tr_isFull_9 : decode c_Tr_isFull 9 = .ok (.if_icmp .lt 7, 3) := by decide +kernel
theorem d_Tr_isFull_12 : decode c_Tr_isFull 12 = .ok (.iconst 1, 1) := by decide +kernel
theorem d_Tr_isFull_13 : decode c_Tr_isFull 13 = .ok (.goto 4, 3) := by decide +kernel
theorem d_Tr_isFull_16 : decode c_Tr_isFull 16 = .ok (.iconst 0, 1) := by decide +kernel
theorem d_Tr_isFull_17 : decode c_Tr_isFull 17 = .ok (.ireturn, 1) := by decide +kernel
theorem d_Tr_subject_0 : decode c_Tr_subject 0 = .ok (.iload_n 1, 1) := by decide +kernel
theorem d_Tr_subject_1 : decode c_Tr_subject 1 = .ok (.ifCond .lt 20, 3) := by decide +kernel
theorem d_Tr_subject_4 : decode c_Tr_subject 4 = .ok (.iload_n 1, 1) := by decide +kernel
theorem d_Tr_subject_5 : decode c_Tr_subject 5 = .ok (.aload_n 0, 1) := by decide +kernel
theorem d_Tr_subject_6 : decode c_Tr_subject 6 = .ok (.getfield 7, 3) := by decide +kernel
theorem d_Tr_subject_9 : decode c_Tr_subject 9 = .ok (.if_icmp .ge 12, 3) := by decide +kernel
theorem d_Tr_subject_12 : decode c_Tr_subject 12 = .ok (.aload_n 0, 1) := by decide +kernel
theorem d_Tr_subject_13 : decode c_Tr_subject 13 = .ok (.getfield 13, 3) := by decide +kernel
theorem d_Tr_subject_16 : decode c_Tr_subject 16 = .ok (.iload_n 1, 1) := by decide +kernel
theorem d_Tr_subject_17 : decode c_Tr_subject 17 = .ok (.laload, 1) := by decide +kernel
theorem d_Tr_subject_18 : decode c_Tr_subject 18 = .ok (.goto 4, 3) := by decide +kernel
theorem d_Tr_subject_21 : decode c_Tr_subject 21 = .ok (.lconst 0, 1) := by decide +kernel
theorem d_Tr_subject_22 : decode c_Tr_subject 22 = .ok (.lreturn, 1) := by decide +kernel
theorem d_Tr_predicate_0 : decode c_Tr_predicate 0 = .ok (.iload_n 1, 1) := by decide +kernel
theorem d_Tr_predicate_1 : decode c_Tr_predicate 1 = .ok (.ifCond .lt 20, 3) := by decide +kernel
theorem d_Tr_predicate_4 : decode c_Tr_predicate 4 = .ok (.iload_n 1, 1) := by decide +kernel
theorem d_Tr_predicate_5 : decode c_Tr_predicate 5 = .ok (.aload_n 0, 1) := by decide +kernel
theorem d_Tr_predicate_6 : decode c_Tr_predicate 6 = .ok (.getfield 7, 3) := by decide +kernel
theorem d_Tr_predicate_9 : decode c_Tr_predicate 9 = .ok (.if_icmp .ge 12, 3) := by decide +kernel
theorem d_Tr_predicate_12 : decode c_Tr_predicate 12 = .ok (.aload_n 0, 1) := by decide +kernel
theorem d_Tr_predicate_13 : decode c_Tr_predicate 13 = .ok (.getfield 17, 3) := by decide +kernel
theorem d_Tr_predicate_16 : decode c_Tr_predicate 16 = .ok (.iload_n 1, 1) := by decide +kernel
theorem d_Tr_predicate_17 : decode c_Tr_predicate 17 = .ok (.laload, 1) := by decide +kernel
theorem d_Tr_predicate_18 : decode c_Tr_predicate 18 = .ok (.goto 4, 3) := by decide +kernel
theorem d_Tr_predicate_21 : decode c_Tr_predicate 21 = .ok (.lconst 0, 1) := by decide +kernel
theorem d_Tr_predicate_22 : decode c_Tr_predicate 22 = .ok (.lreturn, 1) := by decide +kernel
theorem d_Tr_object_0 : decode c_Tr_object 0 = .ok (.iload_n 1, 1) := by decide +kernel
theorem d_Tr_object_1 : decode c_Tr_object 1 = .ok (.ifCond .lt 20, 3) := by decide +kernel
theorem d_Tr_object_4 : decode c_Tr_object 4 = .ok (.iload_n 1, 1) := by decide +kernel
theorem d_Tr_object_5 : decode c_Tr_object 5 = .ok (.aload_n 0, 1) := by decide +kernel
theorem d_Tr_object_6 : decode c_Tr_object 6 = .ok (.getfield 7, 3) := by decide +kernel
theorem d_Tr_object_9 : decode c_Tr_object 9 = .ok (.if_icmp .ge 12, 3) := by decide +kernel
theorem d_Tr_object_12 : decode c_Tr_object 12 = .ok (.aload_n 0, 1) := by decide +kernel
theorem d_Tr_object_13 : decode c_Tr_object 13 = .ok (.getfield 20, 3) := by decide +kernel
theorem d_Tr_object_16 : decode c_Tr_object 16 = .ok (.iload_n 1, 1) := by decide +kernel
theorem d_Tr_object_17 : decode c_Tr_object 17 = .ok (.laload, 1) := by decide +kernel
theorem d_Tr_object_18 : decode c_Tr_object 18 = .ok (.goto 4, 3) := by decide +kernel
theorem d_Tr_object_21 : decode c_Tr_object 21 = .ok (.lconst 0, 1) := by decide +kernel
theorem d_Tr_object_22 : decode c_Tr_object 22 = .ok (.lreturn, 1) := by decide +kernel
theorem d_Tr_find_0 : decode c_Tr_find 0 = .ok (.iconst 0, 1) := by decide +kernel
theorem d_Tr_find_1 : decode c_Tr_find 1 = .ok (.istore 7, 2) := by decide +kernel
theorem d_Tr_find_3 : decode c_Tr_find 3 = .ok (.iload 7, 2) := by decide +kernel
theorem d_Tr_find_5 : decode c_Tr_find 5 = .ok (.aload_n 0, 1) := by decide +kernel
theorem d_Tr_find_6 : decode c_Tr_find 6 = .ok (.getfield 7, 3) := by decide +kernel
theorem d_Tr_find_9 : decode c_Tr_find 9 = .ok (.if_icmp .ge 49, 3) := by decide +kernel
theorem d_Tr_find_12 : decode c_Tr_find 12 = .ok (.aload_n 0, 1) := by decide +kernel
theorem d_Tr_find_13 : decode c_Tr_find 13 = .ok (.getfield 13, 3) := by decide +kernel
theorem d_Tr_find_16 : decode c_Tr_find 16 = .ok (.iload 7, 2) := by decide +kernel
theorem d_Tr_find_18 : decode c_Tr_find 18 = .ok (.laload, 1) := by decide +kernel
theorem d_Tr_find_19 : decode c_Tr_find 19 = .ok (.lload_n 1, 1) := by decide +kernel
theorem d_Tr_find_20 : decode c_Tr_find 20 = .ok (.lcmp, 1) := by decide +kernel
theorem d_Tr_find_21 : decode c_Tr_find 21 = .ok (.ifCond .ne 31, 3) := by decide +kernel
theorem d_Tr_find_24 : decode c_Tr_find 24 = .ok (.aload_n 0, 1) := by decide +kernel
theorem d_Tr_find_25 : decode c_Tr_find 25 = .ok (.getfield 17, 3) := by decide +kernel
theorem d_Tr_find_28 : decode c_Tr_find 28 = .ok (.iload 7, 2) := by decide +kernel
theorem d_Tr_find_30 : decode c_Tr_find 30 = .ok (.laload, 1) := by decide +kernel
theorem d_Tr_find_31 : decode c_Tr_find 31 = .ok (.lload_n 3, 1) := by decide +kernel
theorem d_Tr_find_32 : decode c_Tr_find 32 = .ok (.lcmp, 1) := by decide +kernel
theorem d_Tr_find_33 : decode c_Tr_find 33 = .ok (.ifCond .ne 19, 3) := by decide +kernel
theorem d_Tr_find_36 : decode c_Tr_find 36 = .ok (.aload_n 0, 1) := by decide +kernel
theorem d_Tr_find_37 : decode c_Tr_find 37 = .ok (.getfield 20, 3) := by decide +kernel
theorem d_Tr_find_40 : decode c_Tr_find 40 = .ok (.iload 7, 2) := by decide +kernel
theorem d_Tr_find_42 : decode c_Tr_find 42 = .ok (.laload, 1) := by decide +kernel
theorem d_Tr_find_43 : decode c_Tr_find 43 = .ok (.lload 5, 2) := by decide +kernel
theorem d_Tr_find_45 : decode c_Tr_find 45 = .ok (.lcmp, 1) := by decide +kernel
theorem d_Tr_find_46 : decode c_Tr_find 46 = .ok (.ifCond .ne 6, 3) := by decide +kernel
theorem d_Tr_find_49 : decode c_Tr_find 49 = .ok (.iload 7, 2) := by decide +kernel
theorem d_Tr_find_51 : decode c_Tr_find 51 = .ok (.ireturn, 1) := by decide +kernel
theorem d_Tr_find_52 : decode c_Tr_find 52 = .ok (.iinc 7 1, 3) := by decide +kernel
theorem d_Tr_find_55 : decode c_Tr_find 55 = .ok (.goto (-52), 3) := by decide +kernel
theorem d_Tr_find_58 : decode c_Tr_find 58 = .ok (.iconst (-1), 1) := by decide +kernel
theorem d_Tr_find_59 : decode c_Tr_find 59 = .ok (.ireturn, 1) := by decide +kernel
theorem d_Tr_put_0 : decode c_Tr_put 0 = .ok (.aload_n 0, 1) := by decide +kernel
theorem d_Tr_put_1 : decode c_Tr_put 1 = .ok (.invokevirtual 25, 3) := by decide +kernel
theorem d_Tr_put_4 : decode c_Tr_put 4 = .ok (.ifCond .eq 4, 3) := by decide +kernel
theorem d_Tr_put_7 : decode c_Tr_put 7 = .ok (.return_, 1) := by decide +kernel
theorem d_Tr_put_8 : decode c_Tr_put 8 = .ok (.aload_n 0, 1) := by decide +kernel
theorem d_Tr_put_9 : decode c_Tr_put 9 = .ok (.getfield 13, 3) := by decide +kernel
theorem d_Tr_put_12 : decode c_Tr_put 12 = .ok (.aload_n 0, 1) := by decide +kernel
theorem d_Tr_put_13 : decode c_Tr_put 13 = .ok (.getfield 7, 3) := by decide +kernel
theorem d_Tr_put_16 : decode c_Tr_put 16 = .ok (.lload_n 1, 1) := by decide +kernel
theorem d_Tr_put_17 : decode c_Tr_put 17 = .ok (.lastore, 1) := by decide +kernel
theorem d_Tr_put_18 : decode c_Tr_put 18 = .ok (.aload_n 0, 1) := by decide +kernel
theorem d_Tr_put_19 : decode c_Tr_put 19 = .ok (.getfield 17, 3) := by decide +kernel
theorem d_Tr_put_22 : decode c_Tr_put 22 = .ok (.aload_n 0, 1) := by decide +kernel
theorem d_Tr_put_23 : decode c_Tr_put 23 = .ok (.getfield 7, 3) := by decide +kernel
theorem d_Tr_put_26 : decode c_Tr_put 26 = .ok (.lload_n 3, 1) := by decide +kernel
theorem d_Tr_put_27 : decode c_Tr_put 27 = .ok (.lastore, 1) := by decide +kernel
theorem d_Tr_put_28 : decode c_Tr_put 28 = .ok (.aload_n 0, 1) := by decide +kernel
theorem d_Tr_put_29 : decode c_Tr_put 29 = .ok (.getfield 20, 3) := by decide +kernel
theorem d_Tr_put_32 : decode c_Tr_put 32 = .ok (.aload_n 0, 1) := by decide +kernel
theorem d_Tr_put_33 : decode c_Tr_put 33 = .ok (.getfield 7, 3) := by decide +kernel
theorem d_Tr_put_36 : decode c_Tr_put 36 = .ok (.lload 5, 2) := by decide +kernel
theorem d_Tr_put_38 : decode c_Tr_put 38 = .ok (.lastore, 1) := by decide +kernel
theorem d_Tr_put_39 : decode c_Tr_put 39 = .ok (.aload_n 0, 1) := by decide +kernel
theorem d_Tr_put_40 : decode c_Tr_put 40 = .ok (.dup, 1) := by decide +kernel
theorem d_Tr_put_41 : decode c_Tr_put 41 = .ok (.getfield 7, 3) := by decide +kernel
theorem d_Tr_put_44 : decode c_Tr_put 44 = .ok (.iconst 1, 1) := by decide +kernel
theorem d_Tr_put_45 : decode c_Tr_put 45 = .ok (.iadd, 1) := by decide +kernel
theorem d_Tr_put_46 : decode c_Tr_put 46 = .ok (.putfield 7, 3) := by decide +kernel
theorem d_Tr_put_49 : decode c_Tr_put 49 = .ok (.return_, 1) := by decide +kernel
theorem d_Tr_drop_0 : decode c_Tr_drop 0 = .ok (.iload_n 1, 1) := by decide +kernel
theorem d_Tr_drop_1 : decode c_Tr_drop 1 = .ok (.ifCond .lt 11, 3) := by decide +kernel
theorem d_Tr_drop_4 : decode c_Tr_drop 4 = .ok (.iload_n 1, 1) := by decide +kernel
theorem d_Tr_drop_5 : decode c_Tr_drop 5 = .ok (.aload_n 0, 1) := by decide +kernel
theorem d_Tr_drop_6 : decode c_Tr_drop 6 = .ok (.getfield 7, 3) := by decide +kernel
theorem d_Tr_drop_9 : decode c_Tr_drop 9 = .ok (.if_icmp .lt 4, 3) := by decide +kernel
theorem d_Tr_drop_12 : decode c_Tr_drop 12 = .ok (.return_, 1) := by decide +kernel
theorem d_Tr_drop_13 : decode c_Tr_drop 13 = .ok (.aload_n 0, 1) := by decide +kernel
theorem d_Tr_drop_14 : decode c_Tr_drop 14 = .ok (.dup, 1) := by decide +kernel
theorem d_Tr_drop_15 : decode c_Tr_drop 15 = .ok (.getfield 7, 3) := by decide +kernel
theorem d_Tr_drop_18 : decode c_Tr_drop 18 = .ok (.iconst 1, 1) := by decide +kernel
theorem d_Tr_drop_19 : decode c_Tr_drop 19 = .ok (.isub, 1) := by decide +kernel
theorem d_Tr_drop_20 : decode c_Tr_drop 20 = .ok (.putfield 7, 3) := by decide +kernel
theorem d_Tr_drop_23 : decode c_Tr_drop 23 = .ok (.aload_n 0, 1) := by decide +kernel
theorem d_Tr_drop_24 : decode c_Tr_drop 24 = .ok (.getfield 13, 3) := by decide +kernel
theorem d_Tr_drop_27 : decode c_Tr_drop 27 = .ok (.iload_n 1, 1) := by decide +kernel
theorem d_Tr_drop_28 : decode c_Tr_drop 28 = .ok (.aload_n 0, 1) := by decide +kernel
theorem d_Tr_drop_29 : decode c_Tr_drop 29 = .ok (.getfield 13, 3) := by decide +kernel
theorem d_Tr_drop_32 : decode c_Tr_drop 32 = .ok (.aload_n 0, 1) := by decide +kernel
theorem d_Tr_drop_33 : decode c_Tr_drop 33 = .ok (.getfield 7, 3) := by decide +kernel
theorem d_Tr_drop_36 : decode c_Tr_drop 36 = .ok (.laload, 1) := by decide +kernel
theorem d_Tr_drop_37 : decode c_Tr_drop 37 = .ok (.lastore, 1) := by decide +kernel
theorem d_Tr_drop_38 : decode c_Tr_drop 38 = .ok (.aload_n 0, 1) := by decide +kernel
theorem d_Tr_drop_39 : decode c_Tr_drop 39 = .ok (.getfield 17, 3) := by decide +kernel
theorem d_Tr_drop_42 : decode c_Tr_drop 42 = .ok (.iload_n 1, 1) := by decide +kernel
theorem d_Tr_drop_43 : decode c_Tr_drop 43 = .ok (.aload_n 0, 1) := by decide +kernel
theorem d_Tr_drop_44 : decode c_Tr_drop 44 = .ok (.getfield 17, 3) := by decide +kernel
theorem d_Tr_drop_47 : decode c_Tr_drop 47 = .ok (.aload_n 0, 1) := by decide +kernel
theorem d_Tr_drop_48 : decode c_Tr_drop 48 = .ok (.getfield 7, 3) := by decide +kernel
theorem d_Tr_drop_51 : decode c_Tr_drop 51 = .ok (.laload, 1) := by decide +kernel
theorem d_Tr_drop_52 : decode c_Tr_drop 52 = .ok (.lastore, 1) := by decide +kernel
theorem d_Tr_drop_53 : decode c_Tr_drop 53 = .ok (.aload_n 0, 1) := by decide +kernel
theorem d_Tr_drop_54 : decode c_Tr_drop 54 = .ok (.getfield 20, 3) := by decide +kernel
theorem d_Tr_drop_57 : decode c_Tr_drop 57 = .ok (.iload_n 1, 1) := by decide +kernel
theorem d_Tr_drop_58 : decode c_Tr_drop 58 = .ok (.aload_n 0, 1) := by decide +kernel
theorem d_Tr_drop_59 : decode c_Tr_drop 59 = .ok (.getfield 20, 3) := by decide +kernel
theorem d_Tr_drop_62 : decode c_Tr_drop 62 = .ok (.aload_n 0, 1) := by decide +kernel
theorem d_Tr_drop_63 : decode c_Tr_drop 63 = .ok (.getfield 7, 3) := by decide +kernel
theorem d_Tr_drop_66 : decode c_Tr_drop 66 = .ok (.laload, 1) := by decide +kernel
theorem d_Tr_drop_67 : decode c_Tr_drop 67 = .ok (.lastore, 1) := by decide +kernel
theorem d_Tr_drop_68 : decode c_Tr_drop 68 = .ok (.return_, 1) := by decide +kernel
theorem d_Ar_fill_0 : decode c_Ar_fill 0 = .ok (.iconst 0, 1) := by decide +kernel
theorem d_Ar_fill_1 : decode c_Ar_fill 1 = .ok (.istore_n 3, 1) := by decide +kernel
theorem d_Ar_fill_2 : decode c_Ar_fill 2 = .ok (.aload_n 0, 1) := by decide +kernel
theorem d_Ar_fill_3 : decode c_Ar_fill 3 = .ok (.arraylength, 1) := by decide +kernel
theorem d_Ar_fill_4 : decode c_Ar_fill 4 = .ok (.istore 4, 2) := by decide +kernel
theorem d_Ar_fill_6 : decode c_Ar_fill 6 = .ok (.iload_n 3, 1) := by decide +kernel
theorem d_Ar_fill_7 : decode c_Ar_fill 7 = .ok (.iload 4, 2) := by decide +kernel
theorem d_Ar_fill_9 : decode c_Ar_fill 9 = .ok (.if_icmp .ge 13, 3) := by decide +kernel
theorem d_Ar_fill_12 : decode c_Ar_fill 12 = .ok (.aload_n 0, 1) := by decide +kernel
theorem d_Ar_fill_13 : decode c_Ar_fill 13 = .ok (.iload_n 3, 1) := by decide +kernel
theorem d_Ar_fill_14 : decode c_Ar_fill 14 = .ok (.lload_n 1, 1) := by decide +kernel
theorem d_Ar_fill_15 : decode c_Ar_fill 15 = .ok (.lastore, 1) := by decide +kernel
theorem d_Ar_fill_16 : decode c_Ar_fill 16 = .ok (.iinc 3 1, 3) := by decide +kernel
theorem d_Ar_fill_19 : decode c_Ar_fill 19 = .ok (.goto (-13), 3) := by decide +kernel
theorem d_Ar_fill_22 : decode c_Ar_fill 22 = .ok (.return_, 1) := by decide +kernel
