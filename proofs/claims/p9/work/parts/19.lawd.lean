abbrev h_La_add : List (Nat × Nat × Nat × Nat) := [(0, 13, 16, 13), (0, 13, 20, 15)]
abbrev w_La_add : List Cond := wsH y_La_add c_La_add 9 (some .int) h_La_add
theorem i_La_add : Cond.codeWith y_La_add c_La_add 9 (some .int) h_La_add ∈ gT := gT_at 323 (by decide +kernel) (by decide +kernel)
abbrev h_La_remove : List (Nat × Nat × Nat × Nat) := [(0, 13, 16, 13)]
abbrev w_La_remove : List Cond := wsH y_La_remove c_La_remove 9 (some .int) h_La_remove
theorem i_La_remove : Cond.codeWith y_La_remove c_La_remove 9 (some .int) h_La_remove ∈ gT := gT_at 471 (by decide +kernel) (by decide +kernel)
abbrev h_La_begin : List (Nat × Nat × Nat × Nat) := [(0, 8, 11, 15)]
abbrev w_La_begin : List Cond := wsH y_La_begin c_La_begin 3 (some .int) h_La_begin
theorem i_La_begin : Cond.codeWith y_La_begin c_La_begin 3 (some .int) h_La_begin ∈ gT := gT_at 486 (by decide +kernel) (by decide +kernel)
abbrev h_La_commit : List (Nat × Nat × Nat × Nat) := [(0, 8, 11, 15)]
abbrev w_La_commit : List Cond := wsH y_La_commit c_La_commit 3 (some .int) h_La_commit
theorem i_La_commit : Cond.codeWith y_La_commit c_La_commit 3 (some .int) h_La_commit ∈ gT := gT_at 502 (by decide +kernel) (by decide +kernel)
abbrev h_La_rollback : List (Nat × Nat × Nat × Nat) := [(0, 8, 11, 15)]
abbrev w_La_rollback : List Cond := wsH y_La_rollback c_La_rollback 3 (some .int) h_La_rollback
theorem i_La_rollback : Cond.codeWith y_La_rollback c_La_rollback 3 (some .int) h_La_rollback ∈ gT := gT_at 514 (by decide +kernel) (by decide +kernel)
abbrev h_La_crash : List (Nat × Nat × Nat × Nat) := [(0, 9, 12, 13)]
abbrev w_La_crash : List Cond := wsH y_La_crash c_La_crash 4 (some .int) h_La_crash
theorem i_La_crash : Cond.codeWith y_La_crash c_La_crash 4 (some .int) h_La_crash ∈ gT := gT_at 545 (by decide +kernel) (by decide +kernel)
abbrev h_La_append : List (Nat × Nat × Nat × Nat) := [(0, 11, 14, 13), (0, 11, 18, 15)]
abbrev w_La_append : List Cond := wsH y_La_append c_La_append 6 (some .int) h_La_append
theorem i_La_append : Cond.codeWith y_La_append c_La_append 6 (some .int) h_La_append ∈ gT := gT_at 560 (by decide +kernel) (by decide +kernel)
abbrev h_La_ask : List (Nat × Nat × Nat × Nat) := [(0, 8, 11, 13), (0, 8, 14, 15)]
abbrev w_La_ask : List Cond := wsH y_La_ask c_La_ask 3 (some .int) h_La_ask
theorem i_La_ask : Cond.codeWith y_La_ask c_La_ask 3 (some .int) h_La_ask ∈ gT := gT_at 575 (by decide +kernel) (by decide +kernel)
abbrev h_La_cell2 : List (Nat × Nat × Nat × Nat) := [(0, 9, 12, 45), (0, 9, 16, 47)]
abbrev w_La_cell2 : List Cond := wsH y_La_cell2 c_La_cell2 5 (some .int) h_La_cell2
theorem i_La_cell2 : Cond.codeWith y_La_cell2 c_La_cell2 5 (some .int) h_La_cell2 ∈ gT := gT_at 893 (by decide +kernel) (by decide +kernel)
abbrev h_La_count : List (Nat × Nat × Nat × Nat) := [(0, 9, 12, 13)]
abbrev w_La_count : List Cond := wsH y_La_count c_La_count 4 (some .int) h_La_count
theorem i_La_count : Cond.codeWith y_La_count c_La_count 4 (some .int) h_La_count ∈ gT := gT_at 947 (by decide +kernel) (by decide +kernel)
abbrev c_La_law : ByteArray := code
theorem d_La_add_0 : decode c_La_add 0 = .ok (.aload 7, 2) := by decide +kernel
theorem d_La_add_2 : decode c_La_add 2 = .ok (.iconst 0, 1) := by decide +kernel
theorem d_La_add_3 : decode c_La_add 3 = .ok (.aload_n 0, 1) := by decide +kernel
theorem d_La_add_4 : decode c_La_add 4 = .ok (.lload_n 1, 1) := by decide +kernel
theorem d_La_add_5 : decode c_La_add 5 = .ok (.lload_n 3, 1) := by decide +kernel
theorem d_La_add_6 : decode c_La_add 6 = .ok (.lload 5, 2) := by decide +kernel
theorem d_La_add_8 : decode c_La_add 8 = .ok (.invokevirtual 7, 3) := by decide +kernel
theorem d_La_add_11 : decode c_La_add 11 = .ok (.i2l, 1) := by decide +kernel
theorem d_La_add_12 : decode c_La_add 12 = .ok (.lastore, 1) := by decide +kernel
theorem d_La_add_13 : decode c_La_add 13 = .ok (.goto 11, 3) := by decide +kernel
theorem d_La_add_16 : decode c_La_add 16 = .ok (.astore 8, 2) := by decide +kernel
theorem d_La_add_18 : decode c_La_add 18 = .ok (.iconst 1, 1) := by decide +kernel
theorem d_La_add_19 : decode c_La_add 19 = .ok (.ireturn, 1) := by decide +kernel
theorem d_La_add_20 : decode c_La_add 20 = .ok (.astore 8, 2) := by decide +kernel
theorem d_La_add_22 : decode c_La_add 22 = .ok (.iconst 2, 1) := by decide +kernel
theorem d_La_add_23 : decode c_La_add 23 = .ok (.ireturn, 1) := by decide +kernel
theorem d_La_add_24 : decode c_La_add 24 = .ok (.iconst 0, 1) := by decide +kernel
theorem d_La_add_25 : decode c_La_add 25 = .ok (.ireturn, 1) := by decide +kernel
theorem d_La_remove_0 : decode c_La_remove 0 = .ok (.aload 7, 2) := by decide +kernel
theorem d_La_remove_2 : decode c_La_remove 2 = .ok (.iconst 0, 1) := by decide +kernel
theorem d_La_remove_3 : decode c_La_remove 3 = .ok (.aload_n 0, 1) := by decide +kernel
theorem d_La_remove_4 : decode c_La_remove 4 = .ok (.lload_n 1, 1) := by decide +kernel
theorem d_La_remove_5 : decode c_La_remove 5 = .ok (.lload_n 3, 1) := by decide +kernel
theorem d_La_remove_6 : decode c_La_remove 6 = .ok (.lload 5, 2) := by decide +kernel
theorem d_La_remove_8 : decode c_La_remove 8 = .ok (.invokevirtual 17, 3) := by decide +kernel
theorem d_La_remove_11 : decode c_La_remove 11 = .ok (.i2l, 1) := by decide +kernel
theorem d_La_remove_12 : decode c_La_remove 12 = .ok (.lastore, 1) := by decide +kernel
theorem d_La_remove_13 : decode c_La_remove 13 = .ok (.goto 7, 3) := by decide +kernel
theorem d_La_remove_16 : decode c_La_remove 16 = .ok (.astore 8, 2) := by decide +kernel
theorem d_La_remove_18 : decode c_La_remove 18 = .ok (.iconst 1, 1) := by decide +kernel
theorem d_La_remove_19 : decode c_La_remove 19 = .ok (.ireturn, 1) := by decide +kernel
theorem d_La_remove_20 : decode c_La_remove 20 = .ok (.iconst 0, 1) := by decide +kernel
theorem d_La_remove_21 : decode c_La_remove 21 = .ok (.ireturn, 1) := by decide +kernel
theorem d_La_begin_0 : decode c_La_begin 0 = .ok (.aload_n 1, 1) := by decide +kernel
theorem d_La_begin_1 : decode c_La_begin 1 = .ok (.iconst 0, 1) := by decide +kernel
theorem d_La_begin_2 : decode c_La_begin 2 = .ok (.aload_n 0, 1) := by decide +kernel
theorem d_La_begin_3 : decode c_La_begin 3 = .ok (.invokevirtual 20, 3) := by decide +kernel
theorem d_La_begin_6 : decode c_La_begin 6 = .ok (.i2l, 1) := by decide +kernel
theorem d_La_begin_7 : decode c_La_begin 7 = .ok (.lastore, 1) := by decide +kernel
theorem d_La_begin_8 : decode c_La_begin 8 = .ok (.goto 6, 3) := by decide +kernel
theorem d_La_begin_11 : decode c_La_begin 11 = .ok (.astore_n 2, 1) := by decide +kernel
theorem d_La_begin_12 : decode c_La_begin 12 = .ok (.iconst 1, 1) := by decide +kernel
theorem d_La_begin_13 : decode c_La_begin 13 = .ok (.ireturn, 1) := by decide +kernel
theorem d_La_begin_14 : decode c_La_begin 14 = .ok (.iconst 0, 1) := by decide +kernel
theorem d_La_begin_15 : decode c_La_begin 15 = .ok (.ireturn, 1) := by decide +kernel
theorem d_La_commit_0 : decode c_La_commit 0 = .ok (.aload_n 1, 1) := by decide +kernel
theorem d_La_commit_1 : decode c_La_commit 1 = .ok (.iconst 0, 1) := by decide +kernel
theorem d_La_commit_2 : decode c_La_commit 2 = .ok (.aload_n 0, 1) := by decide +kernel
theorem d_La_commit_3 : decode c_La_commit 3 = .ok (.invokevirtual 24, 3) := by decide +kernel
theorem d_La_commit_6 : decode c_La_commit 6 = .ok (.i2l, 1) := by decide +kernel
theorem d_La_commit_7 : decode c_La_commit 7 = .ok (.lastore, 1) := by decide +kernel
theorem d_La_commit_8 : decode c_La_commit 8 = .ok (.goto 6, 3) := by decide +kernel
theorem d_La_commit_11 : decode c_La_commit 11 = .ok (.astore_n 2, 1) := by decide +kernel
theorem d_La_commit_12 : decode c_La_commit 12 = .ok (.iconst 1, 1) := by decide +kernel
theorem d_La_commit_13 : decode c_La_commit 13 = .ok (.ireturn, 1) := by decide +kernel
theorem d_La_commit_14 : decode c_La_commit 14 = .ok (.iconst 0, 1) := by decide +kernel
theorem d_La_commit_15 : decode c_La_commit 15 = .ok (.ireturn, 1) := by decide +kernel
theorem d_La_rollback_0 : decode c_La_rollback 0 = .ok (.aload_n 1, 1) := by decide +kernel
theorem d_La_rollback_1 : decode c_La_rollback 1 = .ok (.iconst 0, 1) := by decide +kernel
theorem d_La_rollback_2 : decode c_La_rollback 2 = .ok (.aload_n 0, 1) := by decide +kernel
theorem d_La_rollback_3 : decode c_La_rollback 3 = .ok (.invokevirtual 27, 3) := by decide +kernel
theorem d_La_rollback_6 : decode c_La_rollback 6 = .ok (.i2l, 1) := by decide +kernel
theorem d_La_rollback_7 : decode c_La_rollback 7 = .ok (.lastore, 1) := by decide +kernel
theorem d_La_rollback_8 : decode c_La_rollback 8 = .ok (.goto 6, 3) := by decide +kernel
theorem d_La_rollback_11 : decode c_La_rollback 11 = .ok (.astore_n 2, 1) := by decide +kernel
theorem d_La_rollback_12 : decode c_La_rollback 12 = .ok (.iconst 1, 1) := by decide +kernel
theorem d_La_rollback_13 : decode c_La_rollback 13 = .ok (.ireturn, 1) := by decide +kernel
theorem d_La_rollback_14 : decode c_La_rollback 14 = .ok (.iconst 0, 1) := by decide +kernel
theorem d_La_rollback_15 : decode c_La_rollback 15 = .ok (.ireturn, 1) := by decide +kernel
theorem d_La_crash_0 : decode c_La_crash 0 = .ok (.aload_n 2, 1) := by decide +kernel
theorem d_La_crash_1 : decode c_La_crash 1 = .ok (.iconst 0, 1) := by decide +kernel
theorem d_La_crash_2 : decode c_La_crash 2 = .ok (.aload_n 0, 1) := by decide +kernel
theorem d_La_crash_3 : decode c_La_crash 3 = .ok (.iload_n 1, 1) := by decide +kernel
theorem d_La_crash_4 : decode c_La_crash 4 = .ok (.invokevirtual 30, 3) := by decide +kernel
theorem d_La_crash_7 : decode c_La_crash 7 = .ok (.i2l, 1) := by decide +kernel
theorem d_La_crash_8 : decode c_La_crash 8 = .ok (.lastore, 1) := by decide +kernel
theorem d_La_crash_9 : decode c_La_crash 9 = .ok (.goto 6, 3) := by decide +kernel
theorem d_La_crash_12 : decode c_La_crash 12 = .ok (.astore_n 3, 1) := by decide +kernel
theorem d_La_crash_13 : decode c_La_crash 13 = .ok (.iconst 1, 1) := by decide +kernel
theorem d_La_crash_14 : decode c_La_crash 14 = .ok (.ireturn, 1) := by decide +kernel
theorem d_La_crash_15 : decode c_La_crash 15 = .ok (.iconst 0, 1) := by decide +kernel
theorem d_La_crash_16 : decode c_La_crash 16 = .ok (.ireturn, 1) := by decide +kernel
theorem d_La_append_0 : decode c_La_append 0 = .ok (.aload 4, 2) := by decide +kernel
theorem d_La_append_2 : decode c_La_append 2 = .ok (.iconst 0, 1) := by decide +kernel
theorem d_La_append_3 : decode c_La_append 3 = .ok (.aload_n 0, 1) := by decide +kernel
theorem d_La_append_4 : decode c_La_append 4 = .ok (.lload_n 1, 1) := by decide +kernel
theorem d_La_append_5 : decode c_La_append 5 = .ok (.iload_n 3, 1) := by decide +kernel
theorem d_La_append_6 : decode c_La_append 6 = .ok (.invokevirtual 34, 3) := by decide +kernel
theorem d_La_append_9 : decode c_La_append 9 = .ok (.i2l, 1) := by decide +kernel
theorem d_La_append_10 : decode c_La_append 10 = .ok (.lastore, 1) := by decide +kernel
theorem d_La_append_11 : decode c_La_append 11 = .ok (.goto 11, 3) := by decide +kernel
theorem d_La_append_14 : decode c_La_append 14 = .ok (.astore 5, 2) := by decide +kernel
theorem d_La_append_16 : decode c_La_append 16 = .ok (.iconst 1, 1) := by decide +kernel
theorem d_La_append_17 : decode c_La_append 17 = .ok (.ireturn, 1) := by decide +kernel
theorem d_La_append_18 : decode c_La_append 18 = .ok (.astore 5, 2) := by decide +kernel
theorem d_La_append_20 : decode c_La_append 20 = .ok (.iconst 2, 1) := by decide +kernel
theorem d_La_append_21 : decode c_La_append 21 = .ok (.ireturn, 1) := by decide +kernel
theorem d_La_append_22 : decode c_La_append 22 = .ok (.iconst 0, 1) := by decide +kernel
theorem d_La_append_23 : decode c_La_append 23 = .ok (.ireturn, 1) := by decide +kernel
theorem d_La_ask_0 : decode c_La_ask 0 = .ok (.aload_n 1, 1) := by decide +kernel
theorem d_La_ask_1 : decode c_La_ask 1 = .ok (.iconst 0, 1) := by decide +kernel
theorem d_La_ask_2 : decode c_La_ask 2 = .ok (.aload_n 0, 1) := by decide +kernel
theorem d_La_ask_3 : decode c_La_ask 3 = .ok (.invokevirtual 38, 3) := by decide +kernel
theorem d_La_ask_6 : decode c_La_ask 6 = .ok (.i2l, 1) := by decide +kernel
theorem d_La_ask_7 : decode c_La_ask 7 = .ok (.lastore, 1) := by decide +kernel
theorem d_La_ask_8 : decode c_La_ask 8 = .ok (.goto 9, 3) := by decide +kernel
theorem d_La_ask_11 : decode c_La_ask 11 = .ok (.astore_n 2, 1) := by decide +kernel
theorem d_La_ask_12 : decode c_La_ask 12 = .ok (.iconst 1, 1) := by decide +kernel
theorem d_La_ask_13 : decode c_La_ask 13 = .ok (.ireturn, 1) := by decide +kernel
theorem d_La_ask_14 : decode c_La_ask 14 = .ok (.astore_n 2, 1) := by decide +kernel
theorem d_La_ask_15 : decode c_La_ask 15 = .ok (.iconst 2, 1) := by decide +kernel
theorem d_La_ask_16 : decode c_La_ask 16 = .ok (.ireturn, 1) := by decide +kernel
theorem d_La_ask_17 : decode c_La_ask 17 = .ok (.iconst 0, 1) := by decide +kernel
theorem d_La_ask_18 : decode c_La_ask 18 = .ok (.ireturn, 1) := by decide +kernel
theorem d_La_cell2_0 : decode c_La_cell2 0 = .ok (.aload_n 3, 1) := by decide +kernel
theorem d_La_cell2_1 : decode c_La_cell2 1 = .ok (.iconst 0, 1) := by decide +kernel
theorem d_La_cell2_2 : decode c_La_cell2 2 = .ok (.aload_n 0, 1) := by decide +kernel
theorem d_La_cell2_3 : decode c_La_cell2 3 = .ok (.iload_n 1, 1) := by decide +kernel
theorem d_La_cell2_4 : decode c_La_cell2 4 = .ok (.iload_n 2, 1) := by decide +kernel
theorem d_La_cell2_5 : decode c_La_cell2 5 = .ok (.invokevirtual 41, 3) := by decide +kernel
theorem d_La_cell2_8 : decode c_La_cell2 8 = .ok (.lastore, 1) := by decide +kernel
theorem d_La_cell2_9 : decode c_La_cell2 9 = .ok (.goto 11, 3) := by decide +kernel
theorem d_La_cell2_12 : decode c_La_cell2 12 = .ok (.astore 4, 2) := by decide +kernel
theorem d_La_cell2_14 : decode c_La_cell2 14 = .ok (.iconst 1, 1) := by decide +kernel
theorem d_La_cell2_15 : decode c_La_cell2 15 = .ok (.ireturn, 1) := by decide +kernel
theorem d_La_cell2_16 : decode c_La_cell2 16 = .ok (.astore 4, 2) := by decide +kernel
theorem d_La_cell2_18 : decode c_La_cell2 18 = .ok (.iconst 2, 1) := by decide +kernel
theorem d_La_cell2_19 : decode c_La_cell2 19 = .ok (.ireturn, 1) := by decide +kernel
theorem d_La_cell2_20 : decode c_La_cell2 20 = .ok (.iconst 0, 1) := by decide +kernel
theorem d_La_cell2_21 : decode c_La_cell2 21 = .ok (.ireturn, 1) := by decide +kernel
theorem d_La_count_0 : decode c_La_count 0 = .ok (.aload_n 2, 1) := by decide +kernel
theorem d_La_count_1 : decode c_La_count 1 = .ok (.iconst 0, 1) := by decide +kernel
theorem d_La_count_2 : decode c_La_count 2 = .ok (.aload_n 0, 1) := by decide +kernel
theorem d_La_count_3 : decode c_La_count 3 = .ok (.iload_n 1, 1) := by decide +kernel
theorem d_La_count_4 : decode c_La_count 4 = .ok (.invokevirtual 49, 3) := by decide +kernel
theorem d_La_count_7 : decode c_La_count 7 = .ok (.i2l, 1) := by decide +kernel
theorem d_La_count_8 : decode c_La_count 8 = .ok (.lastore, 1) := by decide +kernel
theorem d_La_count_9 : decode c_La_count 9 = .ok (.goto 6, 3) := by decide +kernel
theorem d_La_count_12 : decode c_La_count 12 = .ok (.astore_n 3, 1) := by decide +kernel
theorem d_La_count_13 : decode c_La_count 13 = .ok (.iconst 1, 1) := by decide +kernel
theorem d_La_count_14 : decode c_La_count 14 = .ok (.ireturn, 1) := by decide +kernel
theorem d_La_count_15 : decode c_La_count 15 = .ok (.iconst 0, 1) := by decide +kernel
theorem d_La_count_16 : decode c_La_count 16 = .ok (.ireturn, 1) := by decide +kernel
theorem d_La_law_0 : decode c_La_law 0 = .ok (.new 8, 3) := by decide +kernel
theorem d_La_law_3 : decode c_La_law 3 = .ok (.dup, 1) := by decide +kernel
theorem d_La_law_4 : decode c_La_law 4 = .ok (.invokespecial 52, 3) := by decide +kernel
theorem d_La_law_7 : decode c_La_law 7 = .ok (.astore_n 1, 1) := by decide +kernel
theorem d_La_law_8 : decode c_La_law 8 = .ok (.new 53, 3) := by decide +kernel
theorem d_La_law_11 : decode c_La_law 11 = .ok (.dup, 1) := by decide +kernel
theorem d_La_law_12 : decode c_La_law 12 = .ok (.invokespecial 55, 3) := by decide +kernel
theorem d_La_law_15 : decode c_La_law 15 = .ok (.astore_n 2, 1) := by decide +kernel
theorem d_La_law_16 : decode c_La_law 16 = .ok (.iconst 1, 1) := by decide +kernel
theorem d_La_law_17 : decode c_La_law 17 = .ok (.newarray .long, 2) := by decide +kernel
theorem d_La_law_19 : decode c_La_law 19 = .ok (.astore_n 3, 1) := by decide +kernel
theorem d_La_law_20 : decode c_La_law 20 = .ok (.iconst 0, 1) := by decide +kernel
theorem d_La_law_21 : decode c_La_law 21 = .ok (.istore 4, 2) := by decide +kernel
theorem d_La_law_23 : decode c_La_law 23 = .ok (.iload 4, 2) := by decide +kernel
theorem d_La_law_25 : decode c_La_law 25 = .ok (.aload_n 0, 1) := by decide +kernel
theorem d_La_law_26 : decode c_La_law 26 = .ok (.arraylength, 1) := by decide +kernel
theorem d_La_law_27 : decode c_La_law 27 = .ok (.bipush 7, 2) := by decide +kernel
theorem d_La_law_29 : decode c_La_law 29 = .ok (.isub, 1) := by decide +kernel
theorem d_La_law_30 : decode c_La_law 30 = .ok (.if_icmp .gt 666, 3) := by decide +kernel
theorem d_La_law_33 : decode c_La_law 33 = .ok (.aload_n 0, 1) := by decide +kernel
theorem d_La_law_34 : decode c_La_law 34 = .ok (.iload 4, 2) := by decide +kernel
theorem d_La_law_36 : decode c_La_law 36 = .ok (.iaload, 1) := by decide +kernel
theorem d_La_law_37 : decode c_La_law 37 = .ok (.bipush 15, 2) := by decide +kernel
theorem d_La_law_39 : decode c_La_law 39 = .ok (.iand, 1) := by decide +kernel
theorem d_La_law_40 : decode c_La_law 40 = .ok (.tableswitch 650 0 11 #[64, 214, 364, 380, 396, 412, 425, 453, 553, 569, 582, 622], 64) := by decide +kernel
theorem d_La_law_104 : decode c_La_law 104 = .ok (.aload_n 1, 1) := by decide +kernel
theorem d_La_law_105 : decode c_La_law 105 = .ok (.aload_n 0, 1) := by decide +kernel
theorem d_La_law_106 : decode c_La_law 106 = .ok (.iload 4, 2) := by decide +kernel
theorem d_La_law_108 : decode c_La_law 108 = .ok (.iconst 1, 1) := by decide +kernel
theorem d_La_law_109 : decode c_La_law 109 = .ok (.iadd, 1) := by decide +kernel
theorem d_La_law_110 : decode c_La_law 110 = .ok (.iaload, 1) := by decide +kernel
theorem d_La_law_111 : decode c_La_law 111 = .ok (.i2l, 1) := by decide +kernel
theorem d_La_law_112 : decode c_La_law 112 = .ok (.bipush 32, 2) := by decide +kernel
theorem d_La_law_114 : decode c_La_law 114 = .ok (.lshl, 1) := by decide +kernel
theorem d_La_law_115 : decode c_La_law 115 = .ok (.aload_n 0, 1) := by decide +kernel
theorem d_La_law_116 : decode c_La_law 116 = .ok (.iload 4, 2) := by decide +kernel
theorem d_La_law_118 : decode c_La_law 118 = .ok (.iconst 2, 1) := by decide +kernel
theorem d_La_law_119 : decode c_La_law 119 = .ok (.iadd, 1) := by decide +kernel
theorem d_La_law_120 : decode c_La_law 120 = .ok (.iaload, 1) := by decide +kernel
theorem d_La_law_121 : decode c_La_law 121 = .ok (.i2l, 1) := by decide +kernel
theorem d_La_law_122 : decode c_La_law 122 = .ok (.ldc2_w 56, 3) := by decide +kernel
theorem d_La_law_125 : decode c_La_law 125 = .ok (.land, 1) := by decide +kernel
theorem d_La_law_126 : decode c_La_law 126 = .ok (.lor, 1) := by decide +kernel
theorem d_La_law_127 : decode c_La_law 127 = .ok (.aload_n 0, 1) := by decide +kernel
theorem d_La_law_128 : decode c_La_law 128 = .ok (.iload 4, 2) := by decide +kernel
theorem d_La_law_130 : decode c_La_law 130 = .ok (.iconst 3, 1) := by decide +kernel
theorem d_La_law_131 : decode c_La_law 131 = .ok (.iadd, 1) := by decide +kernel
theorem d_La_law_132 : decode c_La_law 132 = .ok (.iaload, 1) := by decide +kernel
theorem d_La_law_133 : decode c_La_law 133 = .ok (.i2l, 1) := by decide +kernel
theorem d_La_law_134 : decode c_La_law 134 = .ok (.bipush 32, 2) := by decide +kernel
theorem d_La_law_136 : decode c_La_law 136 = .ok (.lshl, 1) := by decide +kernel
theorem d_La_law_137 : decode c_La_law 137 = .ok (.aload_n 0, 1) := by decide +kernel
theorem d_La_law_138 : decode c_La_law 138 = .ok (.iload 4, 2) := by decide +kernel
theorem d_La_law_140 : decode c_La_law 140 = .ok (.iconst 4, 1) := by decide +kernel
theorem d_La_law_141 : decode c_La_law 141 = .ok (.iadd, 1) := by decide +kernel
theorem d_La_law_142 : decode c_La_law 142 = .ok (.iaload, 1) := by decide +kernel
theorem d_La_law_143 : decode c_La_law 143 = .ok (.i2l, 1) := by decide +kernel
theorem d_La_law_144 : decode c_La_law 144 = .ok (.ldc2_w 56, 3) := by decide +kernel
theorem d_La_law_147 : decode c_La_law 147 = .ok (.land, 1) := by decide +kernel
theorem d_La_law_148 : decode c_La_law 148 = .ok (.lor, 1) := by decide +kernel
theorem d_La_law_149 : decode c_La_law 149 = .ok (.aload_n 0, 1) := by decide +kernel
theorem d_La_law_150 : decode c_La_law 150 = .ok (.iload 4, 2) := by decide +kernel
theorem d_La_law_152 : decode c_La_law 152 = .ok (.iconst 5, 1) := by decide +kernel
theorem d_La_law_153 : decode c_La_law 153 = .ok (.iadd, 1) := by decide +kernel
theorem d_La_law_154 : decode c_La_law 154 = .ok (.iaload, 1) := by decide +kernel
theorem d_La_law_155 : decode c_La_law 155 = .ok (.i2l, 1) := by decide +kernel
theorem d_La_law_156 : decode c_La_law 156 = .ok (.bipush 32, 2) := by decide +kernel
theorem d_La_law_158 : decode c_La_law 158 = .ok (.lshl, 1) := by decide +kernel
theorem d_La_law_159 : decode c_La_law 159 = .ok (.aload_n 0, 1) := by decide +kernel
theorem d_La_law_160 : decode c_La_law 160 = .ok (.iload 4, 2) := by decide +kernel
theorem d_La_law_162 : decode c_La_law 162 = .ok (.bipush 6, 2) := by decide +kernel
theorem d_La_law_164 : decode c_La_law 164 = .ok (.iadd, 1) := by decide +kernel
theorem d_La_law_165 : decode c_La_law 165 = .ok (.iaload, 1) := by decide +kernel
theorem d_La_law_166 : decode c_La_law 166 = .ok (.i2l, 1) := by decide +kernel
theorem d_La_law_167 : decode c_La_law 167 = .ok (.ldc2_w 56, 3) := by decide +kernel
theorem d_La_law_170 : decode c_La_law 170 = .ok (.land, 1) := by decide +kernel
theorem d_La_law_171 : decode c_La_law 171 = .ok (.lor, 1) := by decide +kernel
theorem d_La_law_172 : decode c_La_law 172 = .ok (.aload_n 3, 1) := by decide +kernel
theorem d_La_law_173 : decode c_La_law 173 = .ok (.invokestatic 58, 3) := by decide +kernel
theorem d_La_law_176 : decode c_La_law 176 = .ok (.istore 5, 2) := by decide +kernel
theorem d_La_law_178 : decode c_La_law 178 = .ok (.aload_n 2, 1) := by decide +kernel
theorem d_La_law_179 : decode c_La_law 179 = .ok (.aload_n 0, 1) := by decide +kernel
theorem d_La_law_180 : decode c_La_law 180 = .ok (.iload 4, 2) := by decide +kernel
theorem d_La_law_182 : decode c_La_law 182 = .ok (.iconst 1, 1) := by decide +kernel
theorem d_La_law_183 : decode c_La_law 183 = .ok (.iadd, 1) := by decide +kernel
theorem d_La_law_184 : decode c_La_law 184 = .ok (.iaload, 1) := by decide +kernel
theorem d_La_law_185 : decode c_La_law 185 = .ok (.i2l, 1) := by decide +kernel
theorem d_La_law_186 : decode c_La_law 186 = .ok (.bipush 32, 2) := by decide +kernel
theorem d_La_law_188 : decode c_La_law 188 = .ok (.lshl, 1) := by decide +kernel
theorem d_La_law_189 : decode c_La_law 189 = .ok (.aload_n 0, 1) := by decide +kernel
theorem d_La_law_190 : decode c_La_law 190 = .ok (.iload 4, 2) := by decide +kernel
theorem d_La_law_192 : decode c_La_law 192 = .ok (.iconst 2, 1) := by decide +kernel
theorem d_La_law_193 : decode c_La_law 193 = .ok (.iadd, 1) := by decide +kernel
theorem d_La_law_194 : decode c_La_law 194 = .ok (.iaload, 1) := by decide +kernel
theorem d_La_law_195 : decode c_La_law 195 = .ok (.i2l, 1) := by decide +kernel
theorem d_La_law_196 : decode c_La_law 196 = .ok (.ldc2_w 56, 3) := by decide +kernel
theorem d_La_law_199 : decode c_La_law 199 = .ok (.land, 1) := by decide +kernel
theorem d_La_law_200 : decode c_La_law 200 = .ok (.lor, 1) := by decide +kernel
theorem d_La_law_201 : decode c_La_law 201 = .ok (.aload_n 0, 1) := by decide +kernel
theorem d_La_law_202 : decode c_La_law 202 = .ok (.iload 4, 2) := by decide +kernel
theorem d_La_law_204 : decode c_La_law 204 = .ok (.iconst 3, 1) := by decide +kernel
theorem d_La_law_205 : decode c_La_law 205 = .ok (.iadd, 1) := by decide +kernel
theorem d_La_law_206 : decode c_La_law 206 = .ok (.iaload, 1) := by decide +kernel
theorem d_La_law_207 : decode c_La_law 207 = .ok (.i2l, 1) := by decide +kernel
theorem d_La_law_208 : decode c_La_law 208 = .ok (.bipush 32, 2) := by decide +kernel
theorem d_La_law_210 : decode c_La_law 210 = .ok (.lshl, 1) := by decide +kernel
theorem d_La_law_211 : decode c_La_law 211 = .ok (.aload_n 0, 1) := by decide +kernel
theorem d_La_law_212 : decode c_La_law 212 = .ok (.iload 4, 2) := by decide +kernel
theorem d_La_law_214 : decode c_La_law 214 = .ok (.iconst 4, 1) := by decide +kernel
theorem d_La_law_215 : decode c_La_law 215 = .ok (.iadd, 1) := by decide +kernel
theorem d_La_law_216 : decode c_La_law 216 = .ok (.iaload, 1) := by decide +kernel
theorem d_La_law_217 : decode c_La_law 217 = .ok (.i2l, 1) := by decide +kernel
theorem d_La_law_218 : decode c_La_law 218 = .ok (.ldc2_w 56, 3) := by decide +kernel
theorem d_La_law_221 : decode c_La_law 221 = .ok (.land, 1) := by decide +kernel
theorem d_La_law_222 : decode c_La_law 222 = .ok (.lor, 1) := by decide +kernel
theorem d_La_law_223 : decode c_La_law 223 = .ok (.aload_n 0, 1) := by decide +kernel
theorem d_La_law_224 : decode c_La_law 224 = .ok (.iload 4, 2) := by decide +kernel
theorem d_La_law_226 : decode c_La_law 226 = .ok (.iconst 5, 1) := by decide +kernel
theorem d_La_law_227 : decode c_La_law 227 = .ok (.iadd, 1) := by decide +kernel
theorem d_La_law_228 : decode c_La_law 228 = .ok (.iaload, 1) := by decide +kernel
theorem d_La_law_229 : decode c_La_law 229 = .ok (.i2l, 1) := by decide +kernel
theorem d_La_law_230 : decode c_La_law 230 = .ok (.bipush 32, 2) := by decide +kernel
theorem d_La_law_232 : decode c_La_law 232 = .ok (.lshl, 1) := by decide +kernel
theorem d_La_law_233 : decode c_La_law 233 = .ok (.aload_n 0, 1) := by decide +kernel
theorem d_La_law_234 : decode c_La_law 234 = .ok (.iload 4, 2) := by decide +kernel
theorem d_La_law_236 : decode c_La_law 236 = .ok (.bipush 6, 2) := by decide +kernel
theorem d_La_law_238 : decode c_La_law 238 = .ok (.iadd, 1) := by decide +kernel
theorem d_La_law_239 : decode c_La_law 239 = .ok (.iaload, 1) := by decide +kernel
theorem d_La_law_240 : decode c_La_law 240 = .ok (.i2l, 1) := by decide +kernel
theorem d_La_law_241 : decode c_La_law 241 = .ok (.ldc2_w 56, 3) := by decide +kernel
theorem d_La_law_244 : decode c_La_law 244 = .ok (.land, 1) := by decide +kernel
theorem d_La_law_245 : decode c_La_law 245 = .ok (.lor, 1) := by decide +kernel
theorem d_La_law_246 : decode c_La_law 246 = .ok (.invokevirtual 63, 3) := by decide +kernel
theorem d_La_law_249 : decode c_La_law 249 = .ok (.istore 6, 2) := by decide +kernel
theorem d_La_law_251 : decode c_La_law 251 = .ok (.goto 439, 3) := by decide +kernel
theorem d_La_law_254 : decode c_La_law 254 = .ok (.aload_n 1, 1) := by decide +kernel
theorem d_La_law_255 : decode c_La_law 255 = .ok (.aload_n 0, 1) := by decide +kernel
theorem d_La_law_256 : decode c_La_law 256 = .ok (.iload 4, 2) := by decide +kernel
theorem d_La_law_258 : decode c_La_law 258 = .ok (.iconst 1, 1) := by decide +kernel
theorem d_La_law_259 : decode c_La_law 259 = .ok (.iadd, 1) := by decide +kernel
theorem d_La_law_260 : decode c_La_law 260 = .ok (.iaload, 1) := by decide +kernel
theorem d_La_law_261 : decode c_La_law 261 = .ok (.i2l, 1) := by decide +kernel
theorem d_La_law_262 : decode c_La_law 262 = .ok (.bipush 32, 2) := by decide +kernel
theorem d_La_law_264 : decode c_La_law 264 = .ok (.lshl, 1) := by decide +kernel
theorem d_La_law_265 : decode c_La_law 265 = .ok (.aload_n 0, 1) := by decide +kernel
theorem d_La_law_266 : decode c_La_law 266 = .ok (.iload 4, 2) := by decide +kernel
theorem d_La_law_268 : decode c_La_law 268 = .ok (.iconst 2, 1) := by decide +kernel
theorem d_La_law_269 : decode c_La_law 269 = .ok (.iadd, 1) := by decide +kernel
theorem d_La_law_270 : decode c_La_law 270 = .ok (.iaload, 1) := by decide +kernel
theorem d_La_law_271 : decode c_La_law 271 = .ok (.i2l, 1) := by decide +kernel
theorem d_La_law_272 : decode c_La_law 272 = .ok (.ldc2_w 56, 3) := by decide +kernel
theorem d_La_law_275 : decode c_La_law 275 = .ok (.land, 1) := by decide +kernel
theorem d_La_law_276 : decode c_La_law 276 = .ok (.lor, 1) := by decide +kernel
theorem d_La_law_277 : decode c_La_law 277 = .ok (.aload_n 0, 1) := by decide +kernel
theorem d_La_law_278 : decode c_La_law 278 = .ok (.iload 4, 2) := by decide +kernel
theorem d_La_law_280 : decode c_La_law 280 = .ok (.iconst 3, 1) := by decide +kernel
theorem d_La_law_281 : decode c_La_law 281 = .ok (.iadd, 1) := by decide +kernel
theorem d_La_law_282 : decode c_La_law 282 = .ok (.iaload, 1) := by decide +kernel
theorem d_La_law_283 : decode c_La_law 283 = .ok (.i2l, 1) := by decide +kernel
theorem d_La_law_284 : decode c_La_law 284 = .ok (.bipush 32, 2) := by decide +kernel
theorem d_La_law_286 : decode c_La_law 286 = .ok (.lshl, 1) := by decide +kernel
theorem d_La_law_287 : decode c_La_law 287 = .ok (.aload_n 0, 1) := by decide +kernel
theorem d_La_law_288 : decode c_La_law 288 = .ok (.iload 4, 2) := by decide +kernel
theorem d_La_law_290 : decode c_La_law 290 = .ok (.iconst 4, 1) := by decide +kernel
theorem d_La_law_291 : decode c_La_law 291 = .ok (.iadd, 1) := by decide +kernel
theorem d_La_law_292 : decode c_La_law 292 = .ok (.iaload, 1) := by decide +kernel
theorem d_La_law_293 : decode c_La_law 293 = .ok (.i2l, 1) := by decide +kernel
theorem d_La_law_294 : decode c_La_law 294 = .ok (.ldc2_w 56, 3) := by decide +kernel
theorem d_La_law_297 : decode c_La_law 297 = .ok (.land, 1) := by decide +kernel
theorem d_La_law_298 : decode c_La_law 298 = .ok (.lor, 1) := by decide +kernel
theorem d_La_law_299 : decode c_La_law 299 = .ok (.aload_n 0, 1) := by decide +kernel
theorem d_La_law_300 : decode c_La_law 300 = .ok (.iload 4, 2) := by decide +kernel
theorem d_La_law_302 : decode c_La_law 302 = .ok (.iconst 5, 1) := by decide +kernel
theorem d_La_law_303 : decode c_La_law 303 = .ok (.iadd, 1) := by decide +kernel
theorem d_La_law_304 : decode c_La_law 304 = .ok (.iaload, 1) := by decide +kernel
theorem d_La_law_305 : decode c_La_law 305 = .ok (.i2l, 1) := by decide +kernel
theorem d_La_law_306 : decode c_La_law 306 = .ok (.bipush 32, 2) := by decide +kernel
theorem d_La_law_308 : decode c_La_law 308 = .ok (.lshl, 1) := by decide +kernel
theorem d_La_law_309 : decode c_La_law 309 = .ok (.aload_n 0, 1) := by decide +kernel
theorem d_La_law_310 : decode c_La_law 310 = .ok (.iload 4, 2) := by decide +kernel
theorem d_La_law_312 : decode c_La_law 312 = .ok (.bipush 6, 2) := by decide +kernel
theorem d_La_law_314 : decode c_La_law 314 = .ok (.iadd, 1) := by decide +kernel
theorem d_La_law_315 : decode c_La_law 315 = .ok (.iaload, 1) := by decide +kernel
theorem d_La_law_316 : decode c_La_law 316 = .ok (.i2l, 1) := by decide +kernel
theorem d_La_law_317 : decode c_La_law 317 = .ok (.ldc2_w 56, 3) := by decide +kernel
theorem d_La_law_320 : decode c_La_law 320 = .ok (.land, 1) := by decide +kernel
theorem d_La_law_321 : decode c_La_law 321 = .ok (.lor, 1) := by decide +kernel
theorem d_La_law_322 : decode c_La_law 322 = .ok (.aload_n 3, 1) := by decide +kernel
theorem d_La_law_323 : decode c_La_law 323 = .ok (.invokestatic 64, 3) := by decide +kernel
theorem d_La_law_326 : decode c_La_law 326 = .ok (.istore 5, 2) := by decide +kernel
theorem d_La_law_328 : decode c_La_law 328 = .ok (.aload_n 2, 1) := by decide +kernel
theorem d_La_law_329 : decode c_La_law 329 = .ok (.aload_n 0, 1) := by decide +kernel
theorem d_La_law_330 : decode c_La_law 330 = .ok (.iload 4, 2) := by decide +kernel
theorem d_La_law_332 : decode c_La_law 332 = .ok (.iconst 1, 1) := by decide +kernel
theorem d_La_law_333 : decode c_La_law 333 = .ok (.iadd, 1) := by decide +kernel
theorem d_La_law_334 : decode c_La_law 334 = .ok (.iaload, 1) := by decide +kernel
theorem d_La_law_335 : decode c_La_law 335 = .ok (.i2l, 1) := by decide +kernel
theorem d_La_law_336 : decode c_La_law 336 = .ok (.bipush 32, 2) := by decide +kernel
theorem d_La_law_338 : decode c_La_law 338 = .ok (.lshl, 1) := by decide +kernel
theorem d_La_law_339 : decode c_La_law 339 = .ok (.aload_n 0, 1) := by decide +kernel
theorem d_La_law_340 : decode c_La_law 340 = .ok (.iload 4, 2) := by decide +kernel
theorem d_La_law_342 : decode c_La_law 342 = .ok (.iconst 2, 1) := by decide +kernel
theorem d_La_law_343 : decode c_La_law 343 = .ok (.iadd, 1) := by decide +kernel
theorem d_La_law_344 : decode c_La_law 344 = .ok (.iaload, 1) := by decide +kernel
theorem d_La_law_345 : decode c_La_law 345 = .ok (.i2l, 1) := by decide +kernel
theorem d_La_law_346 : decode c_La_law 346 = .ok (.ldc2_w 56, 3) := by decide +kernel
theorem d_La_law_349 : decode c_La_law 349 = .ok (.land, 1) := by decide +kernel
theorem d_La_law_350 : decode c_La_law 350 = .ok (.lor, 1) := by decide +kernel
theorem d_La_law_351 : decode c_La_law 351 = .ok (.aload_n 0, 1) := by decide +kernel
theorem d_La_law_352 : decode c_La_law 352 = .ok (.iload 4, 2) := by decide +kernel
theorem d_La_law_354 : decode c_La_law 354 = .ok (.iconst 3, 1) := by decide +kernel
theorem d_La_law_355 : decode c_La_law 355 = .ok (.iadd, 1) := by decide +kernel
theorem d_La_law_356 : decode c_La_law 356 = .ok (.iaload, 1) := by decide +kernel
theorem d_La_law_357 : decode c_La_law 357 = .ok (.i2l, 1) := by decide +kernel
theorem d_La_law_358 : decode c_La_law 358 = .ok (.bipush 32, 2) := by decide +kernel
theorem d_La_law_360 : decode c_La_law 360 = .ok (.lshl, 1) := by decide +kernel
theorem d_La_law_361 : decode c_La_law 361 = .ok (.aload_n 0, 1) := by decide +kernel
theorem d_La_law_362 : decode c_La_law 362 = .ok (.iload 4, 2) := by decide +kernel
theorem d_La_law_364 : decode c_La_law 364 = .ok (.iconst 4, 1) := by decide +kernel
theorem d_La_law_365 : decode c_La_law 365 = .ok (.iadd, 1) := by decide +kernel
theorem d_La_law_366 : decode c_La_law 366 = .ok (.iaload, 1) := by decide +kernel
theorem d_La_law_367 : decode c_La_law 367 = .ok (.i2l, 1) := by decide +kernel
theorem d_La_law_368 : decode c_La_law 368 = .ok (.ldc2_w 56, 3) := by decide +kernel
theorem d_La_law_371 : decode c_La_law 371 = .ok (.land, 1) := by decide +kernel
theorem d_La_law_372 : decode c_La_law 372 = .ok (.lor, 1) := by decide +kernel
theorem d_La_law_373 : decode c_La_law 373 = .ok (.aload_n 0, 1) := by decide +kernel
theorem d_La_law_374 : decode c_La_law 374 = .ok (.iload 4, 2) := by decide +kernel
theorem d_La_law_376 : decode c_La_law 376 = .ok (.iconst 5, 1) := by decide +kernel
theorem d_La_law_377 : decode c_La_law 377 = .ok (.iadd, 1) := by decide +kernel
theorem d_La_law_378 : decode c_La_law 378 = .ok (.iaload, 1) := by decide +kernel
theorem d_La_law_379 : decode c_La_law 379 = .ok (.i2l, 1) := by decide +kernel
theorem d_La_law_380 : decode c_La_law 380 = .ok (.bipush 32, 2) := by decide +kernel
theorem d_La_law_382 : decode c_La_law 382 = .ok (.lshl, 1) := by decide +kernel
theorem d_La_law_383 : decode c_La_law 383 = .ok (.aload_n 0, 1) := by decide +kernel
theorem d_La_law_384 : decode c_La_law 384 = .ok (.iload 4, 2) := by decide +kernel
theorem d_La_law_386 : decode c_La_law 386 = .ok (.bipush 6, 2) := by decide +kernel
theorem d_La_law_388 : decode c_La_law 388 = .ok (.iadd, 1) := by decide +kernel
theorem d_La_law_389 : decode c_La_law 389 = .ok (.iaload, 1) := by decide +kernel
theorem d_La_law_390 : decode c_La_law 390 = .ok (.i2l, 1) := by decide +kernel
theorem d_La_law_391 : decode c_La_law 391 = .ok (.ldc2_w 56, 3) := by decide +kernel
theorem d_La_law_394 : decode c_La_law 394 = .ok (.land, 1) := by decide +kernel
theorem d_La_law_395 : decode c_La_law 395 = .ok (.lor, 1) := by decide +kernel
theorem d_La_law_396 : decode c_La_law 396 = .ok (.invokevirtual 66, 3) := by decide +kernel
theorem d_La_law_399 : decode c_La_law 399 = .ok (.istore 6, 2) := by decide +kernel
theorem d_La_law_401 : decode c_La_law 401 = .ok (.goto 289, 3) := by decide +kernel
theorem d_La_law_404 : decode c_La_law 404 = .ok (.aload_n 1, 1) := by decide +kernel
theorem d_La_law_405 : decode c_La_law 405 = .ok (.aload_n 3, 1) := by decide +kernel
theorem d_La_law_406 : decode c_La_law 406 = .ok (.invokestatic 67, 3) := by decide +kernel
theorem d_La_law_409 : decode c_La_law 409 = .ok (.istore 5, 2) := by decide +kernel
theorem d_La_law_411 : decode c_La_law 411 = .ok (.aload_n 2, 1) := by decide +kernel
theorem d_La_law_412 : decode c_La_law 412 = .ok (.invokevirtual 70, 3) := by decide +kernel
theorem d_La_law_415 : decode c_La_law 415 = .ok (.istore 6, 2) := by decide +kernel
theorem d_La_law_417 : decode c_La_law 417 = .ok (.goto 273, 3) := by decide +kernel
theorem d_La_law_420 : decode c_La_law 420 = .ok (.aload_n 1, 1) := by decide +kernel
theorem d_La_law_421 : decode c_La_law 421 = .ok (.aload_n 3, 1) := by decide +kernel
theorem d_La_law_422 : decode c_La_law 422 = .ok (.invokestatic 71, 3) := by decide +kernel
theorem d_La_law_425 : decode c_La_law 425 = .ok (.istore 5, 2) := by decide +kernel
theorem d_La_law_427 : decode c_La_law 427 = .ok (.aload_n 2, 1) := by decide +kernel
theorem d_La_law_428 : decode c_La_law 428 = .ok (.invokevirtual 73, 3) := by decide +kernel
theorem d_La_law_431 : decode c_La_law 431 = .ok (.istore 6, 2) := by decide +kernel
theorem d_La_law_433 : decode c_La_law 433 = .ok (.goto 257, 3) := by decide +kernel
theorem d_La_law_436 : decode c_La_law 436 = .ok (.aload_n 1, 1) := by decide +kernel
theorem d_La_law_437 : decode c_La_law 437 = .ok (.aload_n 3, 1) := by decide +kernel
theorem d_La_law_438 : decode c_La_law 438 = .ok (.invokestatic 74, 3) := by decide +kernel
theorem d_La_law_441 : decode c_La_law 441 = .ok (.istore 5, 2) := by decide +kernel
theorem d_La_law_443 : decode c_La_law 443 = .ok (.aload_n 2, 1) := by decide +kernel
theorem d_La_law_444 : decode c_La_law 444 = .ok (.invokevirtual 76, 3) := by decide +kernel
theorem d_La_law_447 : decode c_La_law 447 = .ok (.istore 6, 2) := by decide +kernel
theorem d_La_law_449 : decode c_La_law 449 = .ok (.goto 241, 3) := by decide +kernel
theorem d_La_law_452 : decode c_La_law 452 = .ok (.aload_n 1, 1) := by decide +kernel
theorem d_La_law_453 : decode c_La_law 453 = .ok (.invokevirtual 77, 3) := by decide +kernel
theorem d_La_law_456 : decode c_La_law 456 = .ok (.pop, 1) := by decide +kernel
theorem d_La_law_457 : decode c_La_law 457 = .ok (.aload_n 2, 1) := by decide +kernel
theorem d_La_law_458 : decode c_La_law 458 = .ok (.invokevirtual 80, 3) := by decide +kernel
theorem d_La_law_461 : decode c_La_law 461 = .ok (.pop, 1) := by decide +kernel
theorem d_La_law_462 : decode c_La_law 462 = .ok (.goto 228, 3) := by decide +kernel
theorem d_La_law_465 : decode c_La_law 465 = .ok (.aload_n 1, 1) := by decide +kernel
theorem d_La_law_466 : decode c_La_law 466 = .ok (.aload_n 0, 1) := by decide +kernel
theorem d_La_law_467 : decode c_La_law 467 = .ok (.iload 4, 2) := by decide +kernel
theorem d_La_law_469 : decode c_La_law 469 = .ok (.iconst 1, 1) := by decide +kernel
theorem d_La_law_470 : decode c_La_law 470 = .ok (.iadd, 1) := by decide +kernel
theorem d_La_law_471 : decode c_La_law 471 = .ok (.iaload, 1) := by decide +kernel
theorem d_La_law_472 : decode c_La_law 472 = .ok (.aload_n 3, 1) := by decide +kernel
theorem d_La_law_473 : decode c_La_law 473 = .ok (.invokestatic 81, 3) := by decide +kernel
theorem d_La_law_476 : decode c_La_law 476 = .ok (.istore 5, 2) := by decide +kernel
theorem d_La_law_478 : decode c_La_law 478 = .ok (.aload_n 2, 1) := by decide +kernel
theorem d_La_law_479 : decode c_La_law 479 = .ok (.aload_n 0, 1) := by decide +kernel
theorem d_La_law_480 : decode c_La_law 480 = .ok (.iload 4, 2) := by decide +kernel
theorem d_La_law_482 : decode c_La_law 482 = .ok (.iconst 1, 1) := by decide +kernel
theorem d_La_law_483 : decode c_La_law 483 = .ok (.iadd, 1) := by decide +kernel
theorem d_La_law_484 : decode c_La_law 484 = .ok (.iaload, 1) := by decide +kernel
theorem d_La_law_485 : decode c_La_law 485 = .ok (.invokevirtual 84, 3) := by decide +kernel
theorem d_La_law_488 : decode c_La_law 488 = .ok (.istore 6, 2) := by decide +kernel
theorem d_La_law_490 : decode c_La_law 490 = .ok (.goto 200, 3) := by decide +kernel
theorem d_La_law_493 : decode c_La_law 493 = .ok (.aload_n 1, 1) := by decide +kernel
theorem d_La_law_494 : decode c_La_law 494 = .ok (.aload_n 0, 1) := by decide +kernel
theorem d_La_law_495 : decode c_La_law 495 = .ok (.iload 4, 2) := by decide +kernel
theorem d_La_law_497 : decode c_La_law 497 = .ok (.iconst 1, 1) := by decide +kernel
theorem d_La_law_498 : decode c_La_law 498 = .ok (.iadd, 1) := by decide +kernel
theorem d_La_law_499 : decode c_La_law 499 = .ok (.iaload, 1) := by decide +kernel
theorem d_La_law_500 : decode c_La_law 500 = .ok (.i2l, 1) := by decide +kernel
theorem d_La_law_501 : decode c_La_law 501 = .ok (.bipush 32, 2) := by decide +kernel
theorem d_La_law_503 : decode c_La_law 503 = .ok (.lshl, 1) := by decide +kernel
theorem d_La_law_504 : decode c_La_law 504 = .ok (.aload_n 0, 1) := by decide +kernel
theorem d_La_law_505 : decode c_La_law 505 = .ok (.iload 4, 2) := by decide +kernel
theorem d_La_law_507 : decode c_La_law 507 = .ok (.iconst 2, 1) := by decide +kernel
theorem d_La_law_508 : decode c_La_law 508 = .ok (.iadd, 1) := by decide +kernel
theorem d_La_law_509 : decode c_La_law 509 = .ok (.iaload, 1) := by decide +kernel
theorem d_La_law_510 : decode c_La_law 510 = .ok (.i2l, 1) := by decide +kernel
theorem d_La_law_511 : decode c_La_law 511 = .ok (.ldc2_w 56, 3) := by decide +kernel
theorem d_La_law_514 : decode c_La_law 514 = .ok (.land, 1) := by decide +kernel
theorem d_La_law_515 : decode c_La_law 515 = .ok (.lor, 1) := by decide +kernel
theorem d_La_law_516 : decode c_La_law 516 = .ok (.aload_n 0, 1) := by decide +kernel
theorem d_La_law_517 : decode c_La_law 517 = .ok (.iload 4, 2) := by decide +kernel
theorem d_La_law_519 : decode c_La_law 519 = .ok (.iconst 3, 1) := by decide +kernel
theorem d_La_law_520 : decode c_La_law 520 = .ok (.iadd, 1) := by decide +kernel
theorem d_La_law_521 : decode c_La_law 521 = .ok (.iaload, 1) := by decide +kernel
theorem d_La_law_522 : decode c_La_law 522 = .ok (.aload_n 3, 1) := by decide +kernel
theorem d_La_law_523 : decode c_La_law 523 = .ok (.invokestatic 85, 3) := by decide +kernel
theorem d_La_law_526 : decode c_La_law 526 = .ok (.istore 5, 2) := by decide +kernel
theorem d_La_law_528 : decode c_La_law 528 = .ok (.aload_n 2, 1) := by decide +kernel
theorem d_La_law_529 : decode c_La_law 529 = .ok (.aload_n 0, 1) := by decide +kernel
theorem d_La_law_530 : decode c_La_law 530 = .ok (.iload 4, 2) := by decide +kernel
theorem d_La_law_532 : decode c_La_law 532 = .ok (.iconst 1, 1) := by decide +kernel
theorem d_La_law_533 : decode c_La_law 533 = .ok (.iadd, 1) := by decide +kernel
theorem d_La_law_534 : decode c_La_law 534 = .ok (.iaload, 1) := by decide +kernel
theorem d_La_law_535 : decode c_La_law 535 = .ok (.i2l, 1) := by decide +kernel
theorem d_La_law_536 : decode c_La_law 536 = .ok (.bipush 32, 2) := by decide +kernel
theorem d_La_law_538 : decode c_La_law 538 = .ok (.lshl, 1) := by decide +kernel
theorem d_La_law_539 : decode c_La_law 539 = .ok (.aload_n 0, 1) := by decide +kernel
theorem d_La_law_540 : decode c_La_law 540 = .ok (.iload 4, 2) := by decide +kernel
theorem d_La_law_542 : decode c_La_law 542 = .ok (.iconst 2, 1) := by decide +kernel
theorem d_La_law_543 : decode c_La_law 543 = .ok (.iadd, 1) := by decide +kernel
theorem d_La_law_544 : decode c_La_law 544 = .ok (.iaload, 1) := by decide +kernel
theorem d_La_law_545 : decode c_La_law 545 = .ok (.i2l, 1) := by decide +kernel
theorem d_La_law_546 : decode c_La_law 546 = .ok (.ldc2_w 56, 3) := by decide +kernel
theorem d_La_law_549 : decode c_La_law 549 = .ok (.land, 1) := by decide +kernel
theorem d_La_law_550 : decode c_La_law 550 = .ok (.lor, 1) := by decide +kernel
theorem d_La_law_551 : decode c_La_law 551 = .ok (.aload_n 0, 1) := by decide +kernel
theorem d_La_law_552 : decode c_La_law 552 = .ok (.iload 4, 2) := by decide +kernel
theorem d_La_law_554 : decode c_La_law 554 = .ok (.iconst 3, 1) := by decide +kernel
theorem d_La_law_555 : decode c_La_law 555 = .ok (.iadd, 1) := by decide +kernel
theorem d_La_law_556 : decode c_La_law 556 = .ok (.iaload, 1) := by decide +kernel
theorem d_La_law_557 : decode c_La_law 557 = .ok (.invokevirtual 88, 3) := by decide +kernel
theorem d_La_law_560 : decode c_La_law 560 = .ok (.istore 6, 2) := by decide +kernel
theorem d_La_law_562 : decode c_La_law 562 = .ok (.aload_n 2, 1) := by decide +kernel
theorem d_La_law_563 : decode c_La_law 563 = .ok (.invokevirtual 89, 3) := by decide +kernel
theorem d_La_law_566 : decode c_La_law 566 = .ok (.iload 5, 2) := by decide +kernel
theorem d_La_law_568 : decode c_La_law 568 = .ok (.if_icmp .eq 5, 3) := by decide +kernel
theorem d_La_law_571 : decode c_La_law 571 = .ok (.iconst 0, 1) := by decide +kernel
theorem d_La_law_572 : decode c_La_law 572 = .ok (.ireturn, 1) := by decide +kernel
theorem d_La_law_573 : decode c_La_law 573 = .ok (.iload 5, 2) := by decide +kernel
theorem d_La_law_575 : decode c_La_law 575 = .ok (.ifCond .ne 15, 3) := by decide +kernel
theorem d_La_law_578 : decode c_La_law 578 = .ok (.aload_n 3, 1) := by decide +kernel
theorem d_La_law_579 : decode c_La_law 579 = .ok (.iconst 0, 1) := by decide +kernel
theorem d_La_law_580 : decode c_La_law 580 = .ok (.laload, 1) := by decide +kernel
theorem d_La_law_581 : decode c_La_law 581 = .ok (.iload 6, 2) := by decide +kernel
theorem d_La_law_583 : decode c_La_law 583 = .ok (.i2l, 1) := by decide +kernel
theorem d_La_law_584 : decode c_La_law 584 = .ok (.lcmp, 1) := by decide +kernel
theorem d_La_law_585 : decode c_La_law 585 = .ok (.ifCond .eq 5, 3) := by decide +kernel
theorem d_La_law_588 : decode c_La_law 588 = .ok (.iconst 0, 1) := by decide +kernel
theorem d_La_law_589 : decode c_La_law 589 = .ok (.ireturn, 1) := by decide +kernel
theorem d_La_law_590 : decode c_La_law 590 = .ok (.goto 100, 3) := by decide +kernel
theorem d_La_law_593 : decode c_La_law 593 = .ok (.aload_n 1, 1) := by decide +kernel
theorem d_La_law_594 : decode c_La_law 594 = .ok (.aload_n 3, 1) := by decide +kernel
theorem d_La_law_595 : decode c_La_law 595 = .ok (.invokestatic 92, 3) := by decide +kernel
theorem d_La_law_598 : decode c_La_law 598 = .ok (.istore 5, 2) := by decide +kernel
theorem d_La_law_600 : decode c_La_law 600 = .ok (.aload_n 2, 1) := by decide +kernel
theorem d_La_law_601 : decode c_La_law 601 = .ok (.invokevirtual 94, 3) := by decide +kernel
theorem d_La_law_604 : decode c_La_law 604 = .ok (.istore 6, 2) := by decide +kernel
theorem d_La_law_606 : decode c_La_law 606 = .ok (.goto 84, 3) := by decide +kernel
theorem d_La_law_609 : decode c_La_law 609 = .ok (.aload_n 1, 1) := by decide +kernel
theorem d_La_law_610 : decode c_La_law 610 = .ok (.invokevirtual 95, 3) := by decide +kernel
theorem d_La_law_613 : decode c_La_law 613 = .ok (.pop, 1) := by decide +kernel
theorem d_La_law_614 : decode c_La_law 614 = .ok (.aload_n 2, 1) := by decide +kernel
theorem d_La_law_615 : decode c_La_law 615 = .ok (.invokevirtual 98, 3) := by decide +kernel
theorem d_La_law_618 : decode c_La_law 618 = .ok (.pop, 1) := by decide +kernel
theorem d_La_law_619 : decode c_La_law 619 = .ok (.goto 71, 3) := by decide +kernel
theorem d_La_law_622 : decode c_La_law 622 = .ok (.aload_n 1, 1) := by decide +kernel
theorem d_La_law_623 : decode c_La_law 623 = .ok (.aload_n 0, 1) := by decide +kernel
theorem d_La_law_624 : decode c_La_law 624 = .ok (.iload 4, 2) := by decide +kernel
theorem d_La_law_626 : decode c_La_law 626 = .ok (.iconst 1, 1) := by decide +kernel
theorem d_La_law_627 : decode c_La_law 627 = .ok (.iadd, 1) := by decide +kernel
theorem d_La_law_628 : decode c_La_law 628 = .ok (.iaload, 1) := by decide +kernel
theorem d_La_law_629 : decode c_La_law 629 = .ok (.aload_n 0, 1) := by decide +kernel
theorem d_La_law_630 : decode c_La_law 630 = .ok (.iload 4, 2) := by decide +kernel
theorem d_La_law_632 : decode c_La_law 632 = .ok (.iconst 2, 1) := by decide +kernel
theorem d_La_law_633 : decode c_La_law 633 = .ok (.iadd, 1) := by decide +kernel
theorem d_La_law_634 : decode c_La_law 634 = .ok (.iaload, 1) := by decide +kernel
theorem d_La_law_635 : decode c_La_law 635 = .ok (.aload_n 3, 1) := by decide +kernel
theorem d_La_law_636 : decode c_La_law 636 = .ok (.invokestatic 99, 3) := by decide +kernel
theorem d_La_law_639 : decode c_La_law 639 = .ok (.istore 5, 2) := by decide +kernel
theorem d_La_law_641 : decode c_La_law 641 = .ok (.aload_n 2, 1) := by decide +kernel
theorem d_La_law_642 : decode c_La_law 642 = .ok (.aload_n 0, 1) := by decide +kernel
theorem d_La_law_643 : decode c_La_law 643 = .ok (.iload 4, 2) := by decide +kernel
theorem d_La_law_645 : decode c_La_law 645 = .ok (.iconst 1, 1) := by decide +kernel
theorem d_La_law_646 : decode c_La_law 646 = .ok (.iadd, 1) := by decide +kernel
theorem d_La_law_647 : decode c_La_law 647 = .ok (.iaload, 1) := by decide +kernel
theorem d_La_law_648 : decode c_La_law 648 = .ok (.aload_n 0, 1) := by decide +kernel
theorem d_La_law_649 : decode c_La_law 649 = .ok (.iload 4, 2) := by decide +kernel
theorem d_La_law_651 : decode c_La_law 651 = .ok (.iconst 2, 1) := by decide +kernel
theorem d_La_law_652 : decode c_La_law 652 = .ok (.iadd, 1) := by decide +kernel
theorem d_La_law_653 : decode c_La_law 653 = .ok (.iaload, 1) := by decide +kernel
theorem d_La_law_654 : decode c_La_law 654 = .ok (.invokevirtual 102, 3) := by decide +kernel
theorem d_La_law_657 : decode c_La_law 657 = .ok (.lstore 6, 2) := by decide +kernel
theorem d_La_law_659 : decode c_La_law 659 = .ok (.goto 31, 3) := by decide +kernel
theorem d_La_law_662 : decode c_La_law 662 = .ok (.aload_n 1, 1) := by decide +kernel
theorem d_La_law_663 : decode c_La_law 663 = .ok (.aload_n 0, 1) := by decide +kernel
theorem d_La_law_664 : decode c_La_law 664 = .ok (.iload 4, 2) := by decide +kernel
theorem d_La_law_666 : decode c_La_law 666 = .ok (.iconst 1, 1) := by decide +kernel
theorem d_La_law_667 : decode c_La_law 667 = .ok (.iadd, 1) := by decide +kernel
theorem d_La_law_668 : decode c_La_law 668 = .ok (.iaload, 1) := by decide +kernel
theorem d_La_law_669 : decode c_La_law 669 = .ok (.aload_n 3, 1) := by decide +kernel
theorem d_La_law_670 : decode c_La_law 670 = .ok (.invokestatic 103, 3) := by decide +kernel
theorem d_La_law_673 : decode c_La_law 673 = .ok (.istore 5, 2) := by decide +kernel
theorem d_La_law_675 : decode c_La_law 675 = .ok (.aload_n 2, 1) := by decide +kernel
theorem d_La_law_676 : decode c_La_law 676 = .ok (.aload_n 0, 1) := by decide +kernel
theorem d_La_law_677 : decode c_La_law 677 = .ok (.iload 4, 2) := by decide +kernel
theorem d_La_law_679 : decode c_La_law 679 = .ok (.iconst 1, 1) := by decide +kernel
theorem d_La_law_680 : decode c_La_law 680 = .ok (.iadd, 1) := by decide +kernel
theorem d_La_law_681 : decode c_La_law 681 = .ok (.iaload, 1) := by decide +kernel
theorem d_La_law_682 : decode c_La_law 682 = .ok (.invokevirtual 105, 3) := by decide +kernel
theorem d_La_law_685 : decode c_La_law 685 = .ok (.istore 6, 2) := by decide +kernel
theorem d_La_law_687 : decode c_La_law 687 = .ok (.goto 3, 3) := by decide +kernel
theorem d_La_law_690 : decode c_La_law 690 = .ok (.iinc 4 7, 3) := by decide +kernel
theorem d_La_law_693 : decode c_La_law 693 = .ok (.goto (-670), 3) := by decide +kernel
theorem d_La_law_696 : decode c_La_law 696 = .ok (.iconst 1, 1) := by decide +kernel
theorem d_La_law_697 : decode c_La_law 697 = .ok (.ireturn, 1) := by decide +kernel
theorem wi_La : Cond.initialized "TripleStoreLaw" ∈ gT := gT_at 0 (by decide +kernel) (by decide +kernel)
theorem ml_La_58 : Cond.methodLink "TripleStoreLaw" 58 y_La_add ∈ gT := gT_at 321 (by decide +kernel) (by decide +kernel)
theorem wt_La_add : Cond.static y_La_add ∈ gT := gT_at 322 (by decide +kernel) (by decide +kernel)
theorem gc_La_58 {X : gC} {cc : ByteArray} {M : List mC} {k n pc : Nat} {L : List (Nat × Value)} {st rest : List Value} {y0 : MethodName} {b0 : ByteArray} {nl0 : Nat} {ret0 : Option FieldType} {rm : Room} {As : List Value} {post : Option Value → List mC → Prop} (ok : gO X cc "TripleStoreLaw" (wsM y0 b0 nl0 ret0)) (hd : decode cc pc = .ok (.invokestatic 58, 3)) (hM : mm_ (gLa X) y_La_add w_La_add rm As M post) (hst : As.reverse ++ rest = st) (hn : As.length = 5) (hrest : (rest.map fun v => v.category).sum ≤ 8) (hR : gF X rm 9 k n) (hlen : ∀ r M', post r M' → M'.length = M.length) (kk : ∀ r M', post r M' → gg X M' (k + rm.cells) (n + rm.slots) (pc + 3) L (r.toList ++ rest)) : gg X M k n pc L st := g_callSW ok hM i_La_add ml_La_58 wt_La_add wi_La ⟨by decide, by decide, by rw [hn]; decide +kernel⟩ hd hst hrest hR hlen kk
theorem ml_La_64 : Cond.methodLink "TripleStoreLaw" 64 y_La_remove ∈ gT := gT_at 469 (by decide +kernel) (by decide +kernel)
theorem wt_La_remove : Cond.static y_La_remove ∈ gT := gT_at 470 (by decide +kernel) (by decide +kernel)
theorem gc_La_64 {X : gC} {cc : ByteArray} {M : List mC} {k n pc : Nat} {L : List (Nat × Value)} {st rest : List Value} {y0 : MethodName} {b0 : ByteArray} {nl0 : Nat} {ret0 : Option FieldType} {rm : Room} {As : List Value} {post : Option Value → List mC → Prop} (ok : gO X cc "TripleStoreLaw" (wsM y0 b0 nl0 ret0)) (hd : decode cc pc = .ok (.invokestatic 64, 3)) (hM : mm_ (gLa X) y_La_remove w_La_remove rm As M post) (hst : As.reverse ++ rest = st) (hn : As.length = 5) (hrest : (rest.map fun v => v.category).sum ≤ 8) (hR : gF X rm 9 k n) (hlen : ∀ r M', post r M' → M'.length = M.length) (kk : ∀ r M', post r M' → gg X M' (k + rm.cells) (n + rm.slots) (pc + 3) L (r.toList ++ rest)) : gg X M k n pc L st := g_callSW ok hM i_La_remove ml_La_64 wt_La_remove wi_La ⟨by decide, by decide, by rw [hn]; decide +kernel⟩ hd hst hrest hR hlen kk
theorem ml_La_67 : Cond.methodLink "TripleStoreLaw" 67 y_La_begin ∈ gT := gT_at 484 (by decide +kernel) (by decide +kernel)
theorem wt_La_begin : Cond.static y_La_begin ∈ gT := gT_at 485 (by decide +kernel) (by decide +kernel)
theorem gc_La_67 {X : gC} {cc : ByteArray} {M : List mC} {k n pc : Nat} {L : List (Nat × Value)} {st rest : List Value} {y0 : MethodName} {b0 : ByteArray} {nl0 : Nat} {ret0 : Option FieldType} {rm : Room} {As : List Value} {post : Option Value → List mC → Prop} (ok : gO X cc "TripleStoreLaw" (wsM y0 b0 nl0 ret0)) (hd : decode cc pc = .ok (.invokestatic 67, 3)) (hM : mm_ (gLa X) y_La_begin w_La_begin rm As M post) (hst : As.reverse ++ rest = st) (hn : As.length = 2) (hrest : (rest.map fun v => v.category).sum ≤ 8) (hR : gF X rm 3 k n) (hlen : ∀ r M', post r M' → M'.length = M.length) (kk : ∀ r M', post r M' → gg X M' (k + rm.cells) (n + rm.slots) (pc + 3) L (r.toList ++ rest)) : gg X M k n pc L st := g_callSW ok hM i_La_begin ml_La_67 wt_La_begin wi_La ⟨by decide, by decide, by rw [hn]; decide +kernel⟩ hd hst hrest hR hlen kk
theorem ml_La_71 : Cond.methodLink "TripleStoreLaw" 71 y_La_commit ∈ gT := gT_at 500 (by decide +kernel) (by decide +kernel)
theorem wt_La_commit : Cond.static y_La_commit ∈ gT := gT_at 501 (by decide +kernel) (by decide +kernel)
theorem gc_La_71 {X : gC} {cc : ByteArray} {M : List mC} {k n pc : Nat} {L : List (Nat × Value)} {st rest : List Value} {y0 : MethodName} {b0 : ByteArray} {nl0 : Nat} {ret0 : Option FieldType} {rm : Room} {As : List Value} {post : Option Value → List mC → Prop} (ok : gO X cc "TripleStoreLaw" (wsM y0 b0 nl0 ret0)) (hd : decode cc pc = .ok (.invokestatic 71, 3)) (hM : mm_ (gLa X) y_La_commit w_La_commit rm As M post) (hst : As.reverse ++ rest = st) (hn : As.length = 2) (hrest : (rest.map fun v => v.category).sum ≤ 8) (hR : gF X rm 3 k n) (hlen : ∀ r M', post r M' → M'.length = M.length) (kk : ∀ r M', post r M' → gg X M' (k + rm.cells) (n + rm.slots) (pc + 3) L (r.toList ++ rest)) : gg X M k n pc L st := g_callSW ok hM i_La_commit ml_La_71 wt_La_commit wi_La ⟨by decide, by decide, by rw [hn]; decide +kernel⟩ hd hst hrest hR hlen kk
theorem ml_La_74 : Cond.methodLink "TripleStoreLaw" 74 y_La_rollback ∈ gT := gT_at 512 (by decide +kernel) (by decide +kernel)
theorem wt_La_rollback : Cond.static y_La_rollback ∈ gT := gT_at 513 (by decide +kernel) (by decide +kernel)
theorem gc_La_74 {X : gC} {cc : ByteArray} {M : List mC} {k n pc : Nat} {L : List (Nat × Value)} {st rest : List Value} {y0 : MethodName} {b0 : ByteArray} {nl0 : Nat} {ret0 : Option FieldType} {rm : Room} {As : List Value} {post : Option Value → List mC → Prop} (ok : gO X cc "TripleStoreLaw" (wsM y0 b0 nl0 ret0)) (hd : decode cc pc = .ok (.invokestatic 74, 3)) (hM : mm_ (gLa X) y_La_rollback w_La_rollback rm As M post) (hst : As.reverse ++ rest = st) (hn : As.length = 2) (hrest : (rest.map fun v => v.category).sum ≤ 8) (hR : gF X rm 3 k n) (hlen : ∀ r M', post r M' → M'.length = M.length) (kk : ∀ r M', post r M' → gg X M' (k + rm.cells) (n + rm.slots) (pc + 3) L (r.toList ++ rest)) : gg X M k n pc L st := g_callSW ok hM i_La_rollback ml_La_74 wt_La_rollback wi_La ⟨by decide, by decide, by rw [hn]; decide +kernel⟩ hd hst hrest hR hlen kk
theorem ml_La_81 : Cond.methodLink "TripleStoreLaw" 81 y_La_crash ∈ gT := gT_at 543 (by decide +kernel) (by decide +kernel)
theorem wt_La_crash : Cond.static y_La_crash ∈ gT := gT_at 544 (by decide +kernel) (by decide +kernel)
theorem gc_La_81 {X : gC} {cc : ByteArray} {M : List mC} {k n pc : Nat} {L : List (Nat × Value)} {st rest : List Value} {y0 : MethodName} {b0 : ByteArray} {nl0 : Nat} {ret0 : Option FieldType} {rm : Room} {As : List Value} {post : Option Value → List mC → Prop} (ok : gO X cc "TripleStoreLaw" (wsM y0 b0 nl0 ret0)) (hd : decode cc pc = .ok (.invokestatic 81, 3)) (hM : mm_ (gLa X) y_La_crash w_La_crash rm As M post) (hst : As.reverse ++ rest = st) (hn : As.length = 3) (hrest : (rest.map fun v => v.category).sum ≤ 8) (hR : gF X rm 4 k n) (hlen : ∀ r M', post r M' → M'.length = M.length) (kk : ∀ r M', post r M' → gg X M' (k + rm.cells) (n + rm.slots) (pc + 3) L (r.toList ++ rest)) : gg X M k n pc L st := g_callSW ok hM i_La_crash ml_La_81 wt_La_crash wi_La ⟨by decide, by decide, by rw [hn]; decide +kernel⟩ hd hst hrest hR hlen kk
theorem ml_La_85 : Cond.methodLink "TripleStoreLaw" 85 y_La_append ∈ gT := gT_at 558 (by decide +kernel) (by decide +kernel)
theorem wt_La_append : Cond.static y_La_append ∈ gT := gT_at 559 (by decide +kernel) (by decide +kernel)
theorem gc_La_85 {X : gC} {cc : ByteArray} {M : List mC} {k n pc : Nat} {L : List (Nat × Value)} {st rest : List Value} {y0 : MethodName} {b0 : ByteArray} {nl0 : Nat} {ret0 : Option FieldType} {rm : Room} {As : List Value} {post : Option Value → List mC → Prop} (ok : gO X cc "TripleStoreLaw" (wsM y0 b0 nl0 ret0)) (hd : decode cc pc = .ok (.invokestatic 85, 3)) (hM : mm_ (gLa X) y_La_append w_La_append rm As M post) (hst : As.reverse ++ rest = st) (hn : As.length = 4) (hrest : (rest.map fun v => v.category).sum ≤ 8) (hR : gF X rm 6 k n) (hlen : ∀ r M', post r M' → M'.length = M.length) (kk : ∀ r M', post r M' → gg X M' (k + rm.cells) (n + rm.slots) (pc + 3) L (r.toList ++ rest)) : gg X M k n pc L st := g_callSW ok hM i_La_append ml_La_85 wt_La_append wi_La ⟨by decide, by decide, by rw [hn]; decide +kernel⟩ hd hst hrest hR hlen kk
theorem ml_La_92 : Cond.methodLink "TripleStoreLaw" 92 y_La_ask ∈ gT := gT_at 573 (by decide +kernel) (by decide +kernel)
theorem wt_La_ask : Cond.static y_La_ask ∈ gT := gT_at 574 (by decide +kernel) (by decide +kernel)
theorem gc_La_92 {X : gC} {cc : ByteArray} {M : List mC} {k n pc : Nat} {L : List (Nat × Value)} {st rest : List Value} {y0 : MethodName} {b0 : ByteArray} {nl0 : Nat} {ret0 : Option FieldType} {rm : Room} {As : List Value} {post : Option Value → List mC → Prop} (ok : gO X cc "TripleStoreLaw" (wsM y0 b0 nl0 ret0)) (hd : decode cc pc = .ok (.invokestatic 92, 3)) (hM : mm_ (gLa X) y_La_ask w_La_ask rm As M post) (hst : As.reverse ++ rest = st) (hn : As.length = 2) (hrest : (rest.map fun v => v.category).sum ≤ 8) (hR : gF X rm 3 k n) (hlen : ∀ r M', post r M' → M'.length = M.length) (kk : ∀ r M', post r M' → gg X M' (k + rm.cells) (n + rm.slots) (pc + 3) L (r.toList ++ rest)) : gg X M k n pc L st := g_callSW ok hM i_La_ask ml_La_92 wt_La_ask wi_La ⟨by decide, by decide, by rw [hn]; decide +kernel⟩ hd hst hrest hR hlen kk
theorem ml_La_99 : Cond.methodLink "TripleStoreLaw" 99 y_La_cell2 ∈ gT := gT_at 891 (by decide +kernel) (by decide +kernel)
theorem wt_La_cell2 : Cond.static y_La_cell2 ∈ gT := gT_at 892 (by decide +kernel) (by decide +kernel)
theorem gc_La_99 {X : gC} {cc : ByteArray} {M : List mC} {k n pc : Nat} {L : List (Nat × Value)} {st rest : List Value} {y0 : MethodName} {b0 : ByteArray} {nl0 : Nat} {ret0 : Option FieldType} {rm : Room} {As : List Value} {post : Option Value → List mC → Prop} (ok : gO X cc "TripleStoreLaw" (wsM y0 b0 nl0 ret0)) (hd : decode cc pc = .ok (.invokestatic 99, 3)) (hM : mm_ (gLa X) y_La_cell2 w_La_cell2 rm As M post) (hst : As.reverse ++ rest = st) (hn : As.length = 4) (hrest : (rest.map fun v => v.category).sum ≤ 8) (hR : gF X rm 5 k n) (hlen : ∀ r M', post r M' → M'.length = M.length) (kk : ∀ r M', post r M' → gg X M' (k + rm.cells) (n + rm.slots) (pc + 3) L (r.toList ++ rest)) : gg X M k n pc L st := g_callSW ok hM i_La_cell2 ml_La_99 wt_La_cell2 wi_La ⟨by decide, by decide, by rw [hn]; decide +kernel⟩ hd hst hrest hR hlen kk
theorem ml_La_103 : Cond.methodLink "TripleStoreLaw" 103 y_La_count ∈ gT := gT_at 945 (by decide +kernel) (by decide +kernel)
theorem wt_La_count : Cond.static y_La_count ∈ gT := gT_at 946 (by decide +kernel) (by decide +kernel)
theorem gc_La_103 {X : gC} {cc : ByteArray} {M : List mC} {k n pc : Nat} {L : List (Nat × Value)} {st rest : List Value} {y0 : MethodName} {b0 : ByteArray} {nl0 : Nat} {ret0 : Option FieldType} {rm : Room} {As : List Value} {post : Option Value → List mC → Prop} (ok : gO X cc "TripleStoreLaw" (wsM y0 b0 nl0 ret0)) (hd : decode cc pc = .ok (.invokestatic 103, 3)) (hM : mm_ (gLa X) y_La_count w_La_count rm As M post) (hst : As.reverse ++ rest = st) (hn : As.length = 3) (hrest : (rest.map fun v => v.category).sum ≤ 8) (hR : gF X rm 4 k n) (hlen : ∀ r M', post r M' → M'.length = M.length) (kk : ∀ r M', post r M' → gg X M' (k + rm.cells) (n + rm.slots) (pc + 3) L (r.toList ++ rest)) : gg X M k n pc L st := g_callSW ok hM i_La_count ml_La_103 wt_La_count wi_La ⟨by decide, by decide, by rw [hn]; decide +kernel⟩ hd hst hrest hR hlen kk
