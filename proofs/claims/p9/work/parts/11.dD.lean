theorem d_Mo_init_0 : decode c_Mo_init 0 = .ok (.aload_n 0, 1) := by decide +kernel
theorem d_Mo_init_1 : decode c_Mo_init 1 = .ok (.invokespecial 1, 3) := by decide +kernel
theorem d_Mo_init_4 : decode c_Mo_init 4 = .ok (.aload_n 0, 1) := by decide +kernel
theorem d_Mo_init_5 : decode c_Mo_init 5 = .ok (.sipush 144, 3) := by decide +kernel
theorem d_Mo_init_8 : decode c_Mo_init 8 = .ok (.newarray .long, 2) := by decide +kernel
theorem d_Mo_init_10 : decode c_Mo_init 10 = .ok (.putfield 7, 3) := by decide +kernel
theorem d_Mo_init_13 : decode c_Mo_init 13 = .ok (.aload_n 0, 1) := by decide +kernel
theorem d_Mo_init_14 : decode c_Mo_init 14 = .ok (.sipush 144, 3) := by decide +kernel
theorem d_Mo_init_17 : decode c_Mo_init 17 = .ok (.newarray .long, 2) := by decide +kernel
theorem d_Mo_init_19 : decode c_Mo_init 19 = .ok (.putfield 13, 3) := by decide +kernel
theorem d_Mo_init_22 : decode c_Mo_init 22 = .ok (.aload_n 0, 1) := by decide +kernel
theorem d_Mo_init_23 : decode c_Mo_init 23 = .ok (.sipush 2400, 3) := by decide +kernel
theorem d_Mo_init_26 : decode c_Mo_init 26 = .ok (.newarray .long, 2) := by decide +kernel
theorem d_Mo_init_28 : decode c_Mo_init 28 = .ok (.putfield 16, 3) := by decide +kernel
theorem d_Mo_init_31 : decode c_Mo_init 31 = .ok (.aload_n 0, 1) := by decide +kernel
theorem d_Mo_init_32 : decode c_Mo_init 32 = .ok (.sipush 800, 3) := by decide +kernel
theorem d_Mo_init_35 : decode c_Mo_init 35 = .ok (.newarray .boolean, 2) := by decide +kernel
theorem d_Mo_init_37 : decode c_Mo_init 37 = .ok (.putfield 19, 3) := by decide +kernel
theorem d_Mo_init_40 : decode c_Mo_init 40 = .ok (.aload_n 0, 1) := by decide +kernel
theorem d_Mo_init_41 : decode c_Mo_init 41 = .ok (.sipush 800, 3) := by decide +kernel
theorem d_Mo_init_44 : decode c_Mo_init 44 = .ok (.newarray .int, 2) := by decide +kernel
theorem d_Mo_init_46 : decode c_Mo_init 46 = .ok (.putfield 23, 3) := by decide +kernel
theorem d_Mo_init_49 : decode c_Mo_init 49 = .ok (.aload_n 0, 1) := by decide +kernel
theorem d_Mo_init_50 : decode c_Mo_init 50 = .ok (.sipush 160, 3) := by decide +kernel
theorem d_Mo_init_53 : decode c_Mo_init 53 = .ok (.newarray .int, 2) := by decide +kernel
theorem d_Mo_init_55 : decode c_Mo_init 55 = .ok (.putfield 27, 3) := by decide +kernel
theorem d_Mo_init_58 : decode c_Mo_init 58 = .ok (.aload_n 0, 1) := by decide +kernel
theorem d_Mo_init_59 : decode c_Mo_init 59 = .ok (.iconst (-1), 1) := by decide +kernel
theorem d_Mo_init_60 : decode c_Mo_init 60 = .ok (.putfield 30, 3) := by decide +kernel
theorem d_Mo_init_63 : decode c_Mo_init 63 = .ok (.aload_n 0, 1) := by decide +kernel
theorem d_Mo_init_64 : decode c_Mo_init 64 = .ok (.bipush 6, 2) := by decide +kernel
theorem d_Mo_init_66 : decode c_Mo_init 66 = .ok (.newarray .long, 2) := by decide +kernel
theorem d_Mo_init_68 : decode c_Mo_init 68 = .ok (.putfield 34, 3) := by decide +kernel
theorem d_Mo_init_71 : decode c_Mo_init 71 = .ok (.aload_n 0, 1) := by decide +kernel
theorem d_Mo_init_72 : decode c_Mo_init 72 = .ok (.iconst 5, 1) := by decide +kernel
theorem d_Mo_init_73 : decode c_Mo_init 73 = .ok (.newarray .int, 2) := by decide +kernel
theorem d_Mo_init_75 : decode c_Mo_init 75 = .ok (.putfield 37, 3) := by decide +kernel
theorem d_Mo_init_78 : decode c_Mo_init 78 = .ok (.aload_n 0, 1) := by decide +kernel
theorem d_Mo_init_79 : decode c_Mo_init 79 = .ok (.iconst 5, 1) := by decide +kernel
theorem d_Mo_init_80 : decode c_Mo_init 80 = .ok (.newarray .int, 2) := by decide +kernel
theorem d_Mo_init_82 : decode c_Mo_init 82 = .ok (.putfield 40, 3) := by decide +kernel
theorem d_Mo_init_85 : decode c_Mo_init 85 = .ok (.aload_n 0, 1) := by decide +kernel
theorem d_Mo_init_86 : decode c_Mo_init 86 = .ok (.sipush 400, 3) := by decide +kernel
theorem d_Mo_init_89 : decode c_Mo_init 89 = .ok (.newarray .int, 2) := by decide +kernel
theorem d_Mo_init_91 : decode c_Mo_init 91 = .ok (.putfield 43, 3) := by decide +kernel
theorem d_Mo_init_94 : decode c_Mo_init 94 = .ok (.aload_n 0, 1) := by decide +kernel
theorem d_Mo_init_95 : decode c_Mo_init 95 = .ok (.sipush 400, 3) := by decide +kernel
theorem d_Mo_init_98 : decode c_Mo_init 98 = .ok (.newarray .int, 2) := by decide +kernel
theorem d_Mo_init_100 : decode c_Mo_init 100 = .ok (.putfield 46, 3) := by decide +kernel
theorem d_Mo_init_103 : decode c_Mo_init 103 = .ok (.aload_n 0, 1) := by decide +kernel
theorem d_Mo_init_104 : decode c_Mo_init 104 = .ok (.bipush 120, 2) := by decide +kernel
theorem d_Mo_init_106 : decode c_Mo_init 106 = .ok (.newarray .int, 2) := by decide +kernel
theorem d_Mo_init_108 : decode c_Mo_init 108 = .ok (.putfield 49, 3) := by decide +kernel
theorem d_Mo_init_111 : decode c_Mo_init 111 = .ok (.aload_n 0, 1) := by decide +kernel
theorem d_Mo_init_112 : decode c_Mo_init 112 = .ok (.bipush 120, 2) := by decide +kernel
theorem d_Mo_init_114 : decode c_Mo_init 114 = .ok (.newarray .long, 2) := by decide +kernel
theorem d_Mo_init_116 : decode c_Mo_init 116 = .ok (.putfield 52, 3) := by decide +kernel
theorem d_Mo_init_119 : decode c_Mo_init 119 = .ok (.aload_n 0, 1) := by decide +kernel
theorem d_Mo_init_120 : decode c_Mo_init 120 = .ok (.bipush 14, 2) := by decide +kernel
theorem d_Mo_init_122 : decode c_Mo_init 122 = .ok (.newarray .int, 2) := by decide +kernel
theorem d_Mo_init_124 : decode c_Mo_init 124 = .ok (.putfield 55, 3) := by decide +kernel
theorem d_Mo_init_127 : decode c_Mo_init 127 = .ok (.aload_n 0, 1) := by decide +kernel
theorem d_Mo_init_128 : decode c_Mo_init 128 = .ok (.bipush 14, 2) := by decide +kernel
theorem d_Mo_init_130 : decode c_Mo_init 130 = .ok (.newarray .int, 2) := by decide +kernel
theorem d_Mo_init_132 : decode c_Mo_init 132 = .ok (.putfield 58, 3) := by decide +kernel
theorem d_Mo_init_135 : decode c_Mo_init 135 = .ok (.aload_n 0, 1) := by decide +kernel
theorem d_Mo_init_136 : decode c_Mo_init 136 = .ok (.bipush 14, 2) := by decide +kernel
theorem d_Mo_init_138 : decode c_Mo_init 138 = .ok (.newarray .boolean, 2) := by decide +kernel
theorem d_Mo_init_140 : decode c_Mo_init 140 = .ok (.putfield 61, 3) := by decide +kernel
theorem d_Mo_init_143 : decode c_Mo_init 143 = .ok (.aload_n 0, 1) := by decide +kernel
theorem d_Mo_init_144 : decode c_Mo_init 144 = .ok (.bipush 80, 2) := by decide +kernel
theorem d_Mo_init_146 : decode c_Mo_init 146 = .ok (.newarray .int, 2) := by decide +kernel
theorem d_Mo_init_148 : decode c_Mo_init 148 = .ok (.putfield 64, 3) := by decide +kernel
theorem d_Mo_init_151 : decode c_Mo_init 151 = .ok (.aload_n 0, 1) := by decide +kernel
theorem d_Mo_init_152 : decode c_Mo_init 152 = .ok (.iconst 5, 1) := by decide +kernel
theorem d_Mo_init_153 : decode c_Mo_init 153 = .ok (.newarray .int, 2) := by decide +kernel
theorem d_Mo_init_155 : decode c_Mo_init 155 = .ok (.putfield 67, 3) := by decide +kernel
theorem d_Mo_init_158 : decode c_Mo_init 158 = .ok (.aload_n 0, 1) := by decide +kernel
theorem d_Mo_init_159 : decode c_Mo_init 159 = .ok (.sipush 9900, 3) := by decide +kernel
theorem d_Mo_init_162 : decode c_Mo_init 162 = .ok (.newarray .long, 2) := by decide +kernel
theorem d_Mo_init_164 : decode c_Mo_init 164 = .ok (.putfield 70, 3) := by decide +kernel
theorem d_Mo_init_167 : decode c_Mo_init 167 = .ok (.aload_n 0, 1) := by decide +kernel
theorem d_Mo_init_168 : decode c_Mo_init 168 = .ok (.sipush 1650, 3) := by decide +kernel
theorem d_Mo_init_171 : decode c_Mo_init 171 = .ok (.newarray .int, 2) := by decide +kernel
theorem d_Mo_init_173 : decode c_Mo_init 173 = .ok (.putfield 73, 3) := by decide +kernel
theorem d_Mo_init_176 : decode c_Mo_init 176 = .ok (.aload_n 0, 1) := by decide +kernel
theorem d_Mo_init_177 : decode c_Mo_init 177 = .ok (.bipush 11, 2) := by decide +kernel
theorem d_Mo_init_179 : decode c_Mo_init 179 = .ok (.newarray .int, 2) := by decide +kernel
theorem d_Mo_init_181 : decode c_Mo_init 181 = .ok (.putfield 76, 3) := by decide +kernel
theorem d_Mo_init_184 : decode c_Mo_init 184 = .ok (.aload_n 0, 1) := by decide +kernel
theorem d_Mo_init_185 : decode c_Mo_init 185 = .ok (.sipush 900, 3) := by decide +kernel
theorem d_Mo_init_188 : decode c_Mo_init 188 = .ok (.newarray .long, 2) := by decide +kernel
theorem d_Mo_init_190 : decode c_Mo_init 190 = .ok (.putfield 79, 3) := by decide +kernel
theorem d_Mo_init_193 : decode c_Mo_init 193 = .ok (.aload_n 0, 1) := by decide +kernel
theorem d_Mo_init_194 : decode c_Mo_init 194 = .ok (.sipush 150, 3) := by decide +kernel
theorem d_Mo_init_197 : decode c_Mo_init 197 = .ok (.newarray .int, 2) := by decide +kernel
theorem d_Mo_init_199 : decode c_Mo_init 199 = .ok (.putfield 82, 3) := by decide +kernel
theorem d_Mo_init_202 : decode c_Mo_init 202 = .ok (.aload_n 0, 1) := by decide +kernel
theorem d_Mo_init_203 : decode c_Mo_init 203 = .ok (.sipush 150, 3) := by decide +kernel
theorem d_Mo_init_206 : decode c_Mo_init 206 = .ok (.newarray .int, 2) := by decide +kernel
theorem d_Mo_init_208 : decode c_Mo_init 208 = .ok (.putfield 85, 3) := by decide +kernel
theorem d_Mo_init_211 : decode c_Mo_init 211 = .ok (.aload_n 0, 1) := by decide +kernel
theorem d_Mo_init_212 : decode c_Mo_init 212 = .ok (.bipush 80, 2) := by decide +kernel
theorem d_Mo_init_214 : decode c_Mo_init 214 = .ok (.newarray .int, 2) := by decide +kernel
theorem d_Mo_init_216 : decode c_Mo_init 216 = .ok (.putfield 88, 3) := by decide +kernel
theorem d_Mo_init_219 : decode c_Mo_init 219 = .ok (.return_, 1) := by decide +kernel
theorem d_Mo_thrown_0 : decode c_Mo_thrown 0 = .ok (.aload_n 0, 1) := by decide +kernel
theorem d_Mo_thrown_1 : decode c_Mo_thrown 1 = .ok (.getfield 91, 3) := by decide +kernel
theorem d_Mo_thrown_4 : decode c_Mo_thrown 4 = .ok (.ireturn, 1) := by decide +kernel
theorem d_Mo_in_0 : decode c_Mo_in 0 = .ok (.iload_n 0, 1) := by decide +kernel
theorem d_Mo_in_1 : decode c_Mo_in 1 = .ok (.iload_n 1, 1) := by decide +kernel
theorem d_Mo_in_2 : decode c_Mo_in 2 = .ok (.if_icmp .lt 12, 3) := by decide +kernel
theorem d_Mo_in_5 : decode c_Mo_in 5 = .ok (.iload_n 0, 1) := by decide +kernel
theorem d_Mo_in_6 : decode c_Mo_in 6 = .ok (.iload_n 2, 1) := by decide +kernel
theorem d_Mo_in_7 : decode c_Mo_in 7 = .ok (.if_icmp .gt 7, 3) := by decide +kernel
theorem d_Mo_in_10 : decode c_Mo_in 10 = .ok (.iconst 1, 1) := by decide +kernel
theorem d_Mo_in_11 : decode c_Mo_in 11 = .ok (.goto 4, 3) := by decide +kernel
theorem d_Mo_in_14 : decode c_Mo_in 14 = .ok (.iconst 0, 1) := by decide +kernel
theorem d_Mo_in_15 : decode c_Mo_in 15 = .ok (.ireturn, 1) := by decide +kernel
theorem d_Mo_good_0 : decode c_Mo_good 0 = .ok (.aload_n 0, 1) := by decide +kernel
theorem d_Mo_good_1 : decode c_Mo_good 1 = .ok (.iload_n 1, 1) := by decide +kernel
theorem d_Mo_good_2 : decode c_Mo_good 2 = .ok (.ifCond .eq 7, 3) := by decide +kernel
theorem d_Mo_good_5 : decode c_Mo_good 5 = .ok (.iconst 0, 1) := by decide +kernel
theorem d_Mo_good_6 : decode c_Mo_good 6 = .ok (.goto 4, 3) := by decide +kernel
theorem d_Mo_good_9 : decode c_Mo_good 9 = .ok (.iload_n 2, 1) := by decide +kernel
theorem d_Mo_good_10 : decode c_Mo_good 10 = .ok (.putfield 91, 3) := by decide +kernel
theorem d_Mo_good_13 : decode c_Mo_good 13 = .ok (.iload_n 1, 1) := by decide +kernel
theorem d_Mo_good_14 : decode c_Mo_good 14 = .ok (.ireturn, 1) := by decide +kernel
theorem d_Mo_isWord_0 : decode c_Mo_isWord 0 = .ok (.lload_n 0, 1) := by decide +kernel
theorem d_Mo_isWord_1 : decode c_Mo_isWord 1 = .ok (.lconst 0, 1) := by decide +kernel
theorem d_Mo_isWord_2 : decode c_Mo_isWord 2 = .ok (.lcmp, 1) := by decide +kernel
theorem d_Mo_isWord_3 : decode c_Mo_isWord 3 = .ok (.ifCond .gt 5, 3) := by decide +kernel
theorem d_Mo_isWord_6 : decode c_Mo_isWord 6 = .ok (.iconst 0, 1) := by decide +kernel
theorem d_Mo_isWord_7 : decode c_Mo_isWord 7 = .ok (.ireturn, 1) := by decide +kernel
theorem d_Mo_isWord_8 : decode c_Mo_isWord 8 = .ok (.iconst 0, 1) := by decide +kernel
theorem d_Mo_isWord_9 : decode c_Mo_isWord 9 = .ok (.istore_n 2, 1) := by decide +kernel
theorem d_Mo_isWord_10 : decode c_Mo_isWord 10 = .ok (.iconst 0, 1) := by decide +kernel
theorem d_Mo_isWord_11 : decode c_Mo_isWord 11 = .ok (.istore_n 3, 1) := by decide +kernel
theorem d_Mo_isWord_12 : decode c_Mo_isWord 12 = .ok (.iload_n 3, 1) := by decide +kernel
theorem d_Mo_isWord_13 : decode c_Mo_isWord 13 = .ok (.bipush 8, 2) := by decide +kernel
theorem d_Mo_isWord_15 : decode c_Mo_isWord 15 = .ok (.if_icmp .ge 59, 3) := by decide +kernel
theorem d_Mo_isWord_18 : decode c_Mo_isWord 18 = .ok (.lload_n 0, 1) := by decide +kernel
theorem d_Mo_isWord_19 : decode c_Mo_isWord 19 = .ok (.bipush 8, 2) := by decide +kernel
theorem d_Mo_isWord_21 : decode c_Mo_isWord 21 = .ok (.iload_n 3, 1) := by decide +kernel
theorem d_Mo_isWord_22 : decode c_Mo_isWord 22 = .ok (.imul, 1) := by decide +kernel
theorem d_Mo_isWord_23 : decode c_Mo_isWord 23 = .ok (.lshr, 1) := by decide +kernel
theorem d_Mo_isWord_24 : decode c_Mo_isWord 24 = .ok (.l2i, 1) := by decide +kernel
theorem d_Mo_isWord_25 : decode c_Mo_isWord 25 = .ok (.sipush 255, 3) := by decide +kernel
theorem d_Mo_isWord_28 : decode c_Mo_isWord 28 = .ok (.iand, 1) := by decide +kernel
theorem d_Mo_isWord_29 : decode c_Mo_isWord 29 = .ok (.istore 4, 2) := by decide +kernel
theorem d_Mo_isWord_31 : decode c_Mo_isWord 31 = .ok (.iload 4, 2) := by decide +kernel
theorem d_Mo_isWord_33 : decode c_Mo_isWord 33 = .ok (.ifCond .ne 10, 3) := by decide +kernel
theorem d_Mo_isWord_36 : decode c_Mo_isWord 36 = .ok (.iload_n 3, 1) := by decide +kernel
theorem d_Mo_isWord_37 : decode c_Mo_isWord 37 = .ok (.ifCond .ne 24, 3) := by decide +kernel
theorem d_Mo_isWord_40 : decode c_Mo_isWord 40 = .ok (.goto 19, 3) := by decide +kernel
theorem d_Mo_isWord_43 : decode c_Mo_isWord 43 = .ok (.iload_n 2, 1) := by decide +kernel
theorem d_Mo_isWord_44 : decode c_Mo_isWord 44 = .ok (.ifCond .ne 15, 3) := by decide +kernel
theorem d_Mo_isWord_47 : decode c_Mo_isWord 47 = .ok (.iload 4, 2) := by decide +kernel
theorem d_Mo_isWord_49 : decode c_Mo_isWord 49 = .ok (.bipush 97, 2) := by decide +kernel
theorem d_Mo_isWord_51 : decode c_Mo_isWord 51 = .ok (.bipush 122, 2) := by decide +kernel
theorem d_Mo_isWord_53 : decode c_Mo_isWord 53 = .ok (.invokestatic 94, 3) := by decide +kernel
theorem d_Mo_isWord_56 : decode c_Mo_isWord 56 = .ok (.ifCond .ne 5, 3) := by decide +kernel
theorem d_Mo_isWord_59 : decode c_Mo_isWord 59 = .ok (.iconst 0, 1) := by decide +kernel
theorem d_Mo_isWord_60 : decode c_Mo_isWord 60 = .ok (.ireturn, 1) := by decide +kernel
theorem d_Mo_isWord_61 : decode c_Mo_isWord 61 = .ok (.iload 4, 2) := by decide +kernel
theorem d_Mo_isWord_63 : decode c_Mo_isWord 63 = .ok (.ifCond .ne 5, 3) := by decide +kernel
theorem d_Mo_isWord_66 : decode c_Mo_isWord 66 = .ok (.iconst 1, 1) := by decide +kernel
theorem d_Mo_isWord_67 : decode c_Mo_isWord 67 = .ok (.istore_n 2, 1) := by decide +kernel
theorem d_Mo_isWord_68 : decode c_Mo_isWord 68 = .ok (.iinc 3 1, 3) := by decide +kernel
theorem d_Mo_isWord_71 : decode c_Mo_isWord 71 = .ok (.goto (-59), 3) := by decide +kernel
theorem d_Mo_isWord_74 : decode c_Mo_isWord 74 = .ok (.iconst 1, 1) := by decide +kernel
theorem d_Mo_isWord_75 : decode c_Mo_isWord 75 = .ok (.ireturn, 1) := by decide +kernel
theorem d_Mo_isNumber_0 : decode c_Mo_isNumber 0 = .ok (.lload_n 0, 1) := by decide +kernel
theorem d_Mo_isNumber_1 : decode c_Mo_isNumber 1 = .ok (.ldc2_w 98, 3) := by decide +kernel
theorem d_Mo_isNumber_4 : decode c_Mo_isNumber 4 = .ok (.lcmp, 1) := by decide +kernel
theorem d_Mo_isNumber_5 : decode c_Mo_isNumber 5 = .ok (.ifCond .gt 15, 3) := by decide +kernel
theorem d_Mo_isNumber_8 : decode c_Mo_isNumber 8 = .ok (.lload_n 0, 1) := by decide +kernel
theorem d_Mo_isNumber_9 : decode c_Mo_isNumber 9 = .ok (.ldc2_w 100, 3) := by decide +kernel
theorem d_Mo_isNumber_12 : decode c_Mo_isNumber 12 = .ok (.lcmp, 1) := by decide +kernel
theorem d_Mo_isNumber_13 : decode c_Mo_isNumber 13 = .ok (.ifCond .lt 7, 3) := by decide +kernel
theorem d_Mo_isNumber_16 : decode c_Mo_isNumber 16 = .ok (.iconst 1, 1) := by decide +kernel
theorem d_Mo_isNumber_17 : decode c_Mo_isNumber 17 = .ok (.goto 4, 3) := by decide +kernel
theorem d_Mo_isNumber_20 : decode c_Mo_isNumber 20 = .ok (.iconst 0, 1) := by decide +kernel
theorem d_Mo_isNumber_21 : decode c_Mo_isNumber 21 = .ok (.ireturn, 1) := by decide +kernel
theorem d_Mo_compare_0 : decode c_Mo_compare 0 = .ok (.lload_n 0, 1) := by decide +kernel
theorem d_Mo_compare_1 : decode c_Mo_compare 1 = .ok (.lload_n 2, 1) := by decide +kernel
theorem d_Mo_compare_2 : decode c_Mo_compare 2 = .ok (.lcmp, 1) := by decide +kernel
theorem d_Mo_compare_3 : decode c_Mo_compare 3 = .ok (.ifCond .ne 5, 3) := by decide +kernel
theorem d_Mo_compare_6 : decode c_Mo_compare 6 = .ok (.iconst 0, 1) := by decide +kernel
theorem d_Mo_compare_7 : decode c_Mo_compare 7 = .ok (.ireturn, 1) := by decide +kernel
theorem d_Mo_compare_8 : decode c_Mo_compare 8 = .ok (.lload_n 0, 1) := by decide +kernel
theorem d_Mo_compare_9 : decode c_Mo_compare 9 = .ok (.lconst 0, 1) := by decide +kernel
theorem d_Mo_compare_10 : decode c_Mo_compare 10 = .ok (.lcmp, 1) := by decide +kernel
theorem d_Mo_compare_11 : decode c_Mo_compare 11 = .ok (.ifCond .lt 9, 3) := by decide +kernel
theorem d_Mo_compare_14 : decode c_Mo_compare 14 = .ok (.lload_n 2, 1) := by decide +kernel
theorem d_Mo_compare_15 : decode c_Mo_compare 15 = .ok (.lconst 0, 1) := by decide +kernel
theorem d_Mo_compare_16 : decode c_Mo_compare 16 = .ok (.lcmp, 1) := by decide +kernel
theorem d_Mo_compare_17 : decode c_Mo_compare 17 = .ok (.ifCond .ge 39, 3) := by decide +kernel
theorem d_Mo_compare_20 : decode c_Mo_compare 20 = .ok (.lload_n 0, 1) := by decide +kernel
theorem d_Mo_compare_21 : decode c_Mo_compare 21 = .ok (.lconst 0, 1) := by decide +kernel
theorem d_Mo_compare_22 : decode c_Mo_compare 22 = .ok (.lcmp, 1) := by decide +kernel
theorem d_Mo_compare_23 : decode c_Mo_compare 23 = .ok (.ifCond .ge 21, 3) := by decide +kernel
theorem d_Mo_compare_26 : decode c_Mo_compare 26 = .ok (.lload_n 2, 1) := by decide +kernel
theorem d_Mo_compare_27 : decode c_Mo_compare 27 = .ok (.lconst 0, 1) := by decide +kernel
theorem d_Mo_compare_28 : decode c_Mo_compare 28 = .ok (.lcmp, 1) := by decide +kernel
theorem d_Mo_compare_29 : decode c_Mo_compare 29 = .ok (.ifCond .ge 15, 3) := by decide +kernel
theorem d_Mo_compare_32 : decode c_Mo_compare 32 = .ok (.lload_n 0, 1) := by decide +kernel
theorem d_Mo_compare_33 : decode c_Mo_compare 33 = .ok (.lload_n 2, 1) := by decide +kernel
theorem d_Mo_compare_34 : decode c_Mo_compare 34 = .ok (.lcmp, 1) := by decide +kernel
theorem d_Mo_compare_35 : decode c_Mo_compare 35 = .ok (.ifCond .le 7, 3) := by decide +kernel
theorem d_Mo_compare_38 : decode c_Mo_compare 38 = .ok (.iconst (-1), 1) := by decide +kernel
theorem d_Mo_compare_39 : decode c_Mo_compare 39 = .ok (.goto 4, 3) := by decide +kernel
theorem d_Mo_compare_42 : decode c_Mo_compare 42 = .ok (.iconst 1, 1) := by decide +kernel
theorem d_Mo_compare_43 : decode c_Mo_compare 43 = .ok (.ireturn, 1) := by decide +kernel
theorem d_Mo_compare_44 : decode c_Mo_compare 44 = .ok (.lload_n 0, 1) := by decide +kernel
theorem d_Mo_compare_45 : decode c_Mo_compare 45 = .ok (.lconst 0, 1) := by decide +kernel
theorem d_Mo_compare_46 : decode c_Mo_compare 46 = .ok (.lcmp, 1) := by decide +kernel
theorem d_Mo_compare_47 : decode c_Mo_compare 47 = .ok (.ifCond .ge 7, 3) := by decide +kernel
theorem d_Mo_compare_50 : decode c_Mo_compare 50 = .ok (.iconst (-1), 1) := by decide +kernel
theorem d_Mo_compare_51 : decode c_Mo_compare 51 = .ok (.goto 4, 3) := by decide +kernel
theorem d_Mo_compare_54 : decode c_Mo_compare 54 = .ok (.iconst 1, 1) := by decide +kernel
theorem d_Mo_compare_55 : decode c_Mo_compare 55 = .ok (.ireturn, 1) := by decide +kernel
theorem d_Mo_compare_56 : decode c_Mo_compare 56 = .ok (.lload_n 0, 1) := by decide +kernel
theorem d_Mo_compare_57 : decode c_Mo_compare 57 = .ok (.lstore 4, 2) := by decide +kernel
theorem d_Mo_compare_59 : decode c_Mo_compare 59 = .ok (.lload_n 2, 1) := by decide +kernel
theorem d_Mo_compare_60 : decode c_Mo_compare 60 = .ok (.lstore 6, 2) := by decide +kernel
theorem d_Mo_compare_62 : decode c_Mo_compare 62 = .ok (.lload 4, 2) := by decide +kernel
theorem d_Mo_compare_64 : decode c_Mo_compare 64 = .ok (.bipush 56, 2) := by decide +kernel
theorem d_Mo_compare_66 : decode c_Mo_compare 66 = .ok (.lshr, 1) := by decide +kernel
theorem d_Mo_compare_67 : decode c_Mo_compare 67 = .ok (.lconst 0, 1) := by decide +kernel
theorem d_Mo_compare_68 : decode c_Mo_compare 68 = .ok (.lcmp, 1) := by decide +kernel
theorem d_Mo_compare_69 : decode c_Mo_compare 69 = .ok (.ifCond .ne 13, 3) := by decide +kernel
theorem d_Mo_compare_72 : decode c_Mo_compare 72 = .ok (.lload 4, 2) := by decide +kernel
theorem d_Mo_compare_74 : decode c_Mo_compare 74 = .ok (.bipush 8, 2) := by decide +kernel
theorem d_Mo_compare_76 : decode c_Mo_compare 76 = .ok (.lshl, 1) := by decide +kernel
theorem d_Mo_compare_77 : decode c_Mo_compare 77 = .ok (.lstore 4, 2) := by decide +kernel
theorem d_Mo_compare_79 : decode c_Mo_compare 79 = .ok (.goto (-17), 3) := by decide +kernel
theorem d_Mo_compare_82 : decode c_Mo_compare 82 = .ok (.lload 6, 2) := by decide +kernel
theorem d_Mo_compare_84 : decode c_Mo_compare 84 = .ok (.bipush 56, 2) := by decide +kernel
theorem d_Mo_compare_86 : decode c_Mo_compare 86 = .ok (.lshr, 1) := by decide +kernel
theorem d_Mo_compare_87 : decode c_Mo_compare 87 = .ok (.lconst 0, 1) := by decide +kernel
theorem d_Mo_compare_88 : decode c_Mo_compare 88 = .ok (.lcmp, 1) := by decide +kernel
theorem d_Mo_compare_89 : decode c_Mo_compare 89 = .ok (.ifCond .ne 13, 3) := by decide +kernel
theorem d_Mo_compare_92 : decode c_Mo_compare 92 = .ok (.lload 6, 2) := by decide +kernel
theorem d_Mo_compare_94 : decode c_Mo_compare 94 = .ok (.bipush 8, 2) := by decide +kernel
theorem d_Mo_compare_96 : decode c_Mo_compare 96 = .ok (.lshl, 1) := by decide +kernel
theorem d_Mo_compare_97 : decode c_Mo_compare 97 = .ok (.lstore 6, 2) := by decide +kernel
theorem d_Mo_compare_99 : decode c_Mo_compare 99 = .ok (.goto (-17), 3) := by decide +kernel
theorem d_Mo_compare_102 : decode c_Mo_compare 102 = .ok (.lload 4, 2) := by decide +kernel
theorem d_Mo_compare_104 : decode c_Mo_compare 104 = .ok (.lload 6, 2) := by decide +kernel
theorem d_Mo_compare_106 : decode c_Mo_compare 106 = .ok (.lcmp, 1) := by decide +kernel
theorem d_Mo_compare_107 : decode c_Mo_compare 107 = .ok (.ifCond .ge 7, 3) := by decide +kernel
theorem d_Mo_compare_110 : decode c_Mo_compare 110 = .ok (.iconst (-1), 1) := by decide +kernel
theorem d_Mo_compare_111 : decode c_Mo_compare 111 = .ok (.goto 4, 3) := by decide +kernel
theorem d_Mo_compare_114 : decode c_Mo_compare 114 = .ok (.iconst 1, 1) := by decide +kernel
theorem d_Mo_compare_115 : decode c_Mo_compare 115 = .ok (.ireturn, 1) := by decide +kernel
theorem d_Mo_find_0 : decode c_Mo_find 0 = .ok (.iconst 0, 1) := by decide +kernel
theorem d_Mo_find_1 : decode c_Mo_find 1 = .ok (.istore 7, 2) := by decide +kernel
theorem d_Mo_find_3 : decode c_Mo_find 3 = .ok (.iload 7, 2) := by decide +kernel
theorem d_Mo_find_5 : decode c_Mo_find 5 = .ok (.aload_n 0, 1) := by decide +kernel
theorem d_Mo_find_6 : decode c_Mo_find 6 = .ok (.getfield 102, 3) := by decide +kernel
theorem d_Mo_find_9 : decode c_Mo_find 9 = .ok (.if_icmp .ge 56, 3) := by decide +kernel
theorem d_Mo_find_12 : decode c_Mo_find 12 = .ok (.aload_n 0, 1) := by decide +kernel
theorem d_Mo_find_13 : decode c_Mo_find 13 = .ok (.getfield 7, 3) := by decide +kernel
theorem d_Mo_find_16 : decode c_Mo_find 16 = .ok (.iconst 3, 1) := by decide +kernel
theorem d_Mo_find_17 : decode c_Mo_find 17 = .ok (.iload 7, 2) := by decide +kernel
theorem d_Mo_find_19 : decode c_Mo_find 19 = .ok (.imul, 1) := by decide +kernel
theorem d_Mo_find_20 : decode c_Mo_find 20 = .ok (.laload, 1) := by decide +kernel
theorem d_Mo_find_21 : decode c_Mo_find 21 = .ok (.lload_n 1, 1) := by decide +kernel
theorem d_Mo_find_22 : decode c_Mo_find 22 = .ok (.lcmp, 1) := by decide +kernel
theorem d_Mo_find_23 : decode c_Mo_find 23 = .ok (.ifCond .ne 36, 3) := by decide +kernel
theorem d_Mo_find_26 : decode c_Mo_find 26 = .ok (.aload_n 0, 1) := by decide +kernel
theorem d_Mo_find_27 : decode c_Mo_find 27 = .ok (.getfield 7, 3) := by decide +kernel
theorem d_Mo_find_30 : decode c_Mo_find 30 = .ok (.iconst 3, 1) := by decide +kernel
theorem d_Mo_find_31 : decode c_Mo_find 31 = .ok (.iload 7, 2) := by decide +kernel
theorem d_Mo_find_33 : decode c_Mo_find 33 = .ok (.imul, 1) := by decide +kernel
theorem d_Mo_find_34 : decode c_Mo_find 34 = .ok (.iconst 1, 1) := by decide +kernel
theorem d_Mo_find_35 : decode c_Mo_find 35 = .ok (.iadd, 1) := by decide +kernel
theorem d_Mo_find_36 : decode c_Mo_find 36 = .ok (.laload, 1) := by decide +kernel
theorem d_Mo_find_37 : decode c_Mo_find 37 = .ok (.lload_n 3, 1) := by decide +kernel
theorem d_Mo_find_38 : decode c_Mo_find 38 = .ok (.lcmp, 1) := by decide +kernel
theorem d_Mo_find_39 : decode c_Mo_find 39 = .ok (.ifCond .ne 20, 3) := by decide +kernel
theorem d_Mo_find_42 : decode c_Mo_find 42 = .ok (.aload_n 0, 1) := by decide +kernel
theorem d_Mo_find_43 : decode c_Mo_find 43 = .ok (.getfield 7, 3) := by decide +kernel
theorem d_Mo_find_46 : decode c_Mo_find 46 = .ok (.iconst 3, 1) := by decide +kernel
theorem d_Mo_find_47 : decode c_Mo_find 47 = .ok (.iload 7, 2) := by decide +kernel
theorem d_Mo_find_49 : decode c_Mo_find 49 = .ok (.imul, 1) := by decide +kernel
theorem d_Mo_find_50 : decode c_Mo_find 50 = .ok (.iconst 2, 1) := by decide +kernel
theorem d_Mo_find_51 : decode c_Mo_find 51 = .ok (.iadd, 1) := by decide +kernel
theorem d_Mo_find_52 : decode c_Mo_find 52 = .ok (.laload, 1) := by decide +kernel
theorem d_Mo_find_53 : decode c_Mo_find 53 = .ok (.lload 5, 2) := by decide +kernel
theorem d_Mo_find_55 : decode c_Mo_find 55 = .ok (.lcmp, 1) := by decide +kernel
theorem d_Mo_find_56 : decode c_Mo_find 56 = .ok (.ifCond .eq 9, 3) := by decide +kernel
theorem d_Mo_find_59 : decode c_Mo_find 59 = .ok (.iinc 7 1, 3) := by decide +kernel
theorem d_Mo_find_62 : decode c_Mo_find 62 = .ok (.goto (-59), 3) := by decide +kernel
theorem d_Mo_find_65 : decode c_Mo_find 65 = .ok (.iload 7, 2) := by decide +kernel
theorem d_Mo_find_67 : decode c_Mo_find 67 = .ok (.ireturn, 1) := by decide +kernel
theorem d_Mo_apply_0 : decode c_Mo_apply 0 = .ok (.aload_n 0, 1) := by decide +kernel
theorem d_Mo_apply_1 : decode c_Mo_apply 1 = .ok (.lload_n 2, 1) := by decide +kernel
theorem d_Mo_apply_2 : decode c_Mo_apply 2 = .ok (.lload 4, 2) := by decide +kernel
theorem d_Mo_apply_4 : decode c_Mo_apply 4 = .ok (.lload 6, 2) := by decide +kernel
theorem d_Mo_apply_6 : decode c_Mo_apply 6 = .ok (.invokevirtual 105, 3) := by decide +kernel
theorem d_Mo_apply_9 : decode c_Mo_apply 9 = .ok (.istore 8, 2) := by decide +kernel
theorem d_Mo_apply_11 : decode c_Mo_apply 11 = .ok (.iload_n 1, 1) := by decide +kernel
theorem d_Mo_apply_12 : decode c_Mo_apply 12 = .ok (.ifCond .eq 56, 3) := by decide +kernel
theorem d_Mo_apply_15 : decode c_Mo_apply 15 = .ok (.aload_n 0, 1) := by decide +kernel
theorem d_Mo_apply_16 : decode c_Mo_apply 16 = .ok (.getfield 7, 3) := by decide +kernel
theorem d_Mo_apply_19 : decode c_Mo_apply 19 = .ok (.iconst 3, 1) := by decide +kernel
theorem d_Mo_apply_20 : decode c_Mo_apply 20 = .ok (.aload_n 0, 1) := by decide +kernel
theorem d_Mo_apply_21 : decode c_Mo_apply 21 = .ok (.getfield 102, 3) := by decide +kernel
theorem d_Mo_apply_24 : decode c_Mo_apply 24 = .ok (.imul, 1) := by decide +kernel
theorem d_Mo_apply_25 : decode c_Mo_apply 25 = .ok (.lload_n 2, 1) := by decide +kernel
theorem d_Mo_apply_26 : decode c_Mo_apply 26 = .ok (.lastore, 1) := by decide +kernel
theorem d_Mo_apply_27 : decode c_Mo_apply 27 = .ok (.aload_n 0, 1) := by decide +kernel
theorem d_Mo_apply_28 : decode c_Mo_apply 28 = .ok (.getfield 7, 3) := by decide +kernel
theorem d_Mo_apply_31 : decode c_Mo_apply 31 = .ok (.iconst 3, 1) := by decide +kernel
theorem d_Mo_apply_32 : decode c_Mo_apply 32 = .ok (.aload_n 0, 1) := by decide +kernel
theorem d_Mo_apply_33 : decode c_Mo_apply 33 = .ok (.getfield 102, 3) := by decide +kernel
theorem d_Mo_apply_36 : decode c_Mo_apply 36 = .ok (.imul, 1) := by decide +kernel
theorem d_Mo_apply_37 : decode c_Mo_apply 37 = .ok (.iconst 1, 1) := by decide +kernel
theorem d_Mo_apply_38 : decode c_Mo_apply 38 = .ok (.iadd, 1) := by decide +kernel
theorem d_Mo_apply_39 : decode c_Mo_apply 39 = .ok (.lload 4, 2) := by decide +kernel
theorem d_Mo_apply_41 : decode c_Mo_apply 41 = .ok (.lastore, 1) := by decide +kernel
theorem d_Mo_apply_42 : decode c_Mo_apply 42 = .ok (.aload_n 0, 1) := by decide +kernel
theorem d_Mo_apply_43 : decode c_Mo_apply 43 = .ok (.getfield 7, 3) := by decide +kernel
theorem d_Mo_apply_46 : decode c_Mo_apply 46 = .ok (.iconst 3, 1) := by decide +kernel
theorem d_Mo_apply_47 : decode c_Mo_apply 47 = .ok (.aload_n 0, 1) := by decide +kernel
theorem d_Mo_apply_48 : decode c_Mo_apply 48 = .ok (.getfield 102, 3) := by decide +kernel
theorem d_Mo_apply_51 : decode c_Mo_apply 51 = .ok (.imul, 1) := by decide +kernel
theorem d_Mo_apply_52 : decode c_Mo_apply 52 = .ok (.iconst 2, 1) := by decide +kernel
theorem d_Mo_apply_53 : decode c_Mo_apply 53 = .ok (.iadd, 1) := by decide +kernel
theorem d_Mo_apply_54 : decode c_Mo_apply 54 = .ok (.lload 6, 2) := by decide +kernel
theorem d_Mo_apply_56 : decode c_Mo_apply 56 = .ok (.lastore, 1) := by decide +kernel
theorem d_Mo_apply_57 : decode c_Mo_apply 57 = .ok (.aload_n 0, 1) := by decide +kernel
theorem d_Mo_apply_58 : decode c_Mo_apply 58 = .ok (.dup, 1) := by decide +kernel
theorem d_Mo_apply_59 : decode c_Mo_apply 59 = .ok (.getfield 102, 3) := by decide +kernel
theorem d_Mo_apply_62 : decode c_Mo_apply 62 = .ok (.iconst 1, 1) := by decide +kernel
theorem d_Mo_apply_63 : decode c_Mo_apply 63 = .ok (.iadd, 1) := by decide +kernel
theorem d_Mo_apply_64 : decode c_Mo_apply 64 = .ok (.putfield 102, 3) := by decide +kernel
theorem d_Mo_apply_67 : decode c_Mo_apply 67 = .ok (.return_, 1) := by decide +kernel
theorem d_Mo_apply_68 : decode c_Mo_apply 68 = .ok (.aload_n 0, 1) := by decide +kernel
theorem d_Mo_apply_69 : decode c_Mo_apply 69 = .ok (.dup, 1) := by decide +kernel
theorem d_Mo_apply_70 : decode c_Mo_apply 70 = .ok (.getfield 102, 3) := by decide +kernel
theorem d_Mo_apply_73 : decode c_Mo_apply 73 = .ok (.iconst 1, 1) := by decide +kernel
theorem d_Mo_apply_74 : decode c_Mo_apply 74 = .ok (.isub, 1) := by decide +kernel
theorem d_Mo_apply_75 : decode c_Mo_apply 75 = .ok (.putfield 102, 3) := by decide +kernel
theorem d_Mo_apply_78 : decode c_Mo_apply 78 = .ok (.iconst 0, 1) := by decide +kernel
theorem d_Mo_apply_79 : decode c_Mo_apply 79 = .ok (.istore 9, 2) := by decide +kernel
theorem d_Mo_apply_81 : decode c_Mo_apply 81 = .ok (.iload 9, 2) := by decide +kernel
theorem d_Mo_apply_83 : decode c_Mo_apply 83 = .ok (.iconst 3, 1) := by decide +kernel
theorem d_Mo_apply_84 : decode c_Mo_apply 84 = .ok (.if_icmp .ge 35, 3) := by decide +kernel
theorem d_Mo_apply_87 : decode c_Mo_apply 87 = .ok (.aload_n 0, 1) := by decide +kernel
theorem d_Mo_apply_88 : decode c_Mo_apply 88 = .ok (.getfield 7, 3) := by decide +kernel
theorem d_Mo_apply_91 : decode c_Mo_apply 91 = .ok (.iconst 3, 1) := by decide +kernel
theorem d_Mo_apply_92 : decode c_Mo_apply 92 = .ok (.iload 8, 2) := by decide +kernel
theorem d_Mo_apply_94 : decode c_Mo_apply 94 = .ok (.imul, 1) := by decide +kernel
theorem d_Mo_apply_95 : decode c_Mo_apply 95 = .ok (.iload 9, 2) := by decide +kernel
theorem d_Mo_apply_97 : decode c_Mo_apply 97 = .ok (.iadd, 1) := by decide +kernel
theorem d_Mo_apply_98 : decode c_Mo_apply 98 = .ok (.aload_n 0, 1) := by decide +kernel
theorem d_Mo_apply_99 : decode c_Mo_apply 99 = .ok (.getfield 7, 3) := by decide +kernel
theorem d_Mo_apply_102 : decode c_Mo_apply 102 = .ok (.iconst 3, 1) := by decide +kernel
theorem d_Mo_apply_103 : decode c_Mo_apply 103 = .ok (.aload_n 0, 1) := by decide +kernel
theorem d_Mo_apply_104 : decode c_Mo_apply 104 = .ok (.getfield 102, 3) := by decide +kernel
theorem d_Mo_apply_107 : decode c_Mo_apply 107 = .ok (.imul, 1) := by decide +kernel
theorem d_Mo_apply_108 : decode c_Mo_apply 108 = .ok (.iload 9, 2) := by decide +kernel
theorem d_Mo_apply_110 : decode c_Mo_apply 110 = .ok (.iadd, 1) := by decide +kernel
theorem d_Mo_apply_111 : decode c_Mo_apply 111 = .ok (.laload, 1) := by decide +kernel
theorem d_Mo_apply_112 : decode c_Mo_apply 112 = .ok (.lastore, 1) := by decide +kernel
theorem d_Mo_apply_113 : decode c_Mo_apply 113 = .ok (.iinc 9 1, 3) := by decide +kernel
theorem d_Mo_apply_116 : decode c_Mo_apply 116 = .ok (.goto (-35), 3) := by decide +kernel
theorem d_Mo_apply_119 : decode c_Mo_apply 119 = .ok (.return_, 1) := by decide +kernel
theorem d_Mo_does_0 : decode c_Mo_does 0 = .ok (.aload_n 0, 1) := by decide +kernel
theorem d_Mo_does_1 : decode c_Mo_does 1 = .ok (.lload_n 2, 1) := by decide +kernel
theorem d_Mo_does_2 : decode c_Mo_does 2 = .ok (.lload 4, 2) := by decide +kernel
theorem d_Mo_does_4 : decode c_Mo_does 4 = .ok (.lload 6, 2) := by decide +kernel
theorem d_Mo_does_6 : decode c_Mo_does 6 = .ok (.invokevirtual 105, 3) := by decide +kernel
theorem d_Mo_does_9 : decode c_Mo_does 9 = .ok (.aload_n 0, 1) := by decide +kernel
theorem d_Mo_does_10 : decode c_Mo_does 10 = .ok (.getfield 102, 3) := by decide +kernel
theorem d_Mo_does_13 : decode c_Mo_does 13 = .ok (.if_icmp .ge 7, 3) := by decide +kernel
theorem d_Mo_does_16 : decode c_Mo_does 16 = .ok (.iconst 1, 1) := by decide +kernel
theorem d_Mo_does_17 : decode c_Mo_does 17 = .ok (.goto 4, 3) := by decide +kernel
theorem d_Mo_does_20 : decode c_Mo_does 20 = .ok (.iconst 0, 1) := by decide +kernel
theorem d_Mo_does_21 : decode c_Mo_does 21 = .ok (.istore 8, 2) := by decide +kernel
theorem d_Mo_does_23 : decode c_Mo_does 23 = .ok (.iload 8, 2) := by decide +kernel
theorem d_Mo_does_25 : decode c_Mo_does 25 = .ok (.iload_n 1, 1) := by decide +kernel
theorem d_Mo_does_26 : decode c_Mo_does 26 = .ok (.if_icmp .ne 5, 3) := by decide +kernel
theorem d_Mo_does_29 : decode c_Mo_does 29 = .ok (.iconst 0, 1) := by decide +kernel
theorem d_Mo_does_30 : decode c_Mo_does 30 = .ok (.ireturn, 1) := by decide +kernel
theorem d_Mo_does_31 : decode c_Mo_does 31 = .ok (.iload_n 1, 1) := by decide +kernel
theorem d_Mo_does_32 : decode c_Mo_does 32 = .ok (.ifCond .eq 27, 3) := by decide +kernel
theorem d_Mo_does_35 : decode c_Mo_does 35 = .ok (.aload_n 0, 1) := by decide +kernel
theorem d_Mo_does_36 : decode c_Mo_does 36 = .ok (.aload_n 0, 1) := by decide +kernel
theorem d_Mo_does_37 : decode c_Mo_does 37 = .ok (.getfield 102, 3) := by decide +kernel
theorem d_Mo_does_40 : decode c_Mo_does 40 = .ok (.bipush 48, 2) := by decide +kernel
theorem d_Mo_does_42 : decode c_Mo_does 42 = .ok (.if_icmp .ge 7, 3) := by decide +kernel
theorem d_Mo_does_45 : decode c_Mo_does 45 = .ok (.iconst 1, 1) := by decide +kernel
theorem d_Mo_does_46 : decode c_Mo_does 46 = .ok (.goto 4, 3) := by decide +kernel
theorem d_Mo_does_49 : decode c_Mo_does 49 = .ok (.iconst 0, 1) := by decide +kernel
theorem d_Mo_does_50 : decode c_Mo_does 50 = .ok (.iconst 2, 1) := by decide +kernel
theorem d_Mo_does_51 : decode c_Mo_does 51 = .ok (.invokevirtual 109, 3) := by decide +kernel
theorem d_Mo_does_54 : decode c_Mo_does 54 = .ok (.ifCond .ne 5, 3) := by decide +kernel
theorem d_Mo_does_57 : decode c_Mo_does 57 = .ok (.iconst 0, 1) := by decide +kernel
theorem d_Mo_does_58 : decode c_Mo_does 58 = .ok (.ireturn, 1) := by decide +kernel
theorem d_Mo_does_59 : decode c_Mo_does 59 = .ok (.aload_n 0, 1) := by decide +kernel
theorem d_Mo_does_60 : decode c_Mo_does 60 = .ok (.iload_n 1, 1) := by decide +kernel
theorem d_Mo_does_61 : decode c_Mo_does 61 = .ok (.lload_n 2, 1) := by decide +kernel
theorem d_Mo_does_62 : decode c_Mo_does 62 = .ok (.lload 4, 2) := by decide +kernel
theorem d_Mo_does_64 : decode c_Mo_does 64 = .ok (.lload 6, 2) := by decide +kernel
theorem d_Mo_does_66 : decode c_Mo_does 66 = .ok (.invokevirtual 113, 3) := by decide +kernel
theorem d_Mo_does_69 : decode c_Mo_does 69 = .ok (.aload_n 0, 1) := by decide +kernel
theorem d_Mo_does_70 : decode c_Mo_does 70 = .ok (.getfield 16, 3) := by decide +kernel
theorem d_Mo_does_73 : decode c_Mo_does 73 = .ok (.iconst 3, 1) := by decide +kernel
theorem d_Mo_does_74 : decode c_Mo_does 74 = .ok (.aload_n 0, 1) := by decide +kernel
theorem d_Mo_does_75 : decode c_Mo_does 75 = .ok (.getfield 117, 3) := by decide +kernel
theorem d_Mo_does_78 : decode c_Mo_does 78 = .ok (.imul, 1) := by decide +kernel
theorem d_Mo_does_79 : decode c_Mo_does 79 = .ok (.lload_n 2, 1) := by decide +kernel
theorem d_Mo_does_80 : decode c_Mo_does 80 = .ok (.lastore, 1) := by decide +kernel
theorem d_Mo_does_81 : decode c_Mo_does 81 = .ok (.aload_n 0, 1) := by decide +kernel
theorem d_Mo_does_82 : decode c_Mo_does 82 = .ok (.getfield 16, 3) := by decide +kernel
theorem d_Mo_does_85 : decode c_Mo_does 85 = .ok (.iconst 3, 1) := by decide +kernel
theorem d_Mo_does_86 : decode c_Mo_does 86 = .ok (.aload_n 0, 1) := by decide +kernel
theorem d_Mo_does_87 : decode c_Mo_does 87 = .ok (.getfield 117, 3) := by decide +kernel
theorem d_Mo_does_90 : decode c_Mo_does 90 = .ok (.imul, 1) := by decide +kernel
theorem d_Mo_does_91 : decode c_Mo_does 91 = .ok (.iconst 1, 1) := by decide +kernel
theorem d_Mo_does_92 : decode c_Mo_does 92 = .ok (.iadd, 1) := by decide +kernel
theorem d_Mo_does_93 : decode c_Mo_does 93 = .ok (.lload 4, 2) := by decide +kernel
theorem d_Mo_does_95 : decode c_Mo_does 95 = .ok (.lastore, 1) := by decide +kernel
theorem d_Mo_does_96 : decode c_Mo_does 96 = .ok (.aload_n 0, 1) := by decide +kernel
theorem d_Mo_does_97 : decode c_Mo_does 97 = .ok (.getfield 16, 3) := by decide +kernel
theorem d_Mo_does_100 : decode c_Mo_does 100 = .ok (.iconst 3, 1) := by decide +kernel
theorem d_Mo_does_101 : decode c_Mo_does 101 = .ok (.aload_n 0, 1) := by decide +kernel
theorem d_Mo_does_102 : decode c_Mo_does 102 = .ok (.getfield 117, 3) := by decide +kernel
theorem d_Mo_does_105 : decode c_Mo_does 105 = .ok (.imul, 1) := by decide +kernel
theorem d_Mo_does_106 : decode c_Mo_does 106 = .ok (.iconst 2, 1) := by decide +kernel
theorem d_Mo_does_107 : decode c_Mo_does 107 = .ok (.iadd, 1) := by decide +kernel
theorem d_Mo_does_108 : decode c_Mo_does 108 = .ok (.lload 6, 2) := by decide +kernel
theorem d_Mo_does_110 : decode c_Mo_does 110 = .ok (.lastore, 1) := by decide +kernel
theorem d_Mo_does_111 : decode c_Mo_does 111 = .ok (.aload_n 0, 1) := by decide +kernel
theorem d_Mo_does_112 : decode c_Mo_does 112 = .ok (.getfield 19, 3) := by decide +kernel
theorem d_Mo_does_115 : decode c_Mo_does 115 = .ok (.aload_n 0, 1) := by decide +kernel
theorem d_Mo_does_116 : decode c_Mo_does 116 = .ok (.getfield 117, 3) := by decide +kernel
theorem d_Mo_does_119 : decode c_Mo_does 119 = .ok (.iload_n 1, 1) := by decide +kernel
theorem d_Mo_does_120 : decode c_Mo_does 120 = .ok (.bastore, 1) := by decide +kernel
theorem d_Mo_does_121 : decode c_Mo_does 121 = .ok (.aload_n 0, 1) := by decide +kernel
theorem d_Mo_does_122 : decode c_Mo_does 122 = .ok (.getfield 23, 3) := by decide +kernel
theorem d_Mo_does_125 : decode c_Mo_does 125 = .ok (.aload_n 0, 1) := by decide +kernel
theorem d_Mo_does_126 : decode c_Mo_does 126 = .ok (.getfield 117, 3) := by decide +kernel
theorem d_Mo_does_129 : decode c_Mo_does 129 = .ok (.aload_n 0, 1) := by decide +kernel
theorem d_Mo_does_130 : decode c_Mo_does 130 = .ok (.getfield 120, 3) := by decide +kernel
theorem d_Mo_does_133 : decode c_Mo_does 133 = .ok (.iastore, 1) := by decide +kernel
theorem d_Mo_does_134 : decode c_Mo_does 134 = .ok (.aload_n 0, 1) := by decide +kernel
theorem d_Mo_does_135 : decode c_Mo_does 135 = .ok (.dup, 1) := by decide +kernel
theorem d_Mo_does_136 : decode c_Mo_does 136 = .ok (.getfield 117, 3) := by decide +kernel
theorem d_Mo_does_139 : decode c_Mo_does 139 = .ok (.iconst 1, 1) := by decide +kernel
theorem d_Mo_does_140 : decode c_Mo_does 140 = .ok (.iadd, 1) := by decide +kernel
theorem d_Mo_does_141 : decode c_Mo_does 141 = .ok (.putfield 117, 3) := by decide +kernel
theorem d_Mo_does_144 : decode c_Mo_does 144 = .ok (.aload_n 0, 1) := by decide +kernel
theorem d_Mo_does_145 : decode c_Mo_does 145 = .ok (.getfield 123, 3) := by decide +kernel
theorem d_Mo_does_148 : decode c_Mo_does 148 = .ok (.ifCond .ne 7, 3) := by decide +kernel
theorem d_Mo_does_151 : decode c_Mo_does 151 = .ok (.aload_n 0, 1) := by decide +kernel
theorem d_Mo_does_152 : decode c_Mo_does 152 = .ok (.invokevirtual 127, 3) := by decide +kernel
theorem d_Mo_does_155 : decode c_Mo_does 155 = .ok (.iconst 1, 1) := by decide +kernel
theorem d_Mo_does_156 : decode c_Mo_does 156 = .ok (.ireturn, 1) := by decide +kernel
theorem d_Mo_close_0 : decode c_Mo_close 0 = .ok (.aload_n 0, 1) := by decide +kernel
theorem d_Mo_close_1 : decode c_Mo_close 1 = .ok (.dup, 1) := by decide +kernel
theorem d_Mo_close_2 : decode c_Mo_close 2 = .ok (.getfield 130, 3) := by decide +kernel
theorem d_Mo_close_5 : decode c_Mo_close 5 = .ok (.iconst 1, 1) := by decide +kernel
theorem d_Mo_close_6 : decode c_Mo_close 6 = .ok (.iadd, 1) := by decide +kernel
theorem d_Mo_close_7 : decode c_Mo_close 7 = .ok (.putfield 130, 3) := by decide +kernel
theorem d_Mo_close_10 : decode c_Mo_close 10 = .ok (.aload_n 0, 1) := by decide +kernel
theorem d_Mo_close_11 : decode c_Mo_close 11 = .ok (.dup, 1) := by decide +kernel
theorem d_Mo_close_12 : decode c_Mo_close 12 = .ok (.getfield 120, 3) := by decide +kernel
theorem d_Mo_close_15 : decode c_Mo_close 15 = .ok (.iconst 1, 1) := by decide +kernel
theorem d_Mo_close_16 : decode c_Mo_close 16 = .ok (.iadd, 1) := by decide +kernel
theorem d_Mo_close_17 : decode c_Mo_close 17 = .ok (.putfield 120, 3) := by decide +kernel
theorem d_Mo_close_20 : decode c_Mo_close 20 = .ok (.aload_n 0, 1) := by decide +kernel
theorem d_Mo_close_21 : decode c_Mo_close 21 = .ok (.iconst 0, 1) := by decide +kernel
theorem d_Mo_close_22 : decode c_Mo_close 22 = .ok (.putfield 123, 3) := by decide +kernel
theorem d_Mo_close_25 : decode c_Mo_close 25 = .ok (.return_, 1) := by decide +kernel
theorem d_Mo_isTriple_0 : decode c_Mo_isTriple 0 = .ok (.aload_n 0, 1) := by decide +kernel
theorem d_Mo_isTriple_1 : decode c_Mo_isTriple 1 = .ok (.lload_n 1, 1) := by decide +kernel
theorem d_Mo_isTriple_2 : decode c_Mo_isTriple 2 = .ok (.invokestatic 133, 3) := by decide +kernel
theorem d_Mo_isTriple_5 : decode c_Mo_isTriple 5 = .ok (.ifCond .eq 30, 3) := by decide +kernel
theorem d_Mo_isTriple_8 : decode c_Mo_isTriple 8 = .ok (.lload_n 3, 1) := by decide +kernel
theorem d_Mo_isTriple_9 : decode c_Mo_isTriple 9 = .ok (.invokestatic 133, 3) := by decide +kernel
theorem d_Mo_isTriple_12 : decode c_Mo_isTriple 12 = .ok (.ifCond .eq 23, 3) := by decide +kernel
theorem d_Mo_isTriple_15 : decode c_Mo_isTriple 15 = .ok (.lload 5, 2) := by decide +kernel
theorem d_Mo_isTriple_17 : decode c_Mo_isTriple 17 = .ok (.invokestatic 133, 3) := by decide +kernel
theorem d_Mo_isTriple_20 : decode c_Mo_isTriple 20 = .ok (.ifCond .ne 11, 3) := by decide +kernel
theorem d_Mo_isTriple_23 : decode c_Mo_isTriple 23 = .ok (.lload 5, 2) := by decide +kernel
theorem d_Mo_isTriple_25 : decode c_Mo_isTriple 25 = .ok (.invokestatic 137, 3) := by decide +kernel
theorem d_Mo_isTriple_28 : decode c_Mo_isTriple 28 = .ok (.ifCond .eq 7, 3) := by decide +kernel
theorem d_Mo_isTriple_31 : decode c_Mo_isTriple 31 = .ok (.iconst 1, 1) := by decide +kernel
theorem d_Mo_isTriple_32 : decode c_Mo_isTriple 32 = .ok (.goto 4, 3) := by decide +kernel
theorem d_Mo_isTriple_35 : decode c_Mo_isTriple 35 = .ok (.iconst 0, 1) := by decide +kernel
theorem d_Mo_isTriple_36 : decode c_Mo_isTriple 36 = .ok (.iconst 1, 1) := by decide +kernel
theorem d_Mo_isTriple_37 : decode c_Mo_isTriple 37 = .ok (.invokevirtual 109, 3) := by decide +kernel
theorem d_Mo_isTriple_40 : decode c_Mo_isTriple 40 = .ok (.ireturn, 1) := by decide +kernel
theorem d_Mo_add_0 : decode c_Mo_add 0 = .ok (.aload_n 0, 1) := by decide +kernel
theorem d_Mo_add_1 : decode c_Mo_add 1 = .ok (.lload_n 1, 1) := by decide +kernel
theorem d_Mo_add_2 : decode c_Mo_add 2 = .ok (.lload_n 3, 1) := by decide +kernel
theorem d_Mo_add_3 : decode c_Mo_add 3 = .ok (.lload 5, 2) := by decide +kernel
theorem d_Mo_add_5 : decode c_Mo_add 5 = .ok (.invokevirtual 140, 3) := by decide +kernel
theorem d_Mo_add_8 : decode c_Mo_add 8 = .ok (.ifCond .eq 15, 3) := by decide +kernel
theorem d_Mo_add_11 : decode c_Mo_add 11 = .ok (.aload_n 0, 1) := by decide +kernel
theorem d_Mo_add_12 : decode c_Mo_add 12 = .ok (.iconst 1, 1) := by decide +kernel
theorem d_Mo_add_13 : decode c_Mo_add 13 = .ok (.lload_n 1, 1) := by decide +kernel
theorem d_Mo_add_14 : decode c_Mo_add 14 = .ok (.lload_n 3, 1) := by decide +kernel
theorem d_Mo_add_15 : decode c_Mo_add 15 = .ok (.lload 5, 2) := by decide +kernel
theorem d_Mo_add_17 : decode c_Mo_add 17 = .ok (.invokevirtual 144, 3) := by decide +kernel
theorem d_Mo_add_20 : decode c_Mo_add 20 = .ok (.goto 4, 3) := by decide +kernel
theorem d_Mo_add_23 : decode c_Mo_add 23 = .ok (.iconst 0, 1) := by decide +kernel
theorem d_Mo_add_24 : decode c_Mo_add 24 = .ok (.ireturn, 1) := by decide +kernel
theorem d_Mo_remove_0 : decode c_Mo_remove 0 = .ok (.aload_n 0, 1) := by decide +kernel
theorem d_Mo_remove_1 : decode c_Mo_remove 1 = .ok (.lload_n 1, 1) := by decide +kernel
theorem d_Mo_remove_2 : decode c_Mo_remove 2 = .ok (.lload_n 3, 1) := by decide +kernel
theorem d_Mo_remove_3 : decode c_Mo_remove 3 = .ok (.lload 5, 2) := by decide +kernel
theorem d_Mo_remove_5 : decode c_Mo_remove 5 = .ok (.invokevirtual 140, 3) := by decide +kernel
theorem d_Mo_remove_8 : decode c_Mo_remove 8 = .ok (.ifCond .eq 15, 3) := by decide +kernel
theorem d_Mo_remove_11 : decode c_Mo_remove 11 = .ok (.aload_n 0, 1) := by decide +kernel
theorem d_Mo_remove_12 : decode c_Mo_remove 12 = .ok (.iconst 0, 1) := by decide +kernel
theorem d_Mo_remove_13 : decode c_Mo_remove 13 = .ok (.lload_n 1, 1) := by decide +kernel
theorem d_Mo_remove_14 : decode c_Mo_remove 14 = .ok (.lload_n 3, 1) := by decide +kernel
theorem d_Mo_remove_15 : decode c_Mo_remove 15 = .ok (.lload 5, 2) := by decide +kernel
theorem d_Mo_remove_17 : decode c_Mo_remove 17 = .ok (.invokevirtual 144, 3) := by decide +kernel
theorem d_Mo_remove_20 : decode c_Mo_remove 20 = .ok (.goto 4, 3) := by decide +kernel
theorem d_Mo_remove_23 : decode c_Mo_remove 23 = .ok (.iconst 0, 1) := by decide +kernel
theorem d_Mo_remove_24 : decode c_Mo_remove 24 = .ok (.ireturn, 1) := by decide +kernel
theorem d_Mo_begin_0 : decode c_Mo_begin 0 = .ok (.aload_n 0, 1) := by decide +kernel
theorem d_Mo_begin_1 : decode c_Mo_begin 1 = .ok (.aload_n 0, 1) := by decide +kernel
theorem d_Mo_begin_2 : decode c_Mo_begin 2 = .ok (.getfield 123, 3) := by decide +kernel
theorem d_Mo_begin_5 : decode c_Mo_begin 5 = .ok (.ifCond .ne 7, 3) := by decide +kernel
theorem d_Mo_begin_8 : decode c_Mo_begin 8 = .ok (.iconst 1, 1) := by decide +kernel
theorem d_Mo_begin_9 : decode c_Mo_begin 9 = .ok (.goto 4, 3) := by decide +kernel
theorem d_Mo_begin_12 : decode c_Mo_begin 12 = .ok (.iconst 0, 1) := by decide +kernel
theorem d_Mo_begin_13 : decode c_Mo_begin 13 = .ok (.iconst 1, 1) := by decide +kernel
theorem d_Mo_begin_14 : decode c_Mo_begin 14 = .ok (.invokevirtual 109, 3) := by decide +kernel
theorem d_Mo_begin_17 : decode c_Mo_begin 17 = .ok (.ifCond .ne 5, 3) := by decide +kernel
theorem d_Mo_begin_20 : decode c_Mo_begin 20 = .ok (.iconst 0, 1) := by decide +kernel
theorem d_Mo_begin_21 : decode c_Mo_begin 21 = .ok (.ireturn, 1) := by decide +kernel
theorem d_Mo_begin_22 : decode c_Mo_begin 22 = .ok (.aload_n 0, 1) := by decide +kernel
theorem d_Mo_begin_23 : decode c_Mo_begin 23 = .ok (.iconst 1, 1) := by decide +kernel
theorem d_Mo_begin_24 : decode c_Mo_begin 24 = .ok (.putfield 123, 3) := by decide +kernel
theorem d_Mo_begin_27 : decode c_Mo_begin 27 = .ok (.aload_n 0, 1) := by decide +kernel
theorem d_Mo_begin_28 : decode c_Mo_begin 28 = .ok (.aload_n 0, 1) := by decide +kernel
theorem d_Mo_begin_29 : decode c_Mo_begin 29 = .ok (.getfield 117, 3) := by decide +kernel
theorem d_Mo_begin_32 : decode c_Mo_begin 32 = .ok (.putfield 148, 3) := by decide +kernel
theorem d_Mo_begin_35 : decode c_Mo_begin 35 = .ok (.aload_n 0, 1) := by decide +kernel
theorem d_Mo_begin_36 : decode c_Mo_begin 36 = .ok (.getfield 130, 3) := by decide +kernel
theorem d_Mo_begin_39 : decode c_Mo_begin 39 = .ok (.ireturn, 1) := by decide +kernel
theorem d_Mo_commit_0 : decode c_Mo_commit 0 = .ok (.aload_n 0, 1) := by decide +kernel
theorem d_Mo_commit_1 : decode c_Mo_commit 1 = .ok (.aload_n 0, 1) := by decide +kernel
theorem d_Mo_commit_2 : decode c_Mo_commit 2 = .ok (.getfield 123, 3) := by decide +kernel
theorem d_Mo_commit_5 : decode c_Mo_commit 5 = .ok (.iconst 1, 1) := by decide +kernel
theorem d_Mo_commit_6 : decode c_Mo_commit 6 = .ok (.invokevirtual 109, 3) := by decide +kernel
theorem d_Mo_commit_9 : decode c_Mo_commit 9 = .ok (.ifCond .ne 5, 3) := by decide +kernel
theorem d_Mo_commit_12 : decode c_Mo_commit 12 = .ok (.iconst 0, 1) := by decide +kernel
theorem d_Mo_commit_13 : decode c_Mo_commit 13 = .ok (.ireturn, 1) := by decide +kernel
theorem d_Mo_commit_14 : decode c_Mo_commit 14 = .ok (.aload_n 0, 1) := by decide +kernel
theorem d_Mo_commit_15 : decode c_Mo_commit 15 = .ok (.invokevirtual 127, 3) := by decide +kernel
theorem d_Mo_commit_18 : decode c_Mo_commit 18 = .ok (.aload_n 0, 1) := by decide +kernel
theorem d_Mo_commit_19 : decode c_Mo_commit 19 = .ok (.getfield 117, 3) := by decide +kernel
theorem d_Mo_commit_22 : decode c_Mo_commit 22 = .ok (.aload_n 0, 1) := by decide +kernel
theorem d_Mo_commit_23 : decode c_Mo_commit 23 = .ok (.getfield 148, 3) := by decide +kernel
theorem d_Mo_commit_26 : decode c_Mo_commit 26 = .ok (.isub, 1) := by decide +kernel
theorem d_Mo_commit_27 : decode c_Mo_commit 27 = .ok (.ireturn, 1) := by decide +kernel
theorem d_Mo_undo_0 : decode c_Mo_undo 0 = .ok (.aload_n 0, 1) := by decide +kernel
theorem d_Mo_undo_1 : decode c_Mo_undo 1 = .ok (.getfield 117, 3) := by decide +kernel
theorem d_Mo_undo_4 : decode c_Mo_undo 4 = .ok (.iload_n 1, 1) := by decide +kernel
theorem d_Mo_undo_5 : decode c_Mo_undo 5 = .ok (.if_icmp .le 74, 3) := by decide +kernel
theorem d_Mo_undo_8 : decode c_Mo_undo 8 = .ok (.aload_n 0, 1) := by decide +kernel
theorem d_Mo_undo_9 : decode c_Mo_undo 9 = .ok (.dup, 1) := by decide +kernel
theorem d_Mo_undo_10 : decode c_Mo_undo 10 = .ok (.getfield 117, 3) := by decide +kernel
theorem d_Mo_undo_13 : decode c_Mo_undo 13 = .ok (.iconst 1, 1) := by decide +kernel
theorem d_Mo_undo_14 : decode c_Mo_undo 14 = .ok (.isub, 1) := by decide +kernel
theorem d_Mo_undo_15 : decode c_Mo_undo 15 = .ok (.putfield 117, 3) := by decide +kernel
theorem d_Mo_undo_18 : decode c_Mo_undo 18 = .ok (.aload_n 0, 1) := by decide +kernel
theorem d_Mo_undo_19 : decode c_Mo_undo 19 = .ok (.aload_n 0, 1) := by decide +kernel
theorem d_Mo_undo_20 : decode c_Mo_undo 20 = .ok (.getfield 19, 3) := by decide +kernel
theorem d_Mo_undo_23 : decode c_Mo_undo 23 = .ok (.aload_n 0, 1) := by decide +kernel
theorem d_Mo_undo_24 : decode c_Mo_undo 24 = .ok (.getfield 117, 3) := by decide +kernel
theorem d_Mo_undo_27 : decode c_Mo_undo 27 = .ok (.baload, 1) := by decide +kernel
theorem d_Mo_undo_28 : decode c_Mo_undo 28 = .ok (.ifCond .ne 7, 3) := by decide +kernel
theorem d_Mo_undo_31 : decode c_Mo_undo 31 = .ok (.iconst 1, 1) := by decide +kernel
theorem d_Mo_undo_32 : decode c_Mo_undo 32 = .ok (.goto 4, 3) := by decide +kernel
theorem d_Mo_undo_35 : decode c_Mo_undo 35 = .ok (.iconst 0, 1) := by decide +kernel
theorem d_Mo_undo_36 : decode c_Mo_undo 36 = .ok (.aload_n 0, 1) := by decide +kernel
theorem d_Mo_undo_37 : decode c_Mo_undo 37 = .ok (.getfield 16, 3) := by decide +kernel
theorem d_Mo_undo_40 : decode c_Mo_undo 40 = .ok (.iconst 3, 1) := by decide +kernel
theorem d_Mo_undo_41 : decode c_Mo_undo 41 = .ok (.aload_n 0, 1) := by decide +kernel
theorem d_Mo_undo_42 : decode c_Mo_undo 42 = .ok (.getfield 117, 3) := by decide +kernel
theorem d_Mo_undo_45 : decode c_Mo_undo 45 = .ok (.imul, 1) := by decide +kernel
theorem d_Mo_undo_46 : decode c_Mo_undo 46 = .ok (.laload, 1) := by decide +kernel
theorem d_Mo_undo_47 : decode c_Mo_undo 47 = .ok (.aload_n 0, 1) := by decide +kernel
theorem d_Mo_undo_48 : decode c_Mo_undo 48 = .ok (.getfield 16, 3) := by decide +kernel
theorem d_Mo_undo_51 : decode c_Mo_undo 51 = .ok (.iconst 3, 1) := by decide +kernel
theorem d_Mo_undo_52 : decode c_Mo_undo 52 = .ok (.aload_n 0, 1) := by decide +kernel
theorem d_Mo_undo_53 : decode c_Mo_undo 53 = .ok (.getfield 117, 3) := by decide +kernel
theorem d_Mo_undo_56 : decode c_Mo_undo 56 = .ok (.imul, 1) := by decide +kernel
theorem d_Mo_undo_57 : decode c_Mo_undo 57 = .ok (.iconst 1, 1) := by decide +kernel
theorem d_Mo_undo_58 : decode c_Mo_undo 58 = .ok (.iadd, 1) := by decide +kernel
theorem d_Mo_undo_59 : decode c_Mo_undo 59 = .ok (.laload, 1) := by decide +kernel
theorem d_Mo_undo_60 : decode c_Mo_undo 60 = .ok (.aload_n 0, 1) := by decide +kernel
theorem d_Mo_undo_61 : decode c_Mo_undo 61 = .ok (.getfield 16, 3) := by decide +kernel
theorem d_Mo_undo_64 : decode c_Mo_undo 64 = .ok (.iconst 3, 1) := by decide +kernel
theorem d_Mo_undo_65 : decode c_Mo_undo 65 = .ok (.aload_n 0, 1) := by decide +kernel
theorem d_Mo_undo_66 : decode c_Mo_undo 66 = .ok (.getfield 117, 3) := by decide +kernel
theorem d_Mo_undo_69 : decode c_Mo_undo 69 = .ok (.imul, 1) := by decide +kernel
theorem d_Mo_undo_70 : decode c_Mo_undo 70 = .ok (.iconst 2, 1) := by decide +kernel
theorem d_Mo_undo_71 : decode c_Mo_undo 71 = .ok (.iadd, 1) := by decide +kernel
theorem d_Mo_undo_72 : decode c_Mo_undo 72 = .ok (.laload, 1) := by decide +kernel
theorem d_Mo_undo_73 : decode c_Mo_undo 73 = .ok (.invokevirtual 113, 3) := by decide +kernel
theorem d_Mo_undo_76 : decode c_Mo_undo 76 = .ok (.goto (-76), 3) := by decide +kernel
theorem d_Mo_undo_79 : decode c_Mo_undo 79 = .ok (.return_, 1) := by decide +kernel
theorem d_Mo_rollback_0 : decode c_Mo_rollback 0 = .ok (.aload_n 0, 1) := by decide +kernel
theorem d_Mo_rollback_1 : decode c_Mo_rollback 1 = .ok (.aload_n 0, 1) := by decide +kernel
theorem d_Mo_rollback_2 : decode c_Mo_rollback 2 = .ok (.getfield 123, 3) := by decide +kernel
theorem d_Mo_rollback_5 : decode c_Mo_rollback 5 = .ok (.iconst 1, 1) := by decide +kernel
theorem d_Mo_rollback_6 : decode c_Mo_rollback 6 = .ok (.invokevirtual 109, 3) := by decide +kernel
theorem d_Mo_rollback_9 : decode c_Mo_rollback 9 = .ok (.ifCond .ne 5, 3) := by decide +kernel
theorem d_Mo_rollback_12 : decode c_Mo_rollback 12 = .ok (.iconst 0, 1) := by decide +kernel
theorem d_Mo_rollback_13 : decode c_Mo_rollback 13 = .ok (.ireturn, 1) := by decide +kernel
theorem d_Mo_rollback_14 : decode c_Mo_rollback 14 = .ok (.aload_n 0, 1) := by decide +kernel
theorem d_Mo_rollback_15 : decode c_Mo_rollback 15 = .ok (.getfield 117, 3) := by decide +kernel
theorem d_Mo_rollback_18 : decode c_Mo_rollback 18 = .ok (.aload_n 0, 1) := by decide +kernel
theorem d_Mo_rollback_19 : decode c_Mo_rollback 19 = .ok (.getfield 148, 3) := by decide +kernel
theorem d_Mo_rollback_22 : decode c_Mo_rollback 22 = .ok (.isub, 1) := by decide +kernel
theorem d_Mo_rollback_23 : decode c_Mo_rollback 23 = .ok (.istore_n 1, 1) := by decide +kernel
theorem d_Mo_rollback_24 : decode c_Mo_rollback 24 = .ok (.aload_n 0, 1) := by decide +kernel
theorem d_Mo_rollback_25 : decode c_Mo_rollback 25 = .ok (.aload_n 0, 1) := by decide +kernel
theorem d_Mo_rollback_26 : decode c_Mo_rollback 26 = .ok (.getfield 148, 3) := by decide +kernel
theorem d_Mo_rollback_29 : decode c_Mo_rollback 29 = .ok (.invokevirtual 151, 3) := by decide +kernel
theorem d_Mo_rollback_32 : decode c_Mo_rollback 32 = .ok (.aload_n 0, 1) := by decide +kernel
theorem d_Mo_rollback_33 : decode c_Mo_rollback 33 = .ok (.iconst 0, 1) := by decide +kernel
theorem d_Mo_rollback_34 : decode c_Mo_rollback 34 = .ok (.putfield 123, 3) := by decide +kernel
theorem d_Mo_rollback_37 : decode c_Mo_rollback 37 = .ok (.iload_n 1, 1) := by decide +kernel
theorem d_Mo_rollback_38 : decode c_Mo_rollback 38 = .ok (.ireturn, 1) := by decide +kernel
theorem d_Mo_settle_0 : decode c_Mo_settle 0 = .ok (.aload_n 0, 1) := by decide +kernel
theorem d_Mo_settle_1 : decode c_Mo_settle 1 = .ok (.getfield 123, 3) := by decide +kernel
theorem d_Mo_settle_4 : decode c_Mo_settle 4 = .ok (.ifCond .eq 15, 3) := by decide +kernel
theorem d_Mo_settle_7 : decode c_Mo_settle 7 = .ok (.aload_n 0, 1) := by decide +kernel
theorem d_Mo_settle_8 : decode c_Mo_settle 8 = .ok (.getfield 117, 3) := by decide +kernel
theorem d_Mo_settle_11 : decode c_Mo_settle 11 = .ok (.aload_n 0, 1) := by decide +kernel
theorem d_Mo_settle_12 : decode c_Mo_settle 12 = .ok (.getfield 148, 3) := by decide +kernel
theorem d_Mo_settle_15 : decode c_Mo_settle 15 = .ok (.isub, 1) := by decide +kernel
theorem d_Mo_settle_16 : decode c_Mo_settle 16 = .ok (.goto 4, 3) := by decide +kernel
theorem d_Mo_settle_19 : decode c_Mo_settle 19 = .ok (.iconst 0, 1) := by decide +kernel
theorem d_Mo_settle_20 : decode c_Mo_settle 20 = .ok (.istore_n 1, 1) := by decide +kernel
theorem d_Mo_settle_21 : decode c_Mo_settle 21 = .ok (.aload_n 0, 1) := by decide +kernel
theorem d_Mo_settle_22 : decode c_Mo_settle 22 = .ok (.getfield 117, 3) := by decide +kernel
theorem d_Mo_settle_25 : decode c_Mo_settle 25 = .ok (.iload_n 1, 1) := by decide +kernel
theorem d_Mo_settle_26 : decode c_Mo_settle 26 = .ok (.isub, 1) := by decide +kernel
theorem d_Mo_settle_27 : decode c_Mo_settle 27 = .ok (.istore_n 2, 1) := by decide +kernel
theorem d_Mo_settle_28 : decode c_Mo_settle 28 = .ok (.aload_n 0, 1) := by decide +kernel
theorem d_Mo_settle_29 : decode c_Mo_settle 29 = .ok (.getfield 117, 3) := by decide +kernel
theorem d_Mo_settle_32 : decode c_Mo_settle 32 = .ok (.iconst 1, 1) := by decide +kernel
theorem d_Mo_settle_33 : decode c_Mo_settle 33 = .ok (.isub, 1) := by decide +kernel
theorem d_Mo_settle_34 : decode c_Mo_settle 34 = .ok (.istore_n 3, 1) := by decide +kernel
theorem d_Mo_settle_35 : decode c_Mo_settle 35 = .ok (.iload_n 3, 1) := by decide +kernel
theorem d_Mo_settle_36 : decode c_Mo_settle 36 = .ok (.iload_n 2, 1) := by decide +kernel
theorem d_Mo_settle_37 : decode c_Mo_settle 37 = .ok (.if_icmp .lt 55, 3) := by decide +kernel
theorem d_Mo_settle_40 : decode c_Mo_settle 40 = .ok (.aload_n 0, 1) := by decide +kernel
theorem d_Mo_settle_41 : decode c_Mo_settle 41 = .ok (.aload_n 0, 1) := by decide +kernel
theorem d_Mo_settle_42 : decode c_Mo_settle 42 = .ok (.getfield 19, 3) := by decide +kernel
theorem d_Mo_settle_45 : decode c_Mo_settle 45 = .ok (.iload_n 3, 1) := by decide +kernel
theorem d_Mo_settle_46 : decode c_Mo_settle 46 = .ok (.baload, 1) := by decide +kernel
theorem d_Mo_settle_47 : decode c_Mo_settle 47 = .ok (.ifCond .ne 7, 3) := by decide +kernel
theorem d_Mo_settle_50 : decode c_Mo_settle 50 = .ok (.iconst 1, 1) := by decide +kernel
theorem d_Mo_settle_51 : decode c_Mo_settle 51 = .ok (.goto 4, 3) := by decide +kernel
theorem d_Mo_settle_54 : decode c_Mo_settle 54 = .ok (.iconst 0, 1) := by decide +kernel
theorem d_Mo_settle_55 : decode c_Mo_settle 55 = .ok (.aload_n 0, 1) := by decide +kernel
theorem d_Mo_settle_56 : decode c_Mo_settle 56 = .ok (.getfield 16, 3) := by decide +kernel
theorem d_Mo_settle_59 : decode c_Mo_settle 59 = .ok (.iconst 3, 1) := by decide +kernel
theorem d_Mo_settle_60 : decode c_Mo_settle 60 = .ok (.iload_n 3, 1) := by decide +kernel
theorem d_Mo_settle_61 : decode c_Mo_settle 61 = .ok (.imul, 1) := by decide +kernel
theorem d_Mo_settle_62 : decode c_Mo_settle 62 = .ok (.laload, 1) := by decide +kernel
theorem d_Mo_settle_63 : decode c_Mo_settle 63 = .ok (.aload_n 0, 1) := by decide +kernel
theorem d_Mo_settle_64 : decode c_Mo_settle 64 = .ok (.getfield 16, 3) := by decide +kernel
theorem d_Mo_settle_67 : decode c_Mo_settle 67 = .ok (.iconst 3, 1) := by decide +kernel
theorem d_Mo_settle_68 : decode c_Mo_settle 68 = .ok (.iload_n 3, 1) := by decide +kernel
theorem d_Mo_settle_69 : decode c_Mo_settle 69 = .ok (.imul, 1) := by decide +kernel
theorem d_Mo_settle_70 : decode c_Mo_settle 70 = .ok (.iconst 1, 1) := by decide +kernel
theorem d_Mo_settle_71 : decode c_Mo_settle 71 = .ok (.iadd, 1) := by decide +kernel
theorem d_Mo_settle_72 : decode c_Mo_settle 72 = .ok (.laload, 1) := by decide +kernel
theorem d_Mo_settle_73 : decode c_Mo_settle 73 = .ok (.aload_n 0, 1) := by decide +kernel
theorem d_Mo_settle_74 : decode c_Mo_settle 74 = .ok (.getfield 16, 3) := by decide +kernel
theorem d_Mo_settle_77 : decode c_Mo_settle 77 = .ok (.iconst 3, 1) := by decide +kernel
theorem d_Mo_settle_78 : decode c_Mo_settle 78 = .ok (.iload_n 3, 1) := by decide +kernel
theorem d_Mo_settle_79 : decode c_Mo_settle 79 = .ok (.imul, 1) := by decide +kernel
theorem d_Mo_settle_80 : decode c_Mo_settle 80 = .ok (.iconst 2, 1) := by decide +kernel
theorem d_Mo_settle_81 : decode c_Mo_settle 81 = .ok (.iadd, 1) := by decide +kernel
theorem d_Mo_settle_82 : decode c_Mo_settle 82 = .ok (.laload, 1) := by decide +kernel
theorem d_Mo_settle_83 : decode c_Mo_settle 83 = .ok (.invokevirtual 113, 3) := by decide +kernel
theorem d_Mo_settle_86 : decode c_Mo_settle 86 = .ok (.iinc 3 (-1), 3) := by decide +kernel
theorem d_Mo_settle_89 : decode c_Mo_settle 89 = .ok (.goto (-54), 3) := by decide +kernel
theorem d_Mo_settle_92 : decode c_Mo_settle 92 = .ok (.iconst 0, 1) := by decide +kernel
theorem d_Mo_settle_93 : decode c_Mo_settle 93 = .ok (.istore_n 3, 1) := by decide +kernel
theorem d_Mo_settle_94 : decode c_Mo_settle 94 = .ok (.iload_n 3, 1) := by decide +kernel
theorem d_Mo_settle_95 : decode c_Mo_settle 95 = .ok (.iconst 3, 1) := by decide +kernel
theorem d_Mo_settle_96 : decode c_Mo_settle 96 = .ok (.aload_n 0, 1) := by decide +kernel
theorem d_Mo_settle_97 : decode c_Mo_settle 97 = .ok (.getfield 102, 3) := by decide +kernel
theorem d_Mo_settle_100 : decode c_Mo_settle 100 = .ok (.imul, 1) := by decide +kernel
theorem d_Mo_settle_101 : decode c_Mo_settle 101 = .ok (.if_icmp .ge 21, 3) := by decide +kernel
theorem d_Mo_settle_104 : decode c_Mo_settle 104 = .ok (.aload_n 0, 1) := by decide +kernel
theorem d_Mo_settle_105 : decode c_Mo_settle 105 = .ok (.getfield 13, 3) := by decide +kernel
theorem d_Mo_settle_108 : decode c_Mo_settle 108 = .ok (.iload_n 3, 1) := by decide +kernel
theorem d_Mo_settle_109 : decode c_Mo_settle 109 = .ok (.aload_n 0, 1) := by decide +kernel
theorem d_Mo_settle_110 : decode c_Mo_settle 110 = .ok (.getfield 7, 3) := by decide +kernel
theorem d_Mo_settle_113 : decode c_Mo_settle 113 = .ok (.iload_n 3, 1) := by decide +kernel
theorem d_Mo_settle_114 : decode c_Mo_settle 114 = .ok (.laload, 1) := by decide +kernel
theorem d_Mo_settle_115 : decode c_Mo_settle 115 = .ok (.lastore, 1) := by decide +kernel
theorem d_Mo_settle_116 : decode c_Mo_settle 116 = .ok (.iinc 3 1, 3) := by decide +kernel
theorem d_Mo_settle_119 : decode c_Mo_settle 119 = .ok (.goto (-25), 3) := by decide +kernel
theorem d_Mo_settle_122 : decode c_Mo_settle 122 = .ok (.aload_n 0, 1) := by decide +kernel
theorem d_Mo_settle_123 : decode c_Mo_settle 123 = .ok (.aload_n 0, 1) := by decide +kernel
theorem d_Mo_settle_124 : decode c_Mo_settle 124 = .ok (.getfield 102, 3) := by decide +kernel
theorem d_Mo_settle_127 : decode c_Mo_settle 127 = .ok (.putfield 155, 3) := by decide +kernel
theorem d_Mo_settle_130 : decode c_Mo_settle 130 = .ok (.iconst 0, 1) := by decide +kernel
theorem d_Mo_settle_131 : decode c_Mo_settle 131 = .ok (.istore_n 3, 1) := by decide +kernel
theorem d_Mo_settle_132 : decode c_Mo_settle 132 = .ok (.iload_n 3, 1) := by decide +kernel
theorem d_Mo_settle_133 : decode c_Mo_settle 133 = .ok (.iload_n 1, 1) := by decide +kernel
theorem d_Mo_settle_134 : decode c_Mo_settle 134 = .ok (.if_icmp .ge 107, 3) := by decide +kernel
theorem d_Mo_settle_137 : decode c_Mo_settle 137 = .ok (.iconst 0, 1) := by decide +kernel
theorem d_Mo_settle_138 : decode c_Mo_settle 138 = .ok (.istore 4, 2) := by decide +kernel
theorem d_Mo_settle_140 : decode c_Mo_settle 140 = .ok (.iload 4, 2) := by decide +kernel
theorem d_Mo_settle_142 : decode c_Mo_settle 142 = .ok (.iconst 3, 1) := by decide +kernel
theorem d_Mo_settle_143 : decode c_Mo_settle 143 = .ok (.if_icmp .ge 33, 3) := by decide +kernel
theorem d_Mo_settle_146 : decode c_Mo_settle 146 = .ok (.aload_n 0, 1) := by decide +kernel
theorem d_Mo_settle_147 : decode c_Mo_settle 147 = .ok (.getfield 16, 3) := by decide +kernel
theorem d_Mo_settle_150 : decode c_Mo_settle 150 = .ok (.iconst 3, 1) := by decide +kernel
theorem d_Mo_settle_151 : decode c_Mo_settle 151 = .ok (.iload_n 3, 1) := by decide +kernel
theorem d_Mo_settle_152 : decode c_Mo_settle 152 = .ok (.imul, 1) := by decide +kernel
theorem d_Mo_settle_153 : decode c_Mo_settle 153 = .ok (.iload 4, 2) := by decide +kernel
theorem d_Mo_settle_155 : decode c_Mo_settle 155 = .ok (.iadd, 1) := by decide +kernel
theorem d_Mo_settle_156 : decode c_Mo_settle 156 = .ok (.aload_n 0, 1) := by decide +kernel
theorem d_Mo_settle_157 : decode c_Mo_settle 157 = .ok (.getfield 16, 3) := by decide +kernel
theorem d_Mo_settle_160 : decode c_Mo_settle 160 = .ok (.iconst 3, 1) := by decide +kernel
theorem d_Mo_settle_161 : decode c_Mo_settle 161 = .ok (.iload_n 2, 1) := by decide +kernel
theorem d_Mo_settle_162 : decode c_Mo_settle 162 = .ok (.iload_n 3, 1) := by decide +kernel
theorem d_Mo_settle_163 : decode c_Mo_settle 163 = .ok (.iadd, 1) := by decide +kernel
theorem d_Mo_settle_164 : decode c_Mo_settle 164 = .ok (.imul, 1) := by decide +kernel
theorem d_Mo_settle_165 : decode c_Mo_settle 165 = .ok (.iload 4, 2) := by decide +kernel
theorem d_Mo_settle_167 : decode c_Mo_settle 167 = .ok (.iadd, 1) := by decide +kernel
theorem d_Mo_settle_168 : decode c_Mo_settle 168 = .ok (.laload, 1) := by decide +kernel
theorem d_Mo_settle_169 : decode c_Mo_settle 169 = .ok (.lastore, 1) := by decide +kernel
theorem d_Mo_settle_170 : decode c_Mo_settle 170 = .ok (.iinc 4 1, 3) := by decide +kernel
theorem d_Mo_settle_173 : decode c_Mo_settle 173 = .ok (.goto (-33), 3) := by decide +kernel
theorem d_Mo_settle_176 : decode c_Mo_settle 176 = .ok (.aload_n 0, 1) := by decide +kernel
theorem d_Mo_settle_177 : decode c_Mo_settle 177 = .ok (.getfield 19, 3) := by decide +kernel
theorem d_Mo_settle_180 : decode c_Mo_settle 180 = .ok (.iload_n 3, 1) := by decide +kernel
theorem d_Mo_settle_181 : decode c_Mo_settle 181 = .ok (.aload_n 0, 1) := by decide +kernel
theorem d_Mo_settle_182 : decode c_Mo_settle 182 = .ok (.getfield 19, 3) := by decide +kernel
theorem d_Mo_settle_185 : decode c_Mo_settle 185 = .ok (.iload_n 2, 1) := by decide +kernel
theorem d_Mo_settle_186 : decode c_Mo_settle 186 = .ok (.iload_n 3, 1) := by decide +kernel
theorem d_Mo_settle_187 : decode c_Mo_settle 187 = .ok (.iadd, 1) := by decide +kernel
theorem d_Mo_settle_188 : decode c_Mo_settle 188 = .ok (.baload, 1) := by decide +kernel
theorem d_Mo_settle_189 : decode c_Mo_settle 189 = .ok (.bastore, 1) := by decide +kernel
theorem d_Mo_settle_190 : decode c_Mo_settle 190 = .ok (.aload_n 0, 1) := by decide +kernel
theorem d_Mo_settle_191 : decode c_Mo_settle 191 = .ok (.getfield 23, 3) := by decide +kernel
theorem d_Mo_settle_194 : decode c_Mo_settle 194 = .ok (.iload_n 3, 1) := by decide +kernel
theorem d_Mo_settle_195 : decode c_Mo_settle 195 = .ok (.iconst 0, 1) := by decide +kernel
theorem d_Mo_settle_196 : decode c_Mo_settle 196 = .ok (.iastore, 1) := by decide +kernel
theorem d_Mo_settle_197 : decode c_Mo_settle 197 = .ok (.aload_n 0, 1) := by decide +kernel
theorem d_Mo_settle_198 : decode c_Mo_settle 198 = .ok (.aload_n 0, 1) := by decide +kernel
theorem d_Mo_settle_199 : decode c_Mo_settle 199 = .ok (.getfield 19, 3) := by decide +kernel
theorem d_Mo_settle_202 : decode c_Mo_settle 202 = .ok (.iload_n 3, 1) := by decide +kernel
theorem d_Mo_settle_203 : decode c_Mo_settle 203 = .ok (.baload, 1) := by decide +kernel
theorem d_Mo_settle_204 : decode c_Mo_settle 204 = .ok (.aload_n 0, 1) := by decide +kernel
theorem d_Mo_settle_205 : decode c_Mo_settle 205 = .ok (.getfield 16, 3) := by decide +kernel
theorem d_Mo_settle_208 : decode c_Mo_settle 208 = .ok (.iconst 3, 1) := by decide +kernel
theorem d_Mo_settle_209 : decode c_Mo_settle 209 = .ok (.iload_n 3, 1) := by decide +kernel
theorem d_Mo_settle_210 : decode c_Mo_settle 210 = .ok (.imul, 1) := by decide +kernel
theorem d_Mo_settle_211 : decode c_Mo_settle 211 = .ok (.laload, 1) := by decide +kernel
theorem d_Mo_settle_212 : decode c_Mo_settle 212 = .ok (.aload_n 0, 1) := by decide +kernel
theorem d_Mo_settle_213 : decode c_Mo_settle 213 = .ok (.getfield 16, 3) := by decide +kernel
theorem d_Mo_settle_216 : decode c_Mo_settle 216 = .ok (.iconst 3, 1) := by decide +kernel
theorem d_Mo_settle_217 : decode c_Mo_settle 217 = .ok (.iload_n 3, 1) := by decide +kernel
theorem d_Mo_settle_218 : decode c_Mo_settle 218 = .ok (.imul, 1) := by decide +kernel
theorem d_Mo_settle_219 : decode c_Mo_settle 219 = .ok (.iconst 1, 1) := by decide +kernel
theorem d_Mo_settle_220 : decode c_Mo_settle 220 = .ok (.iadd, 1) := by decide +kernel
theorem d_Mo_settle_221 : decode c_Mo_settle 221 = .ok (.laload, 1) := by decide +kernel
theorem d_Mo_settle_222 : decode c_Mo_settle 222 = .ok (.aload_n 0, 1) := by decide +kernel
theorem d_Mo_settle_223 : decode c_Mo_settle 223 = .ok (.getfield 16, 3) := by decide +kernel
theorem d_Mo_settle_226 : decode c_Mo_settle 226 = .ok (.iconst 3, 1) := by decide +kernel
theorem d_Mo_settle_227 : decode c_Mo_settle 227 = .ok (.iload_n 3, 1) := by decide +kernel
theorem d_Mo_settle_228 : decode c_Mo_settle 228 = .ok (.imul, 1) := by decide +kernel
theorem d_Mo_settle_229 : decode c_Mo_settle 229 = .ok (.iconst 2, 1) := by decide +kernel
theorem d_Mo_settle_230 : decode c_Mo_settle 230 = .ok (.iadd, 1) := by decide +kernel
theorem d_Mo_settle_231 : decode c_Mo_settle 231 = .ok (.laload, 1) := by decide +kernel
theorem d_Mo_settle_232 : decode c_Mo_settle 232 = .ok (.invokevirtual 113, 3) := by decide +kernel
theorem d_Mo_settle_235 : decode c_Mo_settle 235 = .ok (.iinc 3 1, 3) := by decide +kernel
theorem d_Mo_settle_238 : decode c_Mo_settle 238 = .ok (.goto (-106), 3) := by decide +kernel
theorem d_Mo_settle_241 : decode c_Mo_settle 241 = .ok (.aload_n 0, 1) := by decide +kernel
theorem d_Mo_settle_242 : decode c_Mo_settle 242 = .ok (.iload_n 1, 1) := by decide +kernel
theorem d_Mo_settle_243 : decode c_Mo_settle 243 = .ok (.putfield 117, 3) := by decide +kernel
theorem d_Mo_settle_246 : decode c_Mo_settle 246 = .ok (.aload_n 0, 1) := by decide +kernel
theorem d_Mo_settle_247 : decode c_Mo_settle 247 = .ok (.iconst 0, 1) := by decide +kernel
theorem d_Mo_settle_248 : decode c_Mo_settle 248 = .ok (.putfield 148, 3) := by decide +kernel
theorem d_Mo_settle_251 : decode c_Mo_settle 251 = .ok (.aload_n 0, 1) := by decide +kernel
theorem d_Mo_settle_252 : decode c_Mo_settle 252 = .ok (.iconst 0, 1) := by decide +kernel
theorem d_Mo_settle_253 : decode c_Mo_settle 253 = .ok (.putfield 120, 3) := by decide +kernel
theorem d_Mo_settle_256 : decode c_Mo_settle 256 = .ok (.return_, 1) := by decide +kernel
theorem d_Mo_sync_0 : decode c_Mo_sync 0 = .ok (.aload_n 0, 1) := by decide +kernel
theorem d_Mo_sync_1 : decode c_Mo_sync 1 = .ok (.iconst 0, 1) := by decide +kernel
theorem d_Mo_sync_2 : decode c_Mo_sync 2 = .ok (.putfield 91, 3) := by decide +kernel
theorem d_Mo_sync_5 : decode c_Mo_sync 5 = .ok (.aload_n 0, 1) := by decide +kernel
theorem d_Mo_sync_6 : decode c_Mo_sync 6 = .ok (.getfield 120, 3) := by decide +kernel
theorem d_Mo_sync_9 : decode c_Mo_sync 9 = .ok (.istore_n 1, 1) := by decide +kernel
theorem d_Mo_sync_10 : decode c_Mo_sync 10 = .ok (.aload_n 0, 1) := by decide +kernel
theorem d_Mo_sync_11 : decode c_Mo_sync 11 = .ok (.invokevirtual 158, 3) := by decide +kernel
theorem d_Mo_sync_14 : decode c_Mo_sync 14 = .ok (.iload_n 1, 1) := by decide +kernel
theorem d_Mo_sync_15 : decode c_Mo_sync 15 = .ok (.ireturn, 1) := by decide +kernel
theorem d_Mo_crash_0 : decode c_Mo_crash 0 = .ok (.aload_n 0, 1) := by decide +kernel
theorem d_Mo_crash_1 : decode c_Mo_crash 1 = .ok (.iload_n 1, 1) := by decide +kernel
theorem d_Mo_crash_2 : decode c_Mo_crash 2 = .ok (.iconst 0, 1) := by decide +kernel
theorem d_Mo_crash_3 : decode c_Mo_crash 3 = .ok (.sipush 1000, 3) := by decide +kernel
theorem d_Mo_crash_6 : decode c_Mo_crash 6 = .ok (.invokestatic 94, 3) := by decide +kernel
theorem d_Mo_crash_9 : decode c_Mo_crash 9 = .ok (.iconst 1, 1) := by decide +kernel
theorem d_Mo_crash_10 : decode c_Mo_crash 10 = .ok (.invokevirtual 109, 3) := by decide +kernel
theorem d_Mo_crash_13 : decode c_Mo_crash 13 = .ok (.ifCond .ne 5, 3) := by decide +kernel
theorem d_Mo_crash_16 : decode c_Mo_crash 16 = .ok (.iconst 0, 1) := by decide +kernel
theorem d_Mo_crash_17 : decode c_Mo_crash 17 = .ok (.ireturn, 1) := by decide +kernel
theorem d_Mo_crash_18 : decode c_Mo_crash 18 = .ok (.iconst 0, 1) := by decide +kernel
theorem d_Mo_crash_19 : decode c_Mo_crash 19 = .ok (.istore_n 2, 1) := by decide +kernel
theorem d_Mo_crash_20 : decode c_Mo_crash 20 = .ok (.iload_n 2, 1) := by decide +kernel
theorem d_Mo_crash_21 : decode c_Mo_crash 21 = .ok (.iconst 3, 1) := by decide +kernel
theorem d_Mo_crash_22 : decode c_Mo_crash 22 = .ok (.aload_n 0, 1) := by decide +kernel
theorem d_Mo_crash_23 : decode c_Mo_crash 23 = .ok (.getfield 155, 3) := by decide +kernel
theorem d_Mo_crash_26 : decode c_Mo_crash 26 = .ok (.imul, 1) := by decide +kernel
theorem d_Mo_crash_27 : decode c_Mo_crash 27 = .ok (.if_icmp .ge 21, 3) := by decide +kernel
theorem d_Mo_crash_30 : decode c_Mo_crash 30 = .ok (.aload_n 0, 1) := by decide +kernel
theorem d_Mo_crash_31 : decode c_Mo_crash 31 = .ok (.getfield 7, 3) := by decide +kernel
theorem d_Mo_crash_34 : decode c_Mo_crash 34 = .ok (.iload_n 2, 1) := by decide +kernel
theorem d_Mo_crash_35 : decode c_Mo_crash 35 = .ok (.aload_n 0, 1) := by decide +kernel
theorem d_Mo_crash_36 : decode c_Mo_crash 36 = .ok (.getfield 13, 3) := by decide +kernel
theorem d_Mo_crash_39 : decode c_Mo_crash 39 = .ok (.iload_n 2, 1) := by decide +kernel
theorem d_Mo_crash_40 : decode c_Mo_crash 40 = .ok (.laload, 1) := by decide +kernel
theorem d_Mo_crash_41 : decode c_Mo_crash 41 = .ok (.lastore, 1) := by decide +kernel
theorem d_Mo_crash_42 : decode c_Mo_crash 42 = .ok (.iinc 2 1, 3) := by decide +kernel
theorem d_Mo_crash_45 : decode c_Mo_crash 45 = .ok (.goto (-25), 3) := by decide +kernel
theorem d_Mo_crash_48 : decode c_Mo_crash 48 = .ok (.aload_n 0, 1) := by decide +kernel
theorem d_Mo_crash_49 : decode c_Mo_crash 49 = .ok (.aload_n 0, 1) := by decide +kernel
theorem d_Mo_crash_50 : decode c_Mo_crash 50 = .ok (.getfield 155, 3) := by decide +kernel
theorem d_Mo_crash_53 : decode c_Mo_crash 53 = .ok (.putfield 102, 3) := by decide +kernel
theorem d_Mo_crash_56 : decode c_Mo_crash 56 = .ok (.aload_n 0, 1) := by decide +kernel
theorem d_Mo_crash_57 : decode c_Mo_crash 57 = .ok (.getfield 123, 3) := by decide +kernel
theorem d_Mo_crash_60 : decode c_Mo_crash 60 = .ok (.ifCond .eq 10, 3) := by decide +kernel
theorem d_Mo_crash_63 : decode c_Mo_crash 63 = .ok (.aload_n 0, 1) := by decide +kernel
theorem d_Mo_crash_64 : decode c_Mo_crash 64 = .ok (.getfield 148, 3) := by decide +kernel
theorem d_Mo_crash_67 : decode c_Mo_crash 67 = .ok (.goto 7, 3) := by decide +kernel
theorem d_Mo_crash_70 : decode c_Mo_crash 70 = .ok (.aload_n 0, 1) := by decide +kernel
theorem d_Mo_crash_71 : decode c_Mo_crash 71 = .ok (.getfield 117, 3) := by decide +kernel
theorem d_Mo_crash_74 : decode c_Mo_crash 74 = .ok (.istore_n 2, 1) := by decide +kernel
theorem d_Mo_crash_75 : decode c_Mo_crash 75 = .ok (.iconst 0, 1) := by decide +kernel
theorem d_Mo_crash_76 : decode c_Mo_crash 76 = .ok (.istore_n 3, 1) := by decide +kernel
theorem d_Mo_crash_77 : decode c_Mo_crash 77 = .ok (.iload_n 3, 1) := by decide +kernel
theorem d_Mo_crash_78 : decode c_Mo_crash 78 = .ok (.iload_n 2, 1) := by decide +kernel
theorem d_Mo_crash_79 : decode c_Mo_crash 79 = .ok (.if_icmp .ge 57, 3) := by decide +kernel
theorem d_Mo_crash_82 : decode c_Mo_crash 82 = .ok (.aload_n 0, 1) := by decide +kernel
theorem d_Mo_crash_83 : decode c_Mo_crash 83 = .ok (.getfield 23, 3) := by decide +kernel
theorem d_Mo_crash_86 : decode c_Mo_crash 86 = .ok (.iload_n 3, 1) := by decide +kernel
theorem d_Mo_crash_87 : decode c_Mo_crash 87 = .ok (.iaload, 1) := by decide +kernel
theorem d_Mo_crash_88 : decode c_Mo_crash 88 = .ok (.iload_n 1, 1) := by decide +kernel
theorem d_Mo_crash_89 : decode c_Mo_crash 89 = .ok (.if_icmp .ge 41, 3) := by decide +kernel
theorem d_Mo_crash_92 : decode c_Mo_crash 92 = .ok (.aload_n 0, 1) := by decide +kernel
theorem d_Mo_crash_93 : decode c_Mo_crash 93 = .ok (.aload_n 0, 1) := by decide +kernel
theorem d_Mo_crash_94 : decode c_Mo_crash 94 = .ok (.getfield 19, 3) := by decide +kernel
theorem d_Mo_crash_97 : decode c_Mo_crash 97 = .ok (.iload_n 3, 1) := by decide +kernel
theorem d_Mo_crash_98 : decode c_Mo_crash 98 = .ok (.baload, 1) := by decide +kernel
theorem d_Mo_crash_99 : decode c_Mo_crash 99 = .ok (.aload_n 0, 1) := by decide +kernel
theorem d_Mo_crash_100 : decode c_Mo_crash 100 = .ok (.getfield 16, 3) := by decide +kernel
theorem d_Mo_crash_103 : decode c_Mo_crash 103 = .ok (.iconst 3, 1) := by decide +kernel
theorem d_Mo_crash_104 : decode c_Mo_crash 104 = .ok (.iload_n 3, 1) := by decide +kernel
theorem d_Mo_crash_105 : decode c_Mo_crash 105 = .ok (.imul, 1) := by decide +kernel
theorem d_Mo_crash_106 : decode c_Mo_crash 106 = .ok (.laload, 1) := by decide +kernel
theorem d_Mo_crash_107 : decode c_Mo_crash 107 = .ok (.aload_n 0, 1) := by decide +kernel
theorem d_Mo_crash_108 : decode c_Mo_crash 108 = .ok (.getfield 16, 3) := by decide +kernel
theorem d_Mo_crash_111 : decode c_Mo_crash 111 = .ok (.iconst 3, 1) := by decide +kernel
theorem d_Mo_crash_112 : decode c_Mo_crash 112 = .ok (.iload_n 3, 1) := by decide +kernel
theorem d_Mo_crash_113 : decode c_Mo_crash 113 = .ok (.imul, 1) := by decide +kernel
theorem d_Mo_crash_114 : decode c_Mo_crash 114 = .ok (.iconst 1, 1) := by decide +kernel
theorem d_Mo_crash_115 : decode c_Mo_crash 115 = .ok (.iadd, 1) := by decide +kernel
theorem d_Mo_crash_116 : decode c_Mo_crash 116 = .ok (.laload, 1) := by decide +kernel
theorem d_Mo_crash_117 : decode c_Mo_crash 117 = .ok (.aload_n 0, 1) := by decide +kernel
theorem d_Mo_crash_118 : decode c_Mo_crash 118 = .ok (.getfield 16, 3) := by decide +kernel
theorem d_Mo_crash_121 : decode c_Mo_crash 121 = .ok (.iconst 3, 1) := by decide +kernel
theorem d_Mo_crash_122 : decode c_Mo_crash 122 = .ok (.iload_n 3, 1) := by decide +kernel
theorem d_Mo_crash_123 : decode c_Mo_crash 123 = .ok (.imul, 1) := by decide +kernel
theorem d_Mo_crash_124 : decode c_Mo_crash 124 = .ok (.iconst 2, 1) := by decide +kernel
theorem d_Mo_crash_125 : decode c_Mo_crash 125 = .ok (.iadd, 1) := by decide +kernel
theorem d_Mo_crash_126 : decode c_Mo_crash 126 = .ok (.laload, 1) := by decide +kernel
theorem d_Mo_crash_127 : decode c_Mo_crash 127 = .ok (.invokevirtual 113, 3) := by decide +kernel
theorem d_Mo_crash_130 : decode c_Mo_crash 130 = .ok (.iinc 3 1, 3) := by decide +kernel
theorem d_Mo_crash_133 : decode c_Mo_crash 133 = .ok (.goto (-56), 3) := by decide +kernel
theorem d_Mo_crash_136 : decode c_Mo_crash 136 = .ok (.aload_n 0, 1) := by decide +kernel
theorem d_Mo_crash_137 : decode c_Mo_crash 137 = .ok (.iconst 0, 1) := by decide +kernel
theorem d_Mo_crash_138 : decode c_Mo_crash 138 = .ok (.putfield 123, 3) := by decide +kernel
theorem d_Mo_crash_141 : decode c_Mo_crash 141 = .ok (.aload_n 0, 1) := by decide +kernel
theorem d_Mo_crash_142 : decode c_Mo_crash 142 = .ok (.iconst 0, 1) := by decide +kernel
theorem d_Mo_crash_143 : decode c_Mo_crash 143 = .ok (.putfield 117, 3) := by decide +kernel
theorem d_Mo_crash_146 : decode c_Mo_crash 146 = .ok (.aload_n 0, 1) := by decide +kernel
theorem d_Mo_crash_147 : decode c_Mo_crash 147 = .ok (.invokevirtual 158, 3) := by decide +kernel
theorem d_Mo_crash_150 : decode c_Mo_crash 150 = .ok (.aload_n 0, 1) := by decide +kernel
theorem d_Mo_crash_151 : decode c_Mo_crash 151 = .ok (.getfield 102, 3) := by decide +kernel
theorem d_Mo_crash_154 : decode c_Mo_crash 154 = .ok (.ireturn, 1) := by decide +kernel
theorem d_Mo_append_0 : decode c_Mo_append 0 = .ok (.aload_n 0, 1) := by decide +kernel
theorem d_Mo_append_1 : decode c_Mo_append 1 = .ok (.iload_n 3, 1) := by decide +kernel
theorem d_Mo_append_2 : decode c_Mo_append 2 = .ok (.iconst 1, 1) := by decide +kernel
theorem d_Mo_append_3 : decode c_Mo_append 3 = .ok (.bipush 8, 2) := by decide +kernel
theorem d_Mo_append_5 : decode c_Mo_append 5 = .ok (.invokestatic 94, 3) := by decide +kernel
theorem d_Mo_append_8 : decode c_Mo_append 8 = .ok (.iconst 1, 1) := by decide +kernel
theorem d_Mo_append_9 : decode c_Mo_append 9 = .ok (.invokevirtual 109, 3) := by decide +kernel
theorem d_Mo_append_12 : decode c_Mo_append 12 = .ok (.ifCond .ne 5, 3) := by decide +kernel
theorem d_Mo_append_15 : decode c_Mo_append 15 = .ok (.iconst 0, 1) := by decide +kernel
theorem d_Mo_append_16 : decode c_Mo_append 16 = .ok (.ireturn, 1) := by decide +kernel
theorem d_Mo_append_17 : decode c_Mo_append 17 = .ok (.iconst 0, 1) := by decide +kernel
theorem d_Mo_append_18 : decode c_Mo_append 18 = .ok (.istore 4, 2) := by decide +kernel
theorem d_Mo_append_20 : decode c_Mo_append 20 = .ok (.iload 4, 2) := by decide +kernel
theorem d_Mo_append_22 : decode c_Mo_append 22 = .ok (.iload_n 3, 1) := by decide +kernel
theorem d_Mo_append_23 : decode c_Mo_append 23 = .ok (.if_icmp .ge 38, 3) := by decide +kernel
theorem d_Mo_append_26 : decode c_Mo_append 26 = .ok (.aload_n 0, 1) := by decide +kernel
theorem d_Mo_append_27 : decode c_Mo_append 27 = .ok (.lload_n 1, 1) := by decide +kernel
theorem d_Mo_append_28 : decode c_Mo_append 28 = .ok (.bipush 8, 2) := by decide +kernel
theorem d_Mo_append_30 : decode c_Mo_append 30 = .ok (.iload 4, 2) := by decide +kernel
theorem d_Mo_append_32 : decode c_Mo_append 32 = .ok (.imul, 1) := by decide +kernel
theorem d_Mo_append_33 : decode c_Mo_append 33 = .ok (.lshr, 1) := by decide +kernel
theorem d_Mo_append_34 : decode c_Mo_append 34 = .ok (.l2i, 1) := by decide +kernel
theorem d_Mo_append_35 : decode c_Mo_append 35 = .ok (.sipush 255, 3) := by decide +kernel
theorem d_Mo_append_38 : decode c_Mo_append 38 = .ok (.iand, 1) := by decide +kernel
theorem d_Mo_append_39 : decode c_Mo_append 39 = .ok (.bipush 32, 2) := by decide +kernel
theorem d_Mo_append_41 : decode c_Mo_append 41 = .ok (.bipush 126, 2) := by decide +kernel
theorem d_Mo_append_43 : decode c_Mo_append 43 = .ok (.invokestatic 94, 3) := by decide +kernel
theorem d_Mo_append_46 : decode c_Mo_append 46 = .ok (.iconst 1, 1) := by decide +kernel
theorem d_Mo_append_47 : decode c_Mo_append 47 = .ok (.invokevirtual 109, 3) := by decide +kernel
theorem d_Mo_append_50 : decode c_Mo_append 50 = .ok (.ifCond .ne 5, 3) := by decide +kernel
theorem d_Mo_append_53 : decode c_Mo_append 53 = .ok (.iconst 0, 1) := by decide +kernel
theorem d_Mo_append_54 : decode c_Mo_append 54 = .ok (.ireturn, 1) := by decide +kernel
theorem d_Mo_append_55 : decode c_Mo_append 55 = .ok (.iinc 4 1, 3) := by decide +kernel
theorem d_Mo_append_58 : decode c_Mo_append 58 = .ok (.goto (-38), 3) := by decide +kernel
theorem d_Mo_append_61 : decode c_Mo_append 61 = .ok (.aload_n 0, 1) := by decide +kernel
theorem d_Mo_append_62 : decode c_Mo_append 62 = .ok (.aload_n 0, 1) := by decide +kernel
theorem d_Mo_append_63 : decode c_Mo_append 63 = .ok (.getfield 161, 3) := by decide +kernel
theorem d_Mo_append_66 : decode c_Mo_append 66 = .ok (.iload_n 3, 1) := by decide +kernel
theorem d_Mo_append_67 : decode c_Mo_append 67 = .ok (.iadd, 1) := by decide +kernel
theorem d_Mo_append_68 : decode c_Mo_append 68 = .ok (.sipush 160, 3) := by decide +kernel
theorem d_Mo_append_71 : decode c_Mo_append 71 = .ok (.if_icmp .gt 7, 3) := by decide +kernel
theorem d_Mo_append_74 : decode c_Mo_append 74 = .ok (.iconst 1, 1) := by decide +kernel
theorem d_Mo_append_75 : decode c_Mo_append 75 = .ok (.goto 4, 3) := by decide +kernel
theorem d_Mo_append_78 : decode c_Mo_append 78 = .ok (.iconst 0, 1) := by decide +kernel
theorem d_Mo_append_79 : decode c_Mo_append 79 = .ok (.iconst 2, 1) := by decide +kernel
theorem d_Mo_append_80 : decode c_Mo_append 80 = .ok (.invokevirtual 109, 3) := by decide +kernel
theorem d_Mo_append_83 : decode c_Mo_append 83 = .ok (.ifCond .ne 5, 3) := by decide +kernel
theorem d_Mo_append_86 : decode c_Mo_append 86 = .ok (.iconst 0, 1) := by decide +kernel
theorem d_Mo_append_87 : decode c_Mo_append 87 = .ok (.ireturn, 1) := by decide +kernel
theorem d_Mo_append_88 : decode c_Mo_append 88 = .ok (.iload_n 3, 1) := by decide +kernel
theorem d_Mo_append_89 : decode c_Mo_append 89 = .ok (.iconst 1, 1) := by decide +kernel
theorem d_Mo_append_90 : decode c_Mo_append 90 = .ok (.isub, 1) := by decide +kernel
theorem d_Mo_append_91 : decode c_Mo_append 91 = .ok (.istore 4, 2) := by decide +kernel
theorem d_Mo_append_93 : decode c_Mo_append 93 = .ok (.iload 4, 2) := by decide +kernel
theorem d_Mo_append_95 : decode c_Mo_append 95 = .ok (.ifCond .lt 40, 3) := by decide +kernel
theorem d_Mo_append_98 : decode c_Mo_append 98 = .ok (.aload_n 0, 1) := by decide +kernel
theorem d_Mo_append_99 : decode c_Mo_append 99 = .ok (.getfield 27, 3) := by decide +kernel
theorem d_Mo_append_102 : decode c_Mo_append 102 = .ok (.aload_n 0, 1) := by decide +kernel
theorem d_Mo_append_103 : decode c_Mo_append 103 = .ok (.getfield 161, 3) := by decide +kernel
theorem d_Mo_append_106 : decode c_Mo_append 106 = .ok (.lload_n 1, 1) := by decide +kernel
theorem d_Mo_append_107 : decode c_Mo_append 107 = .ok (.bipush 8, 2) := by decide +kernel
theorem d_Mo_append_109 : decode c_Mo_append 109 = .ok (.iload 4, 2) := by decide +kernel
theorem d_Mo_append_111 : decode c_Mo_append 111 = .ok (.imul, 1) := by decide +kernel
theorem d_Mo_append_112 : decode c_Mo_append 112 = .ok (.lshr, 1) := by decide +kernel
theorem d_Mo_append_113 : decode c_Mo_append 113 = .ok (.l2i, 1) := by decide +kernel
theorem d_Mo_append_114 : decode c_Mo_append 114 = .ok (.sipush 255, 3) := by decide +kernel
theorem d_Mo_append_117 : decode c_Mo_append 117 = .ok (.iand, 1) := by decide +kernel
theorem d_Mo_append_118 : decode c_Mo_append 118 = .ok (.iastore, 1) := by decide +kernel
theorem d_Mo_append_119 : decode c_Mo_append 119 = .ok (.aload_n 0, 1) := by decide +kernel
theorem d_Mo_append_120 : decode c_Mo_append 120 = .ok (.dup, 1) := by decide +kernel
theorem d_Mo_append_121 : decode c_Mo_append 121 = .ok (.getfield 161, 3) := by decide +kernel
theorem d_Mo_append_124 : decode c_Mo_append 124 = .ok (.iconst 1, 1) := by decide +kernel
theorem d_Mo_append_125 : decode c_Mo_append 125 = .ok (.iadd, 1) := by decide +kernel
theorem d_Mo_append_126 : decode c_Mo_append 126 = .ok (.putfield 161, 3) := by decide +kernel
theorem d_Mo_append_129 : decode c_Mo_append 129 = .ok (.iinc 4 (-1), 3) := by decide +kernel
theorem d_Mo_append_132 : decode c_Mo_append 132 = .ok (.goto (-39), 3) := by decide +kernel
theorem d_Mo_append_135 : decode c_Mo_append 135 = .ok (.aload_n 0, 1) := by decide +kernel
theorem d_Mo_append_136 : decode c_Mo_append 136 = .ok (.getfield 161, 3) := by decide +kernel
theorem d_Mo_append_139 : decode c_Mo_append 139 = .ok (.ireturn, 1) := by decide +kernel
theorem d_Mo_isLetter_0 : decode c_Mo_isLetter 0 = .ok (.iload_n 0, 1) := by decide +kernel
theorem d_Mo_isLetter_1 : decode c_Mo_isLetter 1 = .ok (.bipush 97, 2) := by decide +kernel
theorem d_Mo_isLetter_3 : decode c_Mo_isLetter 3 = .ok (.bipush 122, 2) := by decide +kernel
theorem d_Mo_isLetter_5 : decode c_Mo_isLetter 5 = .ok (.invokestatic 94, 3) := by decide +kernel
theorem d_Mo_isLetter_8 : decode c_Mo_isLetter 8 = .ok (.ireturn, 1) := by decide +kernel
theorem d_Mo_isFigure_0 : decode c_Mo_isFigure 0 = .ok (.iload_n 0, 1) := by decide +kernel
theorem d_Mo_isFigure_1 : decode c_Mo_isFigure 1 = .ok (.bipush 48, 2) := by decide +kernel
theorem d_Mo_isFigure_3 : decode c_Mo_isFigure 3 = .ok (.bipush 57, 2) := by decide +kernel
theorem d_Mo_isFigure_5 : decode c_Mo_isFigure 5 = .ok (.invokestatic 94, 3) := by decide +kernel
theorem d_Mo_isFigure_8 : decode c_Mo_isFigure 8 = .ok (.ireturn, 1) := by decide +kernel
theorem d_Mo_letters_0 : decode c_Mo_letters 0 = .ok (.iload_n 1, 1) := by decide +kernel
theorem d_Mo_letters_1 : decode c_Mo_letters 1 = .ok (.istore_n 2, 1) := by decide +kernel
theorem d_Mo_letters_2 : decode c_Mo_letters 2 = .ok (.aload_n 0, 1) := by decide +kernel
theorem d_Mo_letters_3 : decode c_Mo_letters 3 = .ok (.lconst 0, 1) := by decide +kernel
theorem d_Mo_letters_4 : decode c_Mo_letters 4 = .ok (.putfield 164, 3) := by decide +kernel
theorem d_Mo_letters_7 : decode c_Mo_letters 7 = .ok (.iload_n 2, 1) := by decide +kernel
theorem d_Mo_letters_8 : decode c_Mo_letters 8 = .ok (.aload_n 0, 1) := by decide +kernel
theorem d_Mo_letters_9 : decode c_Mo_letters 9 = .ok (.getfield 161, 3) := by decide +kernel
theorem d_Mo_letters_12 : decode c_Mo_letters 12 = .ok (.if_icmp .ge 48, 3) := by decide +kernel
theorem d_Mo_letters_15 : decode c_Mo_letters 15 = .ok (.aload_n 0, 1) := by decide +kernel
theorem d_Mo_letters_16 : decode c_Mo_letters 16 = .ok (.getfield 27, 3) := by decide +kernel
theorem d_Mo_letters_19 : decode c_Mo_letters 19 = .ok (.iload_n 2, 1) := by decide +kernel
theorem d_Mo_letters_20 : decode c_Mo_letters 20 = .ok (.iaload, 1) := by decide +kernel
theorem d_Mo_letters_21 : decode c_Mo_letters 21 = .ok (.invokestatic 168, 3) := by decide +kernel
theorem d_Mo_letters_24 : decode c_Mo_letters 24 = .ok (.ifCond .eq 36, 3) := by decide +kernel
theorem d_Mo_letters_27 : decode c_Mo_letters 27 = .ok (.iload_n 2, 1) := by decide +kernel
theorem d_Mo_letters_28 : decode c_Mo_letters 28 = .ok (.iload_n 1, 1) := by decide +kernel
theorem d_Mo_letters_29 : decode c_Mo_letters 29 = .ok (.isub, 1) := by decide +kernel
theorem d_Mo_letters_30 : decode c_Mo_letters 30 = .ok (.bipush 8, 2) := by decide +kernel
theorem d_Mo_letters_32 : decode c_Mo_letters 32 = .ok (.if_icmp .ge 22, 3) := by decide +kernel
theorem d_Mo_letters_35 : decode c_Mo_letters 35 = .ok (.aload_n 0, 1) := by decide +kernel
theorem d_Mo_letters_36 : decode c_Mo_letters 36 = .ok (.aload_n 0, 1) := by decide +kernel
theorem d_Mo_letters_37 : decode c_Mo_letters 37 = .ok (.getfield 164, 3) := by decide +kernel
theorem d_Mo_letters_40 : decode c_Mo_letters 40 = .ok (.bipush 8, 2) := by decide +kernel
theorem d_Mo_letters_42 : decode c_Mo_letters 42 = .ok (.lshl, 1) := by decide +kernel
theorem d_Mo_letters_43 : decode c_Mo_letters 43 = .ok (.aload_n 0, 1) := by decide +kernel
theorem d_Mo_letters_44 : decode c_Mo_letters 44 = .ok (.getfield 27, 3) := by decide +kernel
theorem d_Mo_letters_47 : decode c_Mo_letters 47 = .ok (.iload_n 2, 1) := by decide +kernel
theorem d_Mo_letters_48 : decode c_Mo_letters 48 = .ok (.iaload, 1) := by decide +kernel
theorem d_Mo_letters_49 : decode c_Mo_letters 49 = .ok (.i2l, 1) := by decide +kernel
theorem d_Mo_letters_50 : decode c_Mo_letters 50 = .ok (.lor, 1) := by decide +kernel
theorem d_Mo_letters_51 : decode c_Mo_letters 51 = .ok (.putfield 164, 3) := by decide +kernel
theorem d_Mo_letters_54 : decode c_Mo_letters 54 = .ok (.iinc 2 1, 3) := by decide +kernel
theorem d_Mo_letters_57 : decode c_Mo_letters 57 = .ok (.goto (-50), 3) := by decide +kernel
theorem d_Mo_letters_60 : decode c_Mo_letters 60 = .ok (.iload_n 2, 1) := by decide +kernel
theorem d_Mo_letters_61 : decode c_Mo_letters 61 = .ok (.ireturn, 1) := by decide +kernel
theorem d_Mo_next_0 : decode c_Mo_next 0 = .ok (.aload_n 0, 1) := by decide +kernel
theorem d_Mo_next_1 : decode c_Mo_next 1 = .ok (.aload_n 0, 1) := by decide +kernel
theorem d_Mo_next_2 : decode c_Mo_next 2 = .ok (.getfield 172, 3) := by decide +kernel
theorem d_Mo_next_5 : decode c_Mo_next 5 = .ok (.putfield 175, 3) := by decide +kernel
theorem d_Mo_next_8 : decode c_Mo_next 8 = .ok (.aload_n 0, 1) := by decide +kernel
theorem d_Mo_next_9 : decode c_Mo_next 9 = .ok (.getfield 172, 3) := by decide +kernel
theorem d_Mo_next_12 : decode c_Mo_next 12 = .ok (.istore_n 1, 1) := by decide +kernel
theorem d_Mo_next_13 : decode c_Mo_next 13 = .ok (.iload_n 1, 1) := by decide +kernel
theorem d_Mo_next_14 : decode c_Mo_next 14 = .ok (.aload_n 0, 1) := by decide +kernel
theorem d_Mo_next_15 : decode c_Mo_next 15 = .ok (.getfield 161, 3) := by decide +kernel
theorem d_Mo_next_18 : decode c_Mo_next 18 = .ok (.if_icmp .ge 20, 3) := by decide +kernel
theorem d_Mo_next_21 : decode c_Mo_next 21 = .ok (.aload_n 0, 1) := by decide +kernel
theorem d_Mo_next_22 : decode c_Mo_next 22 = .ok (.getfield 27, 3) := by decide +kernel
theorem d_Mo_next_25 : decode c_Mo_next 25 = .ok (.iload_n 1, 1) := by decide +kernel
theorem d_Mo_next_26 : decode c_Mo_next 26 = .ok (.iaload, 1) := by decide +kernel
theorem d_Mo_next_27 : decode c_Mo_next 27 = .ok (.bipush 32, 2) := by decide +kernel
theorem d_Mo_next_29 : decode c_Mo_next 29 = .ok (.if_icmp .ne 9, 3) := by decide +kernel
theorem d_Mo_next_32 : decode c_Mo_next 32 = .ok (.iinc 1 1, 3) := by decide +kernel
theorem d_Mo_next_35 : decode c_Mo_next 35 = .ok (.goto (-22), 3) := by decide +kernel
theorem d_Mo_next_38 : decode c_Mo_next 38 = .ok (.aload_n 0, 1) := by decide +kernel
theorem d_Mo_next_39 : decode c_Mo_next 39 = .ok (.iload_n 1, 1) := by decide +kernel
theorem d_Mo_next_40 : decode c_Mo_next 40 = .ok (.putfield 178, 3) := by decide +kernel
theorem d_Mo_next_43 : decode c_Mo_next 43 = .ok (.aload_n 0, 1) := by decide +kernel
theorem d_Mo_next_44 : decode c_Mo_next 44 = .ok (.iconst 0, 1) := by decide +kernel
theorem d_Mo_next_45 : decode c_Mo_next 45 = .ok (.putfield 181, 3) := by decide +kernel
theorem d_Mo_next_48 : decode c_Mo_next 48 = .ok (.iload_n 1, 1) := by decide +kernel
theorem d_Mo_next_49 : decode c_Mo_next 49 = .ok (.aload_n 0, 1) := by decide +kernel
theorem d_Mo_next_50 : decode c_Mo_next 50 = .ok (.getfield 161, 3) := by decide +kernel
theorem d_Mo_next_53 : decode c_Mo_next 53 = .ok (.if_icmp .ne 4, 3) := by decide +kernel
theorem d_Mo_next_56 : decode c_Mo_next 56 = .ok (.return_, 1) := by decide +kernel
theorem d_Mo_next_57 : decode c_Mo_next 57 = .ok (.aload_n 0, 1) := by decide +kernel
theorem d_Mo_next_58 : decode c_Mo_next 58 = .ok (.getfield 27, 3) := by decide +kernel
theorem d_Mo_next_61 : decode c_Mo_next 61 = .ok (.iload_n 1, 1) := by decide +kernel
theorem d_Mo_next_62 : decode c_Mo_next 62 = .ok (.iaload, 1) := by decide +kernel
theorem d_Mo_next_63 : decode c_Mo_next 63 = .ok (.istore_n 2, 1) := by decide +kernel
theorem d_Mo_next_64 : decode c_Mo_next 64 = .ok (.aload_n 0, 1) := by decide +kernel
theorem d_Mo_next_65 : decode c_Mo_next 65 = .ok (.iload_n 1, 1) := by decide +kernel
theorem d_Mo_next_66 : decode c_Mo_next 66 = .ok (.iconst 1, 1) := by decide +kernel
theorem d_Mo_next_67 : decode c_Mo_next 67 = .ok (.iadd, 1) := by decide +kernel
theorem d_Mo_next_68 : decode c_Mo_next 68 = .ok (.putfield 172, 3) := by decide +kernel
theorem d_Mo_next_71 : decode c_Mo_next 71 = .ok (.iload_n 2, 1) := by decide +kernel
theorem d_Mo_next_72 : decode c_Mo_next 72 = .ok (.invokestatic 168, 3) := by decide +kernel
theorem d_Mo_next_75 : decode c_Mo_next 75 = .ok (.ifCond .eq 35, 3) := by decide +kernel
theorem d_Mo_next_78 : decode c_Mo_next 78 = .ok (.aload_n 0, 1) := by decide +kernel
theorem d_Mo_next_79 : decode c_Mo_next 79 = .ok (.aload_n 0, 1) := by decide +kernel
theorem d_Mo_next_80 : decode c_Mo_next 80 = .ok (.iload_n 1, 1) := by decide +kernel
theorem d_Mo_next_81 : decode c_Mo_next 81 = .ok (.invokevirtual 184, 3) := by decide +kernel
theorem d_Mo_next_84 : decode c_Mo_next 84 = .ok (.putfield 172, 3) := by decide +kernel
theorem d_Mo_next_87 : decode c_Mo_next 87 = .ok (.aload_n 0, 1) := by decide +kernel
theorem d_Mo_next_88 : decode c_Mo_next 88 = .ok (.aload_n 0, 1) := by decide +kernel
theorem d_Mo_next_89 : decode c_Mo_next 89 = .ok (.getfield 172, 3) := by decide +kernel
theorem d_Mo_next_92 : decode c_Mo_next 92 = .ok (.iload_n 1, 1) := by decide +kernel
theorem d_Mo_next_93 : decode c_Mo_next 93 = .ok (.isub, 1) := by decide +kernel
theorem d_Mo_next_94 : decode c_Mo_next 94 = .ok (.bipush 8, 2) := by decide +kernel
theorem d_Mo_next_96 : decode c_Mo_next 96 = .ok (.if_icmp .le 7, 3) := by decide +kernel
theorem d_Mo_next_99 : decode c_Mo_next 99 = .ok (.iconst 5, 1) := by decide +kernel
theorem d_Mo_next_100 : decode c_Mo_next 100 = .ok (.goto 4, 3) := by decide +kernel
theorem d_Mo_next_103 : decode c_Mo_next 103 = .ok (.iconst 1, 1) := by decide +kernel
theorem d_Mo_next_104 : decode c_Mo_next 104 = .ok (.putfield 181, 3) := by decide +kernel
theorem d_Mo_next_107 : decode c_Mo_next 107 = .ok (.goto 208, 3) := by decide +kernel
theorem d_Mo_next_110 : decode c_Mo_next 110 = .ok (.iload_n 2, 1) := by decide +kernel
theorem d_Mo_next_111 : decode c_Mo_next 111 = .ok (.invokestatic 188, 3) := by decide +kernel
theorem d_Mo_next_114 : decode c_Mo_next 114 = .ok (.ifCond .eq 98, 3) := by decide +kernel
theorem d_Mo_next_117 : decode c_Mo_next 117 = .ok (.aload_n 0, 1) := by decide +kernel
theorem d_Mo_next_118 : decode c_Mo_next 118 = .ok (.lconst 0, 1) := by decide +kernel
theorem d_Mo_next_119 : decode c_Mo_next 119 = .ok (.putfield 164, 3) := by decide +kernel
theorem d_Mo_next_122 : decode c_Mo_next 122 = .ok (.iload_n 1, 1) := by decide +kernel
theorem d_Mo_next_123 : decode c_Mo_next 123 = .ok (.aload_n 0, 1) := by decide +kernel
theorem d_Mo_next_124 : decode c_Mo_next 124 = .ok (.getfield 161, 3) := by decide +kernel
theorem d_Mo_next_127 : decode c_Mo_next 127 = .ok (.if_icmp .ge 55, 3) := by decide +kernel
theorem d_Mo_next_130 : decode c_Mo_next 130 = .ok (.aload_n 0, 1) := by decide +kernel
theorem d_Mo_next_131 : decode c_Mo_next 131 = .ok (.getfield 27, 3) := by decide +kernel
theorem d_Mo_next_134 : decode c_Mo_next 134 = .ok (.iload_n 1, 1) := by decide +kernel
theorem d_Mo_next_135 : decode c_Mo_next 135 = .ok (.iaload, 1) := by decide +kernel
theorem d_Mo_next_136 : decode c_Mo_next 136 = .ok (.invokestatic 188, 3) := by decide +kernel
theorem d_Mo_next_139 : decode c_Mo_next 139 = .ok (.ifCond .eq 43, 3) := by decide +kernel
theorem d_Mo_next_142 : decode c_Mo_next 142 = .ok (.iload_n 1, 1) := by decide +kernel
theorem d_Mo_next_143 : decode c_Mo_next 143 = .ok (.aload_n 0, 1) := by decide +kernel
theorem d_Mo_next_144 : decode c_Mo_next 144 = .ok (.getfield 178, 3) := by decide +kernel
theorem d_Mo_next_147 : decode c_Mo_next 147 = .ok (.isub, 1) := by decide +kernel
theorem d_Mo_next_148 : decode c_Mo_next 148 = .ok (.iconst 4, 1) := by decide +kernel
theorem d_Mo_next_149 : decode c_Mo_next 149 = .ok (.if_icmp .ge 27, 3) := by decide +kernel
theorem d_Mo_next_152 : decode c_Mo_next 152 = .ok (.aload_n 0, 1) := by decide +kernel
theorem d_Mo_next_153 : decode c_Mo_next 153 = .ok (.ldc2_w 191, 3) := by decide +kernel
theorem d_Mo_next_156 : decode c_Mo_next 156 = .ok (.aload_n 0, 1) := by decide +kernel
theorem d_Mo_next_157 : decode c_Mo_next 157 = .ok (.getfield 164, 3) := by decide +kernel
theorem d_Mo_next_160 : decode c_Mo_next 160 = .ok (.lmul, 1) := by decide +kernel
theorem d_Mo_next_161 : decode c_Mo_next 161 = .ok (.aload_n 0, 1) := by decide +kernel
theorem d_Mo_next_162 : decode c_Mo_next 162 = .ok (.getfield 27, 3) := by decide +kernel
theorem d_Mo_next_165 : decode c_Mo_next 165 = .ok (.iload_n 1, 1) := by decide +kernel
theorem d_Mo_next_166 : decode c_Mo_next 166 = .ok (.iaload, 1) := by decide +kernel
theorem d_Mo_next_167 : decode c_Mo_next 167 = .ok (.i2l, 1) := by decide +kernel
theorem d_Mo_next_168 : decode c_Mo_next 168 = .ok (.ladd, 1) := by decide +kernel
theorem d_Mo_next_169 : decode c_Mo_next 169 = .ok (.ldc2_w 193, 3) := by decide +kernel
theorem d_Mo_next_172 : decode c_Mo_next 172 = .ok (.lsub, 1) := by decide +kernel
theorem d_Mo_next_173 : decode c_Mo_next 173 = .ok (.putfield 164, 3) := by decide +kernel
theorem d_Mo_next_176 : decode c_Mo_next 176 = .ok (.iinc 1 1, 3) := by decide +kernel
theorem d_Mo_next_179 : decode c_Mo_next 179 = .ok (.goto (-57), 3) := by decide +kernel
theorem d_Mo_next_182 : decode c_Mo_next 182 = .ok (.aload_n 0, 1) := by decide +kernel
theorem d_Mo_next_183 : decode c_Mo_next 183 = .ok (.iload_n 1, 1) := by decide +kernel
theorem d_Mo_next_184 : decode c_Mo_next 184 = .ok (.putfield 172, 3) := by decide +kernel
theorem d_Mo_next_187 : decode c_Mo_next 187 = .ok (.aload_n 0, 1) := by decide +kernel
theorem d_Mo_next_188 : decode c_Mo_next 188 = .ok (.aload_n 0, 1) := by decide +kernel
theorem d_Mo_next_189 : decode c_Mo_next 189 = .ok (.getfield 172, 3) := by decide +kernel
theorem d_Mo_next_192 : decode c_Mo_next 192 = .ok (.aload_n 0, 1) := by decide +kernel
theorem d_Mo_next_193 : decode c_Mo_next 193 = .ok (.getfield 178, 3) := by decide +kernel
theorem d_Mo_next_196 : decode c_Mo_next 196 = .ok (.isub, 1) := by decide +kernel
theorem d_Mo_next_197 : decode c_Mo_next 197 = .ok (.iconst 4, 1) := by decide +kernel
theorem d_Mo_next_198 : decode c_Mo_next 198 = .ok (.if_icmp .le 7, 3) := by decide +kernel
theorem d_Mo_next_201 : decode c_Mo_next 201 = .ok (.iconst 5, 1) := by decide +kernel
theorem d_Mo_next_202 : decode c_Mo_next 202 = .ok (.goto 4, 3) := by decide +kernel
theorem d_Mo_next_205 : decode c_Mo_next 205 = .ok (.iconst 2, 1) := by decide +kernel
theorem d_Mo_next_206 : decode c_Mo_next 206 = .ok (.putfield 181, 3) := by decide +kernel
theorem d_Mo_next_209 : decode c_Mo_next 209 = .ok (.goto 106, 3) := by decide +kernel
theorem d_Mo_next_212 : decode c_Mo_next 212 = .ok (.iload_n 2, 1) := by decide +kernel
theorem d_Mo_next_213 : decode c_Mo_next 213 = .ok (.bipush 63, 2) := by decide +kernel
theorem d_Mo_next_215 : decode c_Mo_next 215 = .ok (.if_icmp .ne 43, 3) := by decide +kernel
theorem d_Mo_next_218 : decode c_Mo_next 218 = .ok (.aload_n 0, 1) := by decide +kernel
theorem d_Mo_next_219 : decode c_Mo_next 219 = .ok (.aload_n 0, 1) := by decide +kernel
theorem d_Mo_next_220 : decode c_Mo_next 220 = .ok (.iload_n 1, 1) := by decide +kernel
theorem d_Mo_next_221 : decode c_Mo_next 221 = .ok (.iconst 1, 1) := by decide +kernel
theorem d_Mo_next_222 : decode c_Mo_next 222 = .ok (.iadd, 1) := by decide +kernel
theorem d_Mo_next_223 : decode c_Mo_next 223 = .ok (.invokevirtual 184, 3) := by decide +kernel
theorem d_Mo_next_226 : decode c_Mo_next 226 = .ok (.putfield 172, 3) := by decide +kernel
theorem d_Mo_next_229 : decode c_Mo_next 229 = .ok (.aload_n 0, 1) := by decide +kernel
theorem d_Mo_next_230 : decode c_Mo_next 230 = .ok (.aload_n 0, 1) := by decide +kernel
theorem d_Mo_next_231 : decode c_Mo_next 231 = .ok (.getfield 172, 3) := by decide +kernel
theorem d_Mo_next_234 : decode c_Mo_next 234 = .ok (.iload_n 1, 1) := by decide +kernel
theorem d_Mo_next_235 : decode c_Mo_next 235 = .ok (.isub, 1) := by decide +kernel
theorem d_Mo_next_236 : decode c_Mo_next 236 = .ok (.iconst 1, 1) := by decide +kernel
theorem d_Mo_next_237 : decode c_Mo_next 237 = .ok (.isub, 1) := by decide +kernel
theorem d_Mo_next_238 : decode c_Mo_next 238 = .ok (.iconst 1, 1) := by decide +kernel
theorem d_Mo_next_239 : decode c_Mo_next 239 = .ok (.bipush 8, 2) := by decide +kernel
theorem d_Mo_next_241 : decode c_Mo_next 241 = .ok (.invokestatic 94, 3) := by decide +kernel
theorem d_Mo_next_244 : decode c_Mo_next 244 = .ok (.ifCond .eq 7, 3) := by decide +kernel
theorem d_Mo_next_247 : decode c_Mo_next 247 = .ok (.iconst 3, 1) := by decide +kernel
theorem d_Mo_next_248 : decode c_Mo_next 248 = .ok (.goto 4, 3) := by decide +kernel
theorem d_Mo_next_251 : decode c_Mo_next 251 = .ok (.iconst 5, 1) := by decide +kernel
theorem d_Mo_next_252 : decode c_Mo_next 252 = .ok (.putfield 181, 3) := by decide +kernel
theorem d_Mo_next_255 : decode c_Mo_next 255 = .ok (.goto 60, 3) := by decide +kernel
theorem d_Mo_next_258 : decode c_Mo_next 258 = .ok (.aload_n 0, 1) := by decide +kernel
theorem d_Mo_next_259 : decode c_Mo_next 259 = .ok (.iload_n 2, 1) := by decide +kernel
theorem d_Mo_next_260 : decode c_Mo_next 260 = .ok (.i2l, 1) := by decide +kernel
theorem d_Mo_next_261 : decode c_Mo_next 261 = .ok (.putfield 164, 3) := by decide +kernel
theorem d_Mo_next_264 : decode c_Mo_next 264 = .ok (.aload_n 0, 1) := by decide +kernel
theorem d_Mo_next_265 : decode c_Mo_next 265 = .ok (.iload_n 2, 1) := by decide +kernel
theorem d_Mo_next_266 : decode c_Mo_next 266 = .ok (.bipush 123, 2) := by decide +kernel
theorem d_Mo_next_268 : decode c_Mo_next 268 = .ok (.if_icmp .eq 39, 3) := by decide +kernel
theorem d_Mo_next_271 : decode c_Mo_next 271 = .ok (.iload_n 2, 1) := by decide +kernel
theorem d_Mo_next_272 : decode c_Mo_next 272 = .ok (.bipush 125, 2) := by decide +kernel
theorem d_Mo_next_274 : decode c_Mo_next 274 = .ok (.if_icmp .eq 33, 3) := by decide +kernel
theorem d_Mo_next_277 : decode c_Mo_next 277 = .ok (.iload_n 2, 1) := by decide +kernel
theorem d_Mo_next_278 : decode c_Mo_next 278 = .ok (.bipush 46, 2) := by decide +kernel
theorem d_Mo_next_280 : decode c_Mo_next 280 = .ok (.if_icmp .eq 27, 3) := by decide +kernel
theorem d_Mo_next_283 : decode c_Mo_next 283 = .ok (.iload_n 2, 1) := by decide +kernel
theorem d_Mo_next_284 : decode c_Mo_next 284 = .ok (.bipush 61, 2) := by decide +kernel
theorem d_Mo_next_286 : decode c_Mo_next 286 = .ok (.if_icmp .eq 21, 3) := by decide +kernel
theorem d_Mo_next_289 : decode c_Mo_next 289 = .ok (.iload_n 2, 1) := by decide +kernel
theorem d_Mo_next_290 : decode c_Mo_next 290 = .ok (.bipush 60, 2) := by decide +kernel
theorem d_Mo_next_292 : decode c_Mo_next 292 = .ok (.if_icmp .eq 15, 3) := by decide +kernel
theorem d_Mo_next_295 : decode c_Mo_next 295 = .ok (.iload_n 2, 1) := by decide +kernel
theorem d_Mo_next_296 : decode c_Mo_next 296 = .ok (.bipush 62, 2) := by decide +kernel
theorem d_Mo_next_298 : decode c_Mo_next 298 = .ok (.if_icmp .eq 9, 3) := by decide +kernel
theorem d_Mo_next_301 : decode c_Mo_next 301 = .ok (.iload_n 2, 1) := by decide +kernel
theorem d_Mo_next_302 : decode c_Mo_next 302 = .ok (.bipush 33, 2) := by decide +kernel
theorem d_Mo_next_304 : decode c_Mo_next 304 = .ok (.if_icmp .ne 7, 3) := by decide +kernel
theorem d_Mo_next_307 : decode c_Mo_next 307 = .ok (.iconst 4, 1) := by decide +kernel
theorem d_Mo_next_308 : decode c_Mo_next 308 = .ok (.goto 4, 3) := by decide +kernel
theorem d_Mo_next_311 : decode c_Mo_next 311 = .ok (.iconst 5, 1) := by decide +kernel
theorem d_Mo_next_312 : decode c_Mo_next 312 = .ok (.putfield 181, 3) := by decide +kernel
theorem d_Mo_next_315 : decode c_Mo_next 315 = .ok (.return_, 1) := by decide +kernel
theorem d_Mo_isKey_0 : decode c_Mo_isKey 0 = .ok (.aload_n 0, 1) := by decide +kernel
theorem d_Mo_isKey_1 : decode c_Mo_isKey 1 = .ok (.getfield 181, 3) := by decide +kernel
theorem d_Mo_isKey_4 : decode c_Mo_isKey 4 = .ok (.iconst 1, 1) := by decide +kernel
theorem d_Mo_isKey_5 : decode c_Mo_isKey 5 = .ok (.if_icmp .eq 5, 3) := by decide +kernel
theorem d_Mo_isKey_8 : decode c_Mo_isKey 8 = .ok (.iconst 0, 1) := by decide +kernel
theorem d_Mo_isKey_9 : decode c_Mo_isKey 9 = .ok (.ireturn, 1) := by decide +kernel
theorem d_Mo_isKey_10 : decode c_Mo_isKey 10 = .ok (.iload_n 1, 1) := by decide +kernel
theorem d_Mo_isKey_11 : decode c_Mo_isKey 11 = .ok (.ifCond .ne 9, 3) := by decide +kernel
theorem d_Mo_isKey_14 : decode c_Mo_isKey 14 = .ok (.ldc2_w 195, 3) := by decide +kernel
theorem d_Mo_isKey_17 : decode c_Mo_isKey 17 = .ok (.goto 109, 3) := by decide +kernel
theorem d_Mo_isKey_20 : decode c_Mo_isKey 20 = .ok (.iload_n 1, 1) := by decide +kernel
theorem d_Mo_isKey_21 : decode c_Mo_isKey 21 = .ok (.iconst 1, 1) := by decide +kernel
theorem d_Mo_isKey_22 : decode c_Mo_isKey 22 = .ok (.if_icmp .ne 9, 3) := by decide +kernel
theorem d_Mo_isKey_25 : decode c_Mo_isKey 25 = .ok (.ldc2_w 197, 3) := by decide +kernel
theorem d_Mo_isKey_28 : decode c_Mo_isKey 28 = .ok (.goto 98, 3) := by decide +kernel
theorem d_Mo_isKey_31 : decode c_Mo_isKey 31 = .ok (.iload_n 1, 1) := by decide +kernel
theorem d_Mo_isKey_32 : decode c_Mo_isKey 32 = .ok (.iconst 2, 1) := by decide +kernel
theorem d_Mo_isKey_33 : decode c_Mo_isKey 33 = .ok (.if_icmp .ne 9, 3) := by decide +kernel
theorem d_Mo_isKey_36 : decode c_Mo_isKey 36 = .ok (.ldc2_w 199, 3) := by decide +kernel
theorem d_Mo_isKey_39 : decode c_Mo_isKey 39 = .ok (.goto 87, 3) := by decide +kernel
theorem d_Mo_isKey_42 : decode c_Mo_isKey 42 = .ok (.iload_n 1, 1) := by decide +kernel
theorem d_Mo_isKey_43 : decode c_Mo_isKey 43 = .ok (.iconst 3, 1) := by decide +kernel
theorem d_Mo_isKey_44 : decode c_Mo_isKey 44 = .ok (.if_icmp .ne 9, 3) := by decide +kernel
theorem d_Mo_isKey_47 : decode c_Mo_isKey 47 = .ok (.ldc2_w 201, 3) := by decide +kernel
theorem d_Mo_isKey_50 : decode c_Mo_isKey 50 = .ok (.goto 76, 3) := by decide +kernel
theorem d_Mo_isKey_53 : decode c_Mo_isKey 53 = .ok (.iload_n 1, 1) := by decide +kernel
theorem d_Mo_isKey_54 : decode c_Mo_isKey 54 = .ok (.iconst 4, 1) := by decide +kernel
theorem d_Mo_isKey_55 : decode c_Mo_isKey 55 = .ok (.if_icmp .ne 9, 3) := by decide +kernel
theorem d_Mo_isKey_58 : decode c_Mo_isKey 58 = .ok (.ldc2_w 203, 3) := by decide +kernel
theorem d_Mo_isKey_61 : decode c_Mo_isKey 61 = .ok (.goto 65, 3) := by decide +kernel
theorem d_Mo_isKey_64 : decode c_Mo_isKey 64 = .ok (.iload_n 1, 1) := by decide +kernel
theorem d_Mo_isKey_65 : decode c_Mo_isKey 65 = .ok (.iconst 5, 1) := by decide +kernel
theorem d_Mo_isKey_66 : decode c_Mo_isKey 66 = .ok (.if_icmp .ne 9, 3) := by decide +kernel
theorem d_Mo_isKey_69 : decode c_Mo_isKey 69 = .ok (.ldc2_w 205, 3) := by decide +kernel
theorem d_Mo_isKey_72 : decode c_Mo_isKey 72 = .ok (.goto 54, 3) := by decide +kernel
theorem d_Mo_isKey_75 : decode c_Mo_isKey 75 = .ok (.iload_n 1, 1) := by decide +kernel
theorem d_Mo_isKey_76 : decode c_Mo_isKey 76 = .ok (.bipush 6, 2) := by decide +kernel
theorem d_Mo_isKey_78 : decode c_Mo_isKey 78 = .ok (.if_icmp .ne 9, 3) := by decide +kernel
theorem d_Mo_isKey_81 : decode c_Mo_isKey 81 = .ok (.ldc2_w 207, 3) := by decide +kernel
theorem d_Mo_isKey_84 : decode c_Mo_isKey 84 = .ok (.goto 42, 3) := by decide +kernel
theorem d_Mo_isKey_87 : decode c_Mo_isKey 87 = .ok (.iload_n 1, 1) := by decide +kernel
theorem d_Mo_isKey_88 : decode c_Mo_isKey 88 = .ok (.bipush 7, 2) := by decide +kernel
theorem d_Mo_isKey_90 : decode c_Mo_isKey 90 = .ok (.if_icmp .ne 9, 3) := by decide +kernel
theorem d_Mo_isKey_93 : decode c_Mo_isKey 93 = .ok (.ldc2_w 209, 3) := by decide +kernel
theorem d_Mo_isKey_96 : decode c_Mo_isKey 96 = .ok (.goto 30, 3) := by decide +kernel
theorem d_Mo_isKey_99 : decode c_Mo_isKey 99 = .ok (.iload_n 1, 1) := by decide +kernel
theorem d_Mo_isKey_100 : decode c_Mo_isKey 100 = .ok (.bipush 8, 2) := by decide +kernel
theorem d_Mo_isKey_102 : decode c_Mo_isKey 102 = .ok (.if_icmp .ne 9, 3) := by decide +kernel
theorem d_Mo_isKey_105 : decode c_Mo_isKey 105 = .ok (.ldc2_w 211, 3) := by decide +kernel
theorem d_Mo_isKey_108 : decode c_Mo_isKey 108 = .ok (.goto 18, 3) := by decide +kernel
theorem d_Mo_isKey_111 : decode c_Mo_isKey 111 = .ok (.iload_n 1, 1) := by decide +kernel
theorem d_Mo_isKey_112 : decode c_Mo_isKey 112 = .ok (.bipush 9, 2) := by decide +kernel
theorem d_Mo_isKey_114 : decode c_Mo_isKey 114 = .ok (.if_icmp .ne 9, 3) := by decide +kernel
theorem d_Mo_isKey_117 : decode c_Mo_isKey 117 = .ok (.ldc2_w 213, 3) := by decide +kernel
theorem d_Mo_isKey_120 : decode c_Mo_isKey 120 = .ok (.goto 6, 3) := by decide +kernel
theorem d_Mo_isKey_123 : decode c_Mo_isKey 123 = .ok (.ldc2_w 215, 3) := by decide +kernel
theorem d_Mo_isKey_126 : decode c_Mo_isKey 126 = .ok (.lstore_n 2, 1) := by decide +kernel
theorem d_Mo_isKey_127 : decode c_Mo_isKey 127 = .ok (.aload_n 0, 1) := by decide +kernel
theorem d_Mo_isKey_128 : decode c_Mo_isKey 128 = .ok (.getfield 164, 3) := by decide +kernel
theorem d_Mo_isKey_131 : decode c_Mo_isKey 131 = .ok (.lload_n 2, 1) := by decide +kernel
theorem d_Mo_isKey_132 : decode c_Mo_isKey 132 = .ok (.lcmp, 1) := by decide +kernel
theorem d_Mo_isKey_133 : decode c_Mo_isKey 133 = .ok (.ifCond .ne 7, 3) := by decide +kernel
theorem d_Mo_isKey_136 : decode c_Mo_isKey 136 = .ok (.iconst 1, 1) := by decide +kernel
theorem d_Mo_isKey_137 : decode c_Mo_isKey 137 = .ok (.goto 4, 3) := by decide +kernel
theorem d_Mo_isKey_140 : decode c_Mo_isKey 140 = .ok (.iconst 0, 1) := by decide +kernel
theorem d_Mo_isKey_141 : decode c_Mo_isKey 141 = .ok (.ireturn, 1) := by decide +kernel
theorem d_Mo_isTerm_0 : decode c_Mo_isTerm 0 = .ok (.aload_n 0, 1) := by decide +kernel
theorem d_Mo_isTerm_1 : decode c_Mo_isTerm 1 = .ok (.getfield 181, 3) := by decide +kernel
theorem d_Mo_isTerm_4 : decode c_Mo_isTerm 4 = .ok (.iconst 2, 1) := by decide +kernel
theorem d_Mo_isTerm_5 : decode c_Mo_isTerm 5 = .ok (.if_icmp .ne 5, 3) := by decide +kernel
theorem d_Mo_isTerm_8 : decode c_Mo_isTerm 8 = .ok (.iconst 1, 1) := by decide +kernel
theorem d_Mo_isTerm_9 : decode c_Mo_isTerm 9 = .ok (.ireturn, 1) := by decide +kernel
theorem d_Mo_isTerm_10 : decode c_Mo_isTerm 10 = .ok (.iconst 0, 1) := by decide +kernel
theorem d_Mo_isTerm_11 : decode c_Mo_isTerm 11 = .ok (.istore_n 1, 1) := by decide +kernel
theorem d_Mo_isTerm_12 : decode c_Mo_isTerm 12 = .ok (.iconst 0, 1) := by decide +kernel
theorem d_Mo_isTerm_13 : decode c_Mo_isTerm 13 = .ok (.istore_n 2, 1) := by decide +kernel
theorem d_Mo_isTerm_14 : decode c_Mo_isTerm 14 = .ok (.iload_n 2, 1) := by decide +kernel
theorem d_Mo_isTerm_15 : decode c_Mo_isTerm 15 = .ok (.bipush 11, 2) := by decide +kernel
theorem d_Mo_isTerm_17 : decode c_Mo_isTerm 17 = .ok (.if_icmp .ge 19, 3) := by decide +kernel
theorem d_Mo_isTerm_20 : decode c_Mo_isTerm 20 = .ok (.aload_n 0, 1) := by decide +kernel
theorem d_Mo_isTerm_21 : decode c_Mo_isTerm 21 = .ok (.iload_n 2, 1) := by decide +kernel
theorem d_Mo_isTerm_22 : decode c_Mo_isTerm 22 = .ok (.invokevirtual 217, 3) := by decide +kernel
theorem d_Mo_isTerm_25 : decode c_Mo_isTerm 25 = .ok (.ifCond .eq 5, 3) := by decide +kernel
theorem d_Mo_isTerm_28 : decode c_Mo_isTerm 28 = .ok (.iconst 1, 1) := by decide +kernel
theorem d_Mo_isTerm_29 : decode c_Mo_isTerm 29 = .ok (.istore_n 1, 1) := by decide +kernel
theorem d_Mo_isTerm_30 : decode c_Mo_isTerm 30 = .ok (.iinc 2 1, 3) := by decide +kernel
theorem d_Mo_isTerm_33 : decode c_Mo_isTerm 33 = .ok (.goto (-19), 3) := by decide +kernel
theorem d_Mo_isTerm_36 : decode c_Mo_isTerm 36 = .ok (.aload_n 0, 1) := by decide +kernel
theorem d_Mo_isTerm_37 : decode c_Mo_isTerm 37 = .ok (.getfield 181, 3) := by decide +kernel
theorem d_Mo_isTerm_40 : decode c_Mo_isTerm 40 = .ok (.iconst 1, 1) := by decide +kernel
theorem d_Mo_isTerm_41 : decode c_Mo_isTerm 41 = .ok (.if_icmp .ne 11, 3) := by decide +kernel
theorem d_Mo_isTerm_44 : decode c_Mo_isTerm 44 = .ok (.iload_n 1, 1) := by decide +kernel
theorem d_Mo_isTerm_45 : decode c_Mo_isTerm 45 = .ok (.ifCond .ne 7, 3) := by decide +kernel
theorem d_Mo_isTerm_48 : decode c_Mo_isTerm 48 = .ok (.iconst 1, 1) := by decide +kernel
theorem d_Mo_isTerm_49 : decode c_Mo_isTerm 49 = .ok (.goto 4, 3) := by decide +kernel
theorem d_Mo_isTerm_52 : decode c_Mo_isTerm 52 = .ok (.iconst 0, 1) := by decide +kernel
theorem d_Mo_isTerm_53 : decode c_Mo_isTerm 53 = .ok (.ireturn, 1) := by decide +kernel
theorem d_Mo_isSign_0 : decode c_Mo_isSign 0 = .ok (.aload_n 0, 1) := by decide +kernel
theorem d_Mo_isSign_1 : decode c_Mo_isSign 1 = .ok (.getfield 181, 3) := by decide +kernel
theorem d_Mo_isSign_4 : decode c_Mo_isSign 4 = .ok (.iconst 4, 1) := by decide +kernel
theorem d_Mo_isSign_5 : decode c_Mo_isSign 5 = .ok (.if_icmp .ne 17, 3) := by decide +kernel
theorem d_Mo_isSign_8 : decode c_Mo_isSign 8 = .ok (.aload_n 0, 1) := by decide +kernel
theorem d_Mo_isSign_9 : decode c_Mo_isSign 9 = .ok (.getfield 164, 3) := by decide +kernel
theorem d_Mo_isSign_12 : decode c_Mo_isSign 12 = .ok (.iload_n 1, 1) := by decide +kernel
theorem d_Mo_isSign_13 : decode c_Mo_isSign 13 = .ok (.i2l, 1) := by decide +kernel
theorem d_Mo_isSign_14 : decode c_Mo_isSign 14 = .ok (.lcmp, 1) := by decide +kernel
theorem d_Mo_isSign_15 : decode c_Mo_isSign 15 = .ok (.ifCond .ne 7, 3) := by decide +kernel
theorem d_Mo_isSign_18 : decode c_Mo_isSign 18 = .ok (.iconst 1, 1) := by decide +kernel
theorem d_Mo_isSign_19 : decode c_Mo_isSign 19 = .ok (.goto 4, 3) := by decide +kernel
theorem d_Mo_isSign_22 : decode c_Mo_isSign 22 = .ok (.iconst 0, 1) := by decide +kernel
theorem d_Mo_isSign_23 : decode c_Mo_isSign 23 = .ok (.ireturn, 1) := by decide +kernel
theorem d_Mo_stop_0 : decode c_Mo_stop 0 = .ok (.aload_n 0, 1) := by decide +kernel
theorem d_Mo_stop_1 : decode c_Mo_stop 1 = .ok (.getfield 220, 3) := by decide +kernel
theorem d_Mo_stop_4 : decode c_Mo_stop 4 = .ok (.ifCond .ge 25, 3) := by decide +kernel
theorem d_Mo_stop_7 : decode c_Mo_stop 7 = .ok (.aload_n 0, 1) := by decide +kernel
theorem d_Mo_stop_8 : decode c_Mo_stop 8 = .ok (.aload_n 0, 1) := by decide +kernel
theorem d_Mo_stop_9 : decode c_Mo_stop 9 = .ok (.getfield 181, 3) := by decide +kernel
theorem d_Mo_stop_12 : decode c_Mo_stop 12 = .ok (.ifCond .ne 10, 3) := by decide +kernel
theorem d_Mo_stop_15 : decode c_Mo_stop 15 = .ok (.aload_n 0, 1) := by decide +kernel
theorem d_Mo_stop_16 : decode c_Mo_stop 16 = .ok (.getfield 175, 3) := by decide +kernel
theorem d_Mo_stop_19 : decode c_Mo_stop 19 = .ok (.goto 7, 3) := by decide +kernel
theorem d_Mo_stop_22 : decode c_Mo_stop 22 = .ok (.aload_n 0, 1) := by decide +kernel
theorem d_Mo_stop_23 : decode c_Mo_stop 23 = .ok (.getfield 178, 3) := by decide +kernel
theorem d_Mo_stop_26 : decode c_Mo_stop 26 = .ok (.putfield 220, 3) := by decide +kernel
theorem d_Mo_stop_29 : decode c_Mo_stop 29 = .ok (.return_, 1) := by decide +kernel
theorem d_Mo_goOn_0 : decode c_Mo_goOn 0 = .ok (.iload_n 1, 1) := by decide +kernel
theorem d_Mo_goOn_1 : decode c_Mo_goOn 1 = .ok (.ifCond .ne 7, 3) := by decide +kernel
theorem d_Mo_goOn_4 : decode c_Mo_goOn 4 = .ok (.aload_n 0, 1) := by decide +kernel
theorem d_Mo_goOn_5 : decode c_Mo_goOn 5 = .ok (.invokevirtual 223, 3) := by decide +kernel
theorem d_Mo_goOn_8 : decode c_Mo_goOn 8 = .ok (.aload_n 0, 1) := by decide +kernel
theorem d_Mo_goOn_9 : decode c_Mo_goOn 9 = .ok (.getfield 220, 3) := by decide +kernel
theorem d_Mo_goOn_12 : decode c_Mo_goOn 12 = .ok (.ifCond .lt 5, 3) := by decide +kernel
theorem d_Mo_goOn_15 : decode c_Mo_goOn 15 = .ok (.iconst 0, 1) := by decide +kernel
theorem d_Mo_goOn_16 : decode c_Mo_goOn 16 = .ok (.ireturn, 1) := by decide +kernel
theorem d_Mo_goOn_17 : decode c_Mo_goOn 17 = .ok (.aload_n 0, 1) := by decide +kernel
theorem d_Mo_goOn_18 : decode c_Mo_goOn 18 = .ok (.invokevirtual 226, 3) := by decide +kernel
theorem d_Mo_goOn_21 : decode c_Mo_goOn 21 = .ok (.iconst 1, 1) := by decide +kernel
theorem d_Mo_goOn_22 : decode c_Mo_goOn 22 = .ok (.ireturn, 1) := by decide +kernel
theorem d_Mo_readVariable_0 : decode c_Mo_readVariable 0 = .ok (.iconst (-1), 1) := by decide +kernel
theorem d_Mo_readVariable_1 : decode c_Mo_readVariable 1 = .ok (.istore_n 1, 1) := by decide +kernel
theorem d_Mo_readVariable_2 : decode c_Mo_readVariable 2 = .ok (.iconst 0, 1) := by decide +kernel
theorem d_Mo_readVariable_3 : decode c_Mo_readVariable 3 = .ok (.istore_n 2, 1) := by decide +kernel
theorem d_Mo_readVariable_4 : decode c_Mo_readVariable 4 = .ok (.iload_n 2, 1) := by decide +kernel
theorem d_Mo_readVariable_5 : decode c_Mo_readVariable 5 = .ok (.aload_n 0, 1) := by decide +kernel
theorem d_Mo_readVariable_6 : decode c_Mo_readVariable 6 = .ok (.getfield 229, 3) := by decide +kernel
theorem d_Mo_readVariable_9 : decode c_Mo_readVariable 9 = .ok (.if_icmp .ge 25, 3) := by decide +kernel
theorem d_Mo_readVariable_12 : decode c_Mo_readVariable 12 = .ok (.aload_n 0, 1) := by decide +kernel
theorem d_Mo_readVariable_13 : decode c_Mo_readVariable 13 = .ok (.getfield 34, 3) := by decide +kernel
theorem d_Mo_readVariable_16 : decode c_Mo_readVariable 16 = .ok (.iload_n 2, 1) := by decide +kernel
theorem d_Mo_readVariable_17 : decode c_Mo_readVariable 17 = .ok (.laload, 1) := by decide +kernel
theorem d_Mo_readVariable_18 : decode c_Mo_readVariable 18 = .ok (.aload_n 0, 1) := by decide +kernel
theorem d_Mo_readVariable_19 : decode c_Mo_readVariable 19 = .ok (.getfield 164, 3) := by decide +kernel
theorem d_Mo_readVariable_22 : decode c_Mo_readVariable 22 = .ok (.lcmp, 1) := by decide +kernel
theorem d_Mo_readVariable_23 : decode c_Mo_readVariable 23 = .ok (.ifCond .ne 5, 3) := by decide +kernel
theorem d_Mo_readVariable_26 : decode c_Mo_readVariable 26 = .ok (.iload_n 2, 1) := by decide +kernel
theorem d_Mo_readVariable_27 : decode c_Mo_readVariable 27 = .ok (.istore_n 1, 1) := by decide +kernel
theorem d_Mo_readVariable_28 : decode c_Mo_readVariable 28 = .ok (.iinc 2 1, 3) := by decide +kernel
theorem d_Mo_readVariable_31 : decode c_Mo_readVariable 31 = .ok (.goto (-27), 3) := by decide +kernel
theorem d_Mo_readVariable_34 : decode c_Mo_readVariable 34 = .ok (.aload_n 0, 1) := by decide +kernel
theorem d_Mo_readVariable_35 : decode c_Mo_readVariable 35 = .ok (.getfield 181, 3) := by decide +kernel
theorem d_Mo_readVariable_38 : decode c_Mo_readVariable 38 = .ok (.iconst 3, 1) := by decide +kernel
theorem d_Mo_readVariable_39 : decode c_Mo_readVariable 39 = .ok (.if_icmp .ne 44, 3) := by decide +kernel
theorem d_Mo_readVariable_42 : decode c_Mo_readVariable 42 = .ok (.iload_n 1, 1) := by decide +kernel
theorem d_Mo_readVariable_43 : decode c_Mo_readVariable 43 = .ok (.ifCond .ge 40, 3) := by decide +kernel
theorem d_Mo_readVariable_46 : decode c_Mo_readVariable 46 = .ok (.aload_n 0, 1) := by decide +kernel
theorem d_Mo_readVariable_47 : decode c_Mo_readVariable 47 = .ok (.getfield 229, 3) := by decide +kernel
theorem d_Mo_readVariable_50 : decode c_Mo_readVariable 50 = .ok (.bipush 6, 2) := by decide +kernel
theorem d_Mo_readVariable_52 : decode c_Mo_readVariable 52 = .ok (.if_icmp .ge 31, 3) := by decide +kernel
theorem d_Mo_readVariable_55 : decode c_Mo_readVariable 55 = .ok (.aload_n 0, 1) := by decide +kernel
theorem d_Mo_readVariable_56 : decode c_Mo_readVariable 56 = .ok (.getfield 34, 3) := by decide +kernel
theorem d_Mo_readVariable_59 : decode c_Mo_readVariable 59 = .ok (.aload_n 0, 1) := by decide +kernel
theorem d_Mo_readVariable_60 : decode c_Mo_readVariable 60 = .ok (.getfield 229, 3) := by decide +kernel
theorem d_Mo_readVariable_63 : decode c_Mo_readVariable 63 = .ok (.aload_n 0, 1) := by decide +kernel
theorem d_Mo_readVariable_64 : decode c_Mo_readVariable 64 = .ok (.getfield 164, 3) := by decide +kernel
theorem d_Mo_readVariable_67 : decode c_Mo_readVariable 67 = .ok (.lastore, 1) := by decide +kernel
theorem d_Mo_readVariable_68 : decode c_Mo_readVariable 68 = .ok (.aload_n 0, 1) := by decide +kernel
theorem d_Mo_readVariable_69 : decode c_Mo_readVariable 69 = .ok (.getfield 229, 3) := by decide +kernel
theorem d_Mo_readVariable_72 : decode c_Mo_readVariable 72 = .ok (.istore_n 1, 1) := by decide +kernel
theorem d_Mo_readVariable_73 : decode c_Mo_readVariable 73 = .ok (.aload_n 0, 1) := by decide +kernel
theorem d_Mo_readVariable_74 : decode c_Mo_readVariable 74 = .ok (.dup, 1) := by decide +kernel
theorem d_Mo_readVariable_75 : decode c_Mo_readVariable 75 = .ok (.getfield 229, 3) := by decide +kernel
theorem d_Mo_readVariable_78 : decode c_Mo_readVariable 78 = .ok (.iconst 1, 1) := by decide +kernel
theorem d_Mo_readVariable_79 : decode c_Mo_readVariable 79 = .ok (.iadd, 1) := by decide +kernel
theorem d_Mo_readVariable_80 : decode c_Mo_readVariable 80 = .ok (.putfield 229, 3) := by decide +kernel
theorem d_Mo_readVariable_83 : decode c_Mo_readVariable 83 = .ok (.aload_n 0, 1) := by decide +kernel
theorem d_Mo_readVariable_84 : decode c_Mo_readVariable 84 = .ok (.aload_n 0, 1) := by decide +kernel
theorem d_Mo_readVariable_85 : decode c_Mo_readVariable 85 = .ok (.getfield 181, 3) := by decide +kernel
theorem d_Mo_readVariable_88 : decode c_Mo_readVariable 88 = .ok (.iconst 3, 1) := by decide +kernel
theorem d_Mo_readVariable_89 : decode c_Mo_readVariable 89 = .ok (.if_icmp .ne 11, 3) := by decide +kernel
theorem d_Mo_readVariable_92 : decode c_Mo_readVariable 92 = .ok (.iload_n 1, 1) := by decide +kernel
theorem d_Mo_readVariable_93 : decode c_Mo_readVariable 93 = .ok (.ifCond .lt 7, 3) := by decide +kernel
theorem d_Mo_readVariable_96 : decode c_Mo_readVariable 96 = .ok (.iconst 1, 1) := by decide +kernel
theorem d_Mo_readVariable_97 : decode c_Mo_readVariable 97 = .ok (.goto 4, 3) := by decide +kernel
theorem d_Mo_readVariable_100 : decode c_Mo_readVariable 100 = .ok (.iconst 0, 1) := by decide +kernel
theorem d_Mo_readVariable_101 : decode c_Mo_readVariable 101 = .ok (.invokevirtual 232, 3) := by decide +kernel
theorem d_Mo_readVariable_104 : decode c_Mo_readVariable 104 = .ok (.ifCond .eq 7, 3) := by decide +kernel
theorem d_Mo_readVariable_107 : decode c_Mo_readVariable 107 = .ok (.iload_n 1, 1) := by decide +kernel
theorem d_Mo_readVariable_108 : decode c_Mo_readVariable 108 = .ok (.goto 4, 3) := by decide +kernel
theorem d_Mo_readVariable_111 : decode c_Mo_readVariable 111 = .ok (.iconst (-1), 1) := by decide +kernel
theorem d_Mo_readVariable_112 : decode c_Mo_readVariable 112 = .ok (.ireturn, 1) := by decide +kernel
theorem d_Mo_readSide_0 : decode c_Mo_readSide 0 = .ok (.aload_n 0, 1) := by decide +kernel
theorem d_Mo_readSide_1 : decode c_Mo_readSide 1 = .ok (.getfield 49, 3) := by decide +kernel
theorem d_Mo_readSide_4 : decode c_Mo_readSide 4 = .ok (.iload_n 1, 1) := by decide +kernel
theorem d_Mo_readSide_5 : decode c_Mo_readSide 5 = .ok (.iconst (-1), 1) := by decide +kernel
theorem d_Mo_readSide_6 : decode c_Mo_readSide 6 = .ok (.iastore, 1) := by decide +kernel
theorem d_Mo_readSide_7 : decode c_Mo_readSide 7 = .ok (.aload_n 0, 1) := by decide +kernel
theorem d_Mo_readSide_8 : decode c_Mo_readSide 8 = .ok (.getfield 181, 3) := by decide +kernel
theorem d_Mo_readSide_11 : decode c_Mo_readSide 11 = .ok (.iconst 3, 1) := by decide +kernel
theorem d_Mo_readSide_12 : decode c_Mo_readSide 12 = .ok (.if_icmp .ne 16, 3) := by decide +kernel
theorem d_Mo_readSide_15 : decode c_Mo_readSide 15 = .ok (.aload_n 0, 1) := by decide +kernel
theorem d_Mo_readSide_16 : decode c_Mo_readSide 16 = .ok (.getfield 49, 3) := by decide +kernel
theorem d_Mo_readSide_19 : decode c_Mo_readSide 19 = .ok (.iload_n 1, 1) := by decide +kernel
theorem d_Mo_readSide_20 : decode c_Mo_readSide 20 = .ok (.aload_n 0, 1) := by decide +kernel
theorem d_Mo_readSide_21 : decode c_Mo_readSide 21 = .ok (.invokevirtual 236, 3) := by decide +kernel
theorem d_Mo_readSide_24 : decode c_Mo_readSide 24 = .ok (.iastore, 1) := by decide +kernel
theorem d_Mo_readSide_25 : decode c_Mo_readSide 25 = .ok (.goto 41, 3) := by decide +kernel
theorem d_Mo_readSide_28 : decode c_Mo_readSide 28 = .ok (.aload_n 0, 1) := by decide +kernel
theorem d_Mo_readSide_29 : decode c_Mo_readSide 29 = .ok (.getfield 52, 3) := by decide +kernel
theorem d_Mo_readSide_32 : decode c_Mo_readSide 32 = .ok (.iload_n 1, 1) := by decide +kernel
theorem d_Mo_readSide_33 : decode c_Mo_readSide 33 = .ok (.aload_n 0, 1) := by decide +kernel
theorem d_Mo_readSide_34 : decode c_Mo_readSide 34 = .ok (.getfield 181, 3) := by decide +kernel
theorem d_Mo_readSide_37 : decode c_Mo_readSide 37 = .ok (.iconst 2, 1) := by decide +kernel
theorem d_Mo_readSide_38 : decode c_Mo_readSide 38 = .ok (.if_icmp .ne 14, 3) := by decide +kernel
theorem d_Mo_readSide_41 : decode c_Mo_readSide 41 = .ok (.ldc2_w 98, 3) := by decide +kernel
theorem d_Mo_readSide_44 : decode c_Mo_readSide 44 = .ok (.aload_n 0, 1) := by decide +kernel
theorem d_Mo_readSide_45 : decode c_Mo_readSide 45 = .ok (.getfield 164, 3) := by decide +kernel
theorem d_Mo_readSide_48 : decode c_Mo_readSide 48 = .ok (.lsub, 1) := by decide +kernel
theorem d_Mo_readSide_49 : decode c_Mo_readSide 49 = .ok (.goto 7, 3) := by decide +kernel
theorem d_Mo_readSide_52 : decode c_Mo_readSide 52 = .ok (.aload_n 0, 1) := by decide +kernel
theorem d_Mo_readSide_53 : decode c_Mo_readSide 53 = .ok (.getfield 164, 3) := by decide +kernel
theorem d_Mo_readSide_56 : decode c_Mo_readSide 56 = .ok (.lastore, 1) := by decide +kernel
theorem d_Mo_readSide_57 : decode c_Mo_readSide 57 = .ok (.aload_n 0, 1) := by decide +kernel
theorem d_Mo_readSide_58 : decode c_Mo_readSide 58 = .ok (.aload_n 0, 1) := by decide +kernel
theorem d_Mo_readSide_59 : decode c_Mo_readSide 59 = .ok (.invokevirtual 240, 3) := by decide +kernel
theorem d_Mo_readSide_62 : decode c_Mo_readSide 62 = .ok (.invokevirtual 232, 3) := by decide +kernel
theorem d_Mo_readSide_65 : decode c_Mo_readSide 65 = .ok (.istore_n 2, 1) := by decide +kernel
theorem d_Mo_readSide_66 : decode c_Mo_readSide 66 = .ok (.return_, 1) := by decide +kernel
theorem d_Mo_emit_0 : decode c_Mo_emit 0 = .ok (.aload_n 0, 1) := by decide +kernel
theorem d_Mo_emit_1 : decode c_Mo_emit 1 = .ok (.getfield 43, 3) := by decide +kernel
theorem d_Mo_emit_4 : decode c_Mo_emit 4 = .ok (.aload_n 0, 1) := by decide +kernel
theorem d_Mo_emit_5 : decode c_Mo_emit 5 = .ok (.getfield 244, 3) := by decide +kernel
theorem d_Mo_emit_8 : decode c_Mo_emit 8 = .ok (.iload_n 1, 1) := by decide +kernel
theorem d_Mo_emit_9 : decode c_Mo_emit 9 = .ok (.iastore, 1) := by decide +kernel
theorem d_Mo_emit_10 : decode c_Mo_emit 10 = .ok (.aload_n 0, 1) := by decide +kernel
theorem d_Mo_emit_11 : decode c_Mo_emit 11 = .ok (.getfield 46, 3) := by decide +kernel
theorem d_Mo_emit_14 : decode c_Mo_emit 14 = .ok (.aload_n 0, 1) := by decide +kernel
theorem d_Mo_emit_15 : decode c_Mo_emit 15 = .ok (.getfield 244, 3) := by decide +kernel
theorem d_Mo_emit_18 : decode c_Mo_emit 18 = .ok (.iload_n 2, 1) := by decide +kernel
theorem d_Mo_emit_19 : decode c_Mo_emit 19 = .ok (.iastore, 1) := by decide +kernel
theorem d_Mo_emit_20 : decode c_Mo_emit 20 = .ok (.aload_n 0, 1) := by decide +kernel
theorem d_Mo_emit_21 : decode c_Mo_emit 21 = .ok (.dup, 1) := by decide +kernel
theorem d_Mo_emit_22 : decode c_Mo_emit 22 = .ok (.getfield 244, 3) := by decide +kernel
theorem d_Mo_emit_25 : decode c_Mo_emit 25 = .ok (.iconst 1, 1) := by decide +kernel
theorem d_Mo_emit_26 : decode c_Mo_emit 26 = .ok (.iadd, 1) := by decide +kernel
theorem d_Mo_emit_27 : decode c_Mo_emit 27 = .ok (.putfield 244, 3) := by decide +kernel
theorem d_Mo_emit_30 : decode c_Mo_emit 30 = .ok (.return_, 1) := by decide +kernel
theorem d_Mo_readTest_0 : decode c_Mo_readTest 0 = .ok (.aload_n 0, 1) := by decide +kernel
theorem d_Mo_readTest_1 : decode c_Mo_readTest 1 = .ok (.getfield 247, 3) := by decide +kernel
theorem d_Mo_readTest_4 : decode c_Mo_readTest 4 = .ok (.istore_n 1, 1) := by decide +kernel
theorem d_Mo_readTest_5 : decode c_Mo_readTest 5 = .ok (.aload_n 0, 1) := by decide +kernel
theorem d_Mo_readTest_6 : decode c_Mo_readTest 6 = .ok (.dup, 1) := by decide +kernel
theorem d_Mo_readTest_7 : decode c_Mo_readTest 7 = .ok (.getfield 247, 3) := by decide +kernel
theorem d_Mo_readTest_10 : decode c_Mo_readTest 10 = .ok (.iconst 1, 1) := by decide +kernel
theorem d_Mo_readTest_11 : decode c_Mo_readTest 11 = .ok (.iadd, 1) := by decide +kernel
theorem d_Mo_readTest_12 : decode c_Mo_readTest 12 = .ok (.putfield 247, 3) := by decide +kernel
theorem d_Mo_readTest_15 : decode c_Mo_readTest 15 = .ok (.aload_n 0, 1) := by decide +kernel
theorem d_Mo_readTest_16 : decode c_Mo_readTest 16 = .ok (.getfield 55, 3) := by decide +kernel
theorem d_Mo_readTest_19 : decode c_Mo_readTest 19 = .ok (.iload_n 1, 1) := by decide +kernel
theorem d_Mo_readTest_20 : decode c_Mo_readTest 20 = .ok (.aload_n 0, 1) := by decide +kernel
theorem d_Mo_readTest_21 : decode c_Mo_readTest 21 = .ok (.getfield 40, 3) := by decide +kernel
theorem d_Mo_readTest_24 : decode c_Mo_readTest 24 = .ok (.aload_n 0, 1) := by decide +kernel
theorem d_Mo_readTest_25 : decode c_Mo_readTest 25 = .ok (.getfield 250, 3) := by decide +kernel
theorem d_Mo_readTest_28 : decode c_Mo_readTest 28 = .ok (.iconst 1, 1) := by decide +kernel
theorem d_Mo_readTest_29 : decode c_Mo_readTest 29 = .ok (.isub, 1) := by decide +kernel
theorem d_Mo_readTest_30 : decode c_Mo_readTest 30 = .ok (.iaload, 1) := by decide +kernel
theorem d_Mo_readTest_31 : decode c_Mo_readTest 31 = .ok (.iastore, 1) := by decide +kernel
theorem d_Mo_readTest_32 : decode c_Mo_readTest 32 = .ok (.aload_n 0, 1) := by decide +kernel
theorem d_Mo_readTest_33 : decode c_Mo_readTest 33 = .ok (.getfield 61, 3) := by decide +kernel
theorem d_Mo_readTest_36 : decode c_Mo_readTest 36 = .ok (.iload_n 1, 1) := by decide +kernel
theorem d_Mo_readTest_37 : decode c_Mo_readTest 37 = .ok (.iconst 0, 1) := by decide +kernel
theorem d_Mo_readTest_38 : decode c_Mo_readTest 38 = .ok (.bastore, 1) := by decide +kernel
theorem d_Mo_readTest_39 : decode c_Mo_readTest 39 = .ok (.iconst 0, 1) := by decide +kernel
theorem d_Mo_readTest_40 : decode c_Mo_readTest 40 = .ok (.istore_n 2, 1) := by decide +kernel
theorem d_Mo_readTest_41 : decode c_Mo_readTest 41 = .ok (.aload_n 0, 1) := by decide +kernel
theorem d_Mo_readTest_42 : decode c_Mo_readTest 42 = .ok (.bipush 9, 2) := by decide +kernel
theorem d_Mo_readTest_44 : decode c_Mo_readTest 44 = .ok (.invokevirtual 217, 3) := by decide +kernel
theorem d_Mo_readTest_47 : decode c_Mo_readTest 47 = .ok (.ifCond .eq 54, 3) := by decide +kernel
theorem d_Mo_readTest_50 : decode c_Mo_readTest 50 = .ok (.aload_n 0, 1) := by decide +kernel
theorem d_Mo_readTest_51 : decode c_Mo_readTest 51 = .ok (.getfield 220, 3) := by decide +kernel
theorem d_Mo_readTest_54 : decode c_Mo_readTest 54 = .ok (.ifCond .ge 47, 3) := by decide +kernel
theorem d_Mo_readTest_57 : decode c_Mo_readTest 57 = .ok (.aload_n 0, 1) := by decide +kernel
theorem d_Mo_readTest_58 : decode c_Mo_readTest 58 = .ok (.getfield 61, 3) := by decide +kernel
theorem d_Mo_readTest_61 : decode c_Mo_readTest 61 = .ok (.iload_n 1, 1) := by decide +kernel
theorem d_Mo_readTest_62 : decode c_Mo_readTest 62 = .ok (.aload_n 0, 1) := by decide +kernel
theorem d_Mo_readTest_63 : decode c_Mo_readTest 63 = .ok (.getfield 61, 3) := by decide +kernel
theorem d_Mo_readTest_66 : decode c_Mo_readTest 66 = .ok (.iload_n 1, 1) := by decide +kernel
theorem d_Mo_readTest_67 : decode c_Mo_readTest 67 = .ok (.baload, 1) := by decide +kernel
theorem d_Mo_readTest_68 : decode c_Mo_readTest 68 = .ok (.ifCond .ne 7, 3) := by decide +kernel
theorem d_Mo_readTest_71 : decode c_Mo_readTest 71 = .ok (.iconst 1, 1) := by decide +kernel
theorem d_Mo_readTest_72 : decode c_Mo_readTest 72 = .ok (.goto 4, 3) := by decide +kernel
theorem d_Mo_readTest_75 : decode c_Mo_readTest 75 = .ok (.iconst 0, 1) := by decide +kernel
theorem d_Mo_readTest_76 : decode c_Mo_readTest 76 = .ok (.bastore, 1) := by decide +kernel
theorem d_Mo_readTest_77 : decode c_Mo_readTest 77 = .ok (.aload_n 0, 1) := by decide +kernel
theorem d_Mo_readTest_78 : decode c_Mo_readTest 78 = .ok (.iload_n 2, 1) := by decide +kernel
theorem d_Mo_readTest_79 : decode c_Mo_readTest 79 = .ok (.iconst 4, 1) := by decide +kernel
theorem d_Mo_readTest_80 : decode c_Mo_readTest 80 = .ok (.if_icmp .ge 7, 3) := by decide +kernel
theorem d_Mo_readTest_83 : decode c_Mo_readTest 83 = .ok (.iconst 1, 1) := by decide +kernel
theorem d_Mo_readTest_84 : decode c_Mo_readTest 84 = .ok (.goto 4, 3) := by decide +kernel
theorem d_Mo_readTest_87 : decode c_Mo_readTest 87 = .ok (.iconst 0, 1) := by decide +kernel
theorem d_Mo_readTest_88 : decode c_Mo_readTest 88 = .ok (.invokevirtual 232, 3) := by decide +kernel
theorem d_Mo_readTest_91 : decode c_Mo_readTest 91 = .ok (.ifCond .ne 4, 3) := by decide +kernel
theorem d_Mo_readTest_94 : decode c_Mo_readTest 94 = .ok (.return_, 1) := by decide +kernel
theorem d_Mo_readTest_95 : decode c_Mo_readTest 95 = .ok (.iinc 2 1, 3) := by decide +kernel
theorem d_Mo_readTest_98 : decode c_Mo_readTest 98 = .ok (.goto (-57), 3) := by decide +kernel
theorem d_Mo_readTest_101 : decode c_Mo_readTest 101 = .ok (.aload_n 0, 1) := by decide +kernel
theorem d_Mo_readTest_102 : decode c_Mo_readTest 102 = .ok (.bipush 10, 2) := by decide +kernel
theorem d_Mo_readTest_104 : decode c_Mo_readTest 104 = .ok (.invokevirtual 217, 3) := by decide +kernel
theorem d_Mo_readTest_107 : decode c_Mo_readTest 107 = .ok (.ifCond .eq 31, 3) := by decide +kernel
theorem d_Mo_readTest_110 : decode c_Mo_readTest 110 = .ok (.aload_n 0, 1) := by decide +kernel
theorem d_Mo_readTest_111 : decode c_Mo_readTest 111 = .ok (.invokevirtual 226, 3) := by decide +kernel
theorem d_Mo_readTest_114 : decode c_Mo_readTest 114 = .ok (.aload_n 0, 1) := by decide +kernel
theorem d_Mo_readTest_115 : decode c_Mo_readTest 115 = .ok (.getfield 58, 3) := by decide +kernel
theorem d_Mo_readTest_118 : decode c_Mo_readTest 118 = .ok (.iload_n 1, 1) := by decide +kernel
theorem d_Mo_readTest_119 : decode c_Mo_readTest 119 = .ok (.bipush 98, 2) := by decide +kernel
theorem d_Mo_readTest_121 : decode c_Mo_readTest 121 = .ok (.iastore, 1) := by decide +kernel
theorem d_Mo_readTest_122 : decode c_Mo_readTest 122 = .ok (.aload_n 0, 1) := by decide +kernel
theorem d_Mo_readTest_123 : decode c_Mo_readTest 123 = .ok (.getfield 49, 3) := by decide +kernel
theorem d_Mo_readTest_126 : decode c_Mo_readTest 126 = .ok (.bipush 60, 2) := by decide +kernel
theorem d_Mo_readTest_128 : decode c_Mo_readTest 128 = .ok (.iconst 2, 1) := by decide +kernel
theorem d_Mo_readTest_129 : decode c_Mo_readTest 129 = .ok (.iload_n 1, 1) := by decide +kernel
theorem d_Mo_readTest_130 : decode c_Mo_readTest 130 = .ok (.imul, 1) := by decide +kernel
theorem d_Mo_readTest_131 : decode c_Mo_readTest 131 = .ok (.iadd, 1) := by decide +kernel
theorem d_Mo_readTest_132 : decode c_Mo_readTest 132 = .ok (.aload_n 0, 1) := by decide +kernel
theorem d_Mo_readTest_133 : decode c_Mo_readTest 133 = .ok (.invokevirtual 236, 3) := by decide +kernel
theorem d_Mo_readTest_136 : decode c_Mo_readTest 136 = .ok (.iastore, 1) := by decide +kernel
theorem d_Mo_readTest_137 : decode c_Mo_readTest 137 = .ok (.return_, 1) := by decide +kernel
theorem d_Mo_readTest_138 : decode c_Mo_readTest 138 = .ok (.aload_n 0, 1) := by decide +kernel
theorem d_Mo_readTest_139 : decode c_Mo_readTest 139 = .ok (.bipush 60, 2) := by decide +kernel
theorem d_Mo_readTest_141 : decode c_Mo_readTest 141 = .ok (.iconst 2, 1) := by decide +kernel
theorem d_Mo_readTest_142 : decode c_Mo_readTest 142 = .ok (.iload_n 1, 1) := by decide +kernel
theorem d_Mo_readTest_143 : decode c_Mo_readTest 143 = .ok (.imul, 1) := by decide +kernel
theorem d_Mo_readTest_144 : decode c_Mo_readTest 144 = .ok (.iadd, 1) := by decide +kernel
theorem d_Mo_readTest_145 : decode c_Mo_readTest 145 = .ok (.invokevirtual 253, 3) := by decide +kernel
theorem d_Mo_readTest_148 : decode c_Mo_readTest 148 = .ok (.aload_n 0, 1) := by decide +kernel
theorem d_Mo_readTest_149 : decode c_Mo_readTest 149 = .ok (.getfield 220, 3) := by decide +kernel
theorem d_Mo_readTest_152 : decode c_Mo_readTest 152 = .ok (.ifCond .lt 4, 3) := by decide +kernel
theorem d_Mo_readTest_155 : decode c_Mo_readTest 155 = .ok (.return_, 1) := by decide +kernel
theorem d_Mo_readTest_156 : decode c_Mo_readTest 156 = .ok (.aload_n 0, 1) := by decide +kernel
theorem d_Mo_readTest_157 : decode c_Mo_readTest 157 = .ok (.getfield 58, 3) := by decide +kernel
theorem d_Mo_readTest_160 : decode c_Mo_readTest 160 = .ok (.iload_n 1, 1) := by decide +kernel
theorem d_Mo_readTest_161 : decode c_Mo_readTest 161 = .ok (.aload_n 0, 1) := by decide +kernel
theorem d_Mo_readTest_162 : decode c_Mo_readTest 162 = .ok (.getfield 164, 3) := by decide +kernel
theorem d_Mo_readTest_165 : decode c_Mo_readTest 165 = .ok (.l2i, 1) := by decide +kernel
theorem d_Mo_readTest_166 : decode c_Mo_readTest 166 = .ok (.iastore, 1) := by decide +kernel
theorem d_Mo_readTest_167 : decode c_Mo_readTest 167 = .ok (.aload_n 0, 1) := by decide +kernel
theorem d_Mo_readTest_168 : decode c_Mo_readTest 168 = .ok (.aload_n 0, 1) := by decide +kernel
theorem d_Mo_readTest_169 : decode c_Mo_readTest 169 = .ok (.bipush 61, 2) := by decide +kernel
theorem d_Mo_readTest_171 : decode c_Mo_readTest 171 = .ok (.invokevirtual 256, 3) := by decide +kernel
theorem d_Mo_readTest_174 : decode c_Mo_readTest 174 = .ok (.ifCond .ne 30, 3) := by decide +kernel
theorem d_Mo_readTest_177 : decode c_Mo_readTest 177 = .ok (.aload_n 0, 1) := by decide +kernel
theorem d_Mo_readTest_178 : decode c_Mo_readTest 178 = .ok (.bipush 60, 2) := by decide +kernel
theorem d_Mo_readTest_180 : decode c_Mo_readTest 180 = .ok (.invokevirtual 256, 3) := by decide +kernel
theorem d_Mo_readTest_183 : decode c_Mo_readTest 183 = .ok (.ifCond .ne 21, 3) := by decide +kernel
theorem d_Mo_readTest_186 : decode c_Mo_readTest 186 = .ok (.aload_n 0, 1) := by decide +kernel
theorem d_Mo_readTest_187 : decode c_Mo_readTest 187 = .ok (.bipush 62, 2) := by decide +kernel
theorem d_Mo_readTest_189 : decode c_Mo_readTest 189 = .ok (.invokevirtual 256, 3) := by decide +kernel
theorem d_Mo_readTest_192 : decode c_Mo_readTest 192 = .ok (.ifCond .ne 12, 3) := by decide +kernel
theorem d_Mo_readTest_195 : decode c_Mo_readTest 195 = .ok (.aload_n 0, 1) := by decide +kernel
theorem d_Mo_readTest_196 : decode c_Mo_readTest 196 = .ok (.bipush 33, 2) := by decide +kernel
theorem d_Mo_readTest_198 : decode c_Mo_readTest 198 = .ok (.invokevirtual 256, 3) := by decide +kernel
theorem d_Mo_readTest_201 : decode c_Mo_readTest 201 = .ok (.ifCond .eq 7, 3) := by decide +kernel
theorem d_Mo_readTest_204 : decode c_Mo_readTest 204 = .ok (.iconst 1, 1) := by decide +kernel
theorem d_Mo_readTest_205 : decode c_Mo_readTest 205 = .ok (.goto 4, 3) := by decide +kernel
theorem d_Mo_readTest_208 : decode c_Mo_readTest 208 = .ok (.iconst 0, 1) := by decide +kernel
theorem d_Mo_readTest_209 : decode c_Mo_readTest 209 = .ok (.invokevirtual 232, 3) := by decide +kernel
theorem d_Mo_readTest_212 : decode c_Mo_readTest 212 = .ok (.ifCond .ne 4, 3) := by decide +kernel
theorem d_Mo_readTest_215 : decode c_Mo_readTest 215 = .ok (.return_, 1) := by decide +kernel
theorem d_Mo_readTest_216 : decode c_Mo_readTest 216 = .ok (.aload_n 0, 1) := by decide +kernel
theorem d_Mo_readTest_217 : decode c_Mo_readTest 217 = .ok (.bipush 60, 2) := by decide +kernel
theorem d_Mo_readTest_219 : decode c_Mo_readTest 219 = .ok (.iconst 2, 1) := by decide +kernel
theorem d_Mo_readTest_220 : decode c_Mo_readTest 220 = .ok (.iload_n 1, 1) := by decide +kernel
theorem d_Mo_readTest_221 : decode c_Mo_readTest 221 = .ok (.imul, 1) := by decide +kernel
theorem d_Mo_readTest_222 : decode c_Mo_readTest 222 = .ok (.iadd, 1) := by decide +kernel
theorem d_Mo_readTest_223 : decode c_Mo_readTest 223 = .ok (.iconst 1, 1) := by decide +kernel
theorem d_Mo_readTest_224 : decode c_Mo_readTest 224 = .ok (.iadd, 1) := by decide +kernel
theorem d_Mo_readTest_225 : decode c_Mo_readTest 225 = .ok (.invokevirtual 253, 3) := by decide +kernel
theorem d_Mo_readTest_228 : decode c_Mo_readTest 228 = .ok (.return_, 1) := by decide +kernel
theorem d_Mo_readElement_0 : decode c_Mo_readElement 0 = .ok (.aload_n 0, 1) := by decide +kernel
theorem d_Mo_readElement_1 : decode c_Mo_readElement 1 = .ok (.iconst 5, 1) := by decide +kernel
theorem d_Mo_readElement_2 : decode c_Mo_readElement 2 = .ok (.invokevirtual 217, 3) := by decide +kernel
theorem d_Mo_readElement_5 : decode c_Mo_readElement 5 = .ok (.ifCond .ne 45, 3) := by decide +kernel
theorem d_Mo_readElement_8 : decode c_Mo_readElement 8 = .ok (.aload_n 0, 1) := by decide +kernel
theorem d_Mo_readElement_9 : decode c_Mo_readElement 9 = .ok (.bipush 6, 2) := by decide +kernel
theorem d_Mo_readElement_11 : decode c_Mo_readElement 11 = .ok (.invokevirtual 217, 3) := by decide +kernel
theorem d_Mo_readElement_14 : decode c_Mo_readElement 14 = .ok (.ifCond .ne 36, 3) := by decide +kernel
theorem d_Mo_readElement_17 : decode c_Mo_readElement 17 = .ok (.aload_n 0, 1) := by decide +kernel
theorem d_Mo_readElement_18 : decode c_Mo_readElement 18 = .ok (.bipush 7, 2) := by decide +kernel
theorem d_Mo_readElement_20 : decode c_Mo_readElement 20 = .ok (.invokevirtual 217, 3) := by decide +kernel
theorem d_Mo_readElement_23 : decode c_Mo_readElement 23 = .ok (.ifCond .ne 27, 3) := by decide +kernel
theorem d_Mo_readElement_26 : decode c_Mo_readElement 26 = .ok (.aload_n 0, 1) := by decide +kernel
theorem d_Mo_readElement_27 : decode c_Mo_readElement 27 = .ok (.bipush 123, 2) := by decide +kernel
theorem d_Mo_readElement_29 : decode c_Mo_readElement 29 = .ok (.invokevirtual 256, 3) := by decide +kernel
theorem d_Mo_readElement_32 : decode c_Mo_readElement 32 = .ok (.ifCond .ne 18, 3) := by decide +kernel
theorem d_Mo_readElement_35 : decode c_Mo_readElement 35 = .ok (.aload_n 0, 1) := by decide +kernel
theorem d_Mo_readElement_36 : decode c_Mo_readElement 36 = .ok (.getfield 181, 3) := by decide +kernel
theorem d_Mo_readElement_39 : decode c_Mo_readElement 39 = .ok (.iconst 3, 1) := by decide +kernel
theorem d_Mo_readElement_40 : decode c_Mo_readElement 40 = .ok (.if_icmp .eq 10, 3) := by decide +kernel
theorem d_Mo_readElement_43 : decode c_Mo_readElement 43 = .ok (.aload_n 0, 1) := by decide +kernel
theorem d_Mo_readElement_44 : decode c_Mo_readElement 44 = .ok (.invokevirtual 240, 3) := by decide +kernel
theorem d_Mo_readElement_47 : decode c_Mo_readElement 47 = .ok (.ifCond .eq 7, 3) := by decide +kernel
theorem d_Mo_readElement_50 : decode c_Mo_readElement 50 = .ok (.iconst 1, 1) := by decide +kernel
theorem d_Mo_readElement_51 : decode c_Mo_readElement 51 = .ok (.goto 4, 3) := by decide +kernel
theorem d_Mo_readElement_54 : decode c_Mo_readElement 54 = .ok (.iconst 0, 1) := by decide +kernel
theorem d_Mo_readElement_55 : decode c_Mo_readElement 55 = .ok (.istore_n 1, 1) := by decide +kernel
theorem d_Mo_readElement_56 : decode c_Mo_readElement 56 = .ok (.iload_n 1, 1) := by decide +kernel
theorem d_Mo_readElement_57 : decode c_Mo_readElement 57 = .ok (.ifCond .eq 12, 3) := by decide +kernel
theorem d_Mo_readElement_60 : decode c_Mo_readElement 60 = .ok (.aload_n 0, 1) := by decide +kernel
theorem d_Mo_readElement_61 : decode c_Mo_readElement 61 = .ok (.getfield 259, 3) := by decide +kernel
theorem d_Mo_readElement_64 : decode c_Mo_readElement 64 = .ok (.bipush 12, 2) := by decide +kernel
theorem d_Mo_readElement_66 : decode c_Mo_readElement 66 = .ok (.if_icmp .ne 8, 3) := by decide +kernel
theorem d_Mo_readElement_69 : decode c_Mo_readElement 69 = .ok (.aload_n 0, 1) := by decide +kernel
theorem d_Mo_readElement_70 : decode c_Mo_readElement 70 = .ok (.invokevirtual 223, 3) := by decide +kernel
theorem d_Mo_readElement_73 : decode c_Mo_readElement 73 = .ok (.return_, 1) := by decide +kernel
theorem d_Mo_readElement_74 : decode c_Mo_readElement 74 = .ok (.aload_n 0, 1) := by decide +kernel
theorem d_Mo_readElement_75 : decode c_Mo_readElement 75 = .ok (.dup, 1) := by decide +kernel
theorem d_Mo_readElement_76 : decode c_Mo_readElement 76 = .ok (.getfield 259, 3) := by decide +kernel
theorem d_Mo_readElement_79 : decode c_Mo_readElement 79 = .ok (.iconst 1, 1) := by decide +kernel
theorem d_Mo_readElement_80 : decode c_Mo_readElement 80 = .ok (.iadd, 1) := by decide +kernel
theorem d_Mo_readElement_81 : decode c_Mo_readElement 81 = .ok (.putfield 259, 3) := by decide +kernel
theorem d_Mo_readElement_84 : decode c_Mo_readElement 84 = .ok (.aload_n 0, 1) := by decide +kernel
theorem d_Mo_readElement_85 : decode c_Mo_readElement 85 = .ok (.aload_n 0, 1) := by decide +kernel
theorem d_Mo_readElement_86 : decode c_Mo_readElement 86 = .ok (.bipush 6, 2) := by decide +kernel
theorem d_Mo_readElement_88 : decode c_Mo_readElement 88 = .ok (.invokevirtual 217, 3) := by decide +kernel
theorem d_Mo_readElement_91 : decode c_Mo_readElement 91 = .ok (.ifCond .ne 21, 3) := by decide +kernel
theorem d_Mo_readElement_94 : decode c_Mo_readElement 94 = .ok (.aload_n 0, 1) := by decide +kernel
theorem d_Mo_readElement_95 : decode c_Mo_readElement 95 = .ok (.bipush 7, 2) := by decide +kernel
theorem d_Mo_readElement_97 : decode c_Mo_readElement 97 = .ok (.invokevirtual 217, 3) := by decide +kernel
theorem d_Mo_readElement_100 : decode c_Mo_readElement 100 = .ok (.ifCond .ne 12, 3) := by decide +kernel
theorem d_Mo_readElement_103 : decode c_Mo_readElement 103 = .ok (.aload_n 0, 1) := by decide +kernel
theorem d_Mo_readElement_104 : decode c_Mo_readElement 104 = .ok (.bipush 123, 2) := by decide +kernel
theorem d_Mo_readElement_106 : decode c_Mo_readElement 106 = .ok (.invokevirtual 256, 3) := by decide +kernel
theorem d_Mo_readElement_109 : decode c_Mo_readElement 109 = .ok (.ifCond .eq 7, 3) := by decide +kernel
theorem d_Mo_readElement_112 : decode c_Mo_readElement 112 = .ok (.iconst 1, 1) := by decide +kernel
theorem d_Mo_readElement_113 : decode c_Mo_readElement 113 = .ok (.goto 4, 3) := by decide +kernel
theorem d_Mo_readElement_116 : decode c_Mo_readElement 116 = .ok (.iconst 0, 1) := by decide +kernel
theorem d_Mo_readElement_117 : decode c_Mo_readElement 117 = .ok (.putfield 262, 3) := by decide +kernel
theorem d_Mo_readElement_120 : decode c_Mo_readElement 120 = .ok (.aload_n 0, 1) := by decide +kernel
theorem d_Mo_readElement_121 : decode c_Mo_readElement 121 = .ok (.iconst 5, 1) := by decide +kernel
theorem d_Mo_readElement_122 : decode c_Mo_readElement 122 = .ok (.invokevirtual 217, 3) := by decide +kernel
theorem d_Mo_readElement_125 : decode c_Mo_readElement 125 = .ok (.ifCond .eq 14, 3) := by decide +kernel
theorem d_Mo_readElement_128 : decode c_Mo_readElement 128 = .ok (.aload_n 0, 1) := by decide +kernel
theorem d_Mo_readElement_129 : decode c_Mo_readElement 129 = .ok (.invokevirtual 226, 3) := by decide +kernel
theorem d_Mo_readElement_132 : decode c_Mo_readElement 132 = .ok (.aload_n 0, 1) := by decide +kernel
theorem d_Mo_readElement_133 : decode c_Mo_readElement 133 = .ok (.invokevirtual 265, 3) := by decide +kernel
theorem d_Mo_readElement_136 : decode c_Mo_readElement 136 = .ok (.goto 68, 3) := by decide +kernel
theorem d_Mo_readElement_139 : decode c_Mo_readElement 139 = .ok (.aload_n 0, 1) := by decide +kernel
theorem d_Mo_readElement_140 : decode c_Mo_readElement 140 = .ok (.getfield 181, 3) := by decide +kernel
theorem d_Mo_readElement_143 : decode c_Mo_readElement 143 = .ok (.iconst 3, 1) := by decide +kernel
theorem d_Mo_readElement_144 : decode c_Mo_readElement 144 = .ok (.if_icmp .eq 10, 3) := by decide +kernel
theorem d_Mo_readElement_147 : decode c_Mo_readElement 147 = .ok (.aload_n 0, 1) := by decide +kernel
theorem d_Mo_readElement_148 : decode c_Mo_readElement 148 = .ok (.invokevirtual 240, 3) := by decide +kernel
theorem d_Mo_readElement_151 : decode c_Mo_readElement 151 = .ok (.ifCond .eq 53, 3) := by decide +kernel
theorem d_Mo_readElement_154 : decode c_Mo_readElement 154 = .ok (.iconst 3, 1) := by decide +kernel
theorem d_Mo_readElement_155 : decode c_Mo_readElement 155 = .ok (.aload_n 0, 1) := by decide +kernel
theorem d_Mo_readElement_156 : decode c_Mo_readElement 156 = .ok (.getfield 268, 3) := by decide +kernel
theorem d_Mo_readElement_159 : decode c_Mo_readElement 159 = .ok (.imul, 1) := by decide +kernel
theorem d_Mo_readElement_160 : decode c_Mo_readElement 160 = .ok (.istore_n 2, 1) := by decide +kernel
theorem d_Mo_readElement_161 : decode c_Mo_readElement 161 = .ok (.aload_n 0, 1) := by decide +kernel
theorem d_Mo_readElement_162 : decode c_Mo_readElement 162 = .ok (.dup, 1) := by decide +kernel
theorem d_Mo_readElement_163 : decode c_Mo_readElement 163 = .ok (.getfield 268, 3) := by decide +kernel
theorem d_Mo_readElement_166 : decode c_Mo_readElement 166 = .ok (.iconst 1, 1) := by decide +kernel
theorem d_Mo_readElement_167 : decode c_Mo_readElement 167 = .ok (.iadd, 1) := by decide +kernel
theorem d_Mo_readElement_168 : decode c_Mo_readElement 168 = .ok (.putfield 268, 3) := by decide +kernel
theorem d_Mo_readElement_171 : decode c_Mo_readElement 171 = .ok (.iconst 0, 1) := by decide +kernel
theorem d_Mo_readElement_172 : decode c_Mo_readElement 172 = .ok (.istore_n 3, 1) := by decide +kernel
theorem d_Mo_readElement_173 : decode c_Mo_readElement 173 = .ok (.iload_n 3, 1) := by decide +kernel
theorem d_Mo_readElement_174 : decode c_Mo_readElement 174 = .ok (.iconst 3, 1) := by decide +kernel
theorem d_Mo_readElement_175 : decode c_Mo_readElement 175 = .ok (.if_icmp .ge 23, 3) := by decide +kernel
theorem d_Mo_readElement_178 : decode c_Mo_readElement 178 = .ok (.aload_n 0, 1) := by decide +kernel
theorem d_Mo_readElement_179 : decode c_Mo_readElement 179 = .ok (.getfield 220, 3) := by decide +kernel
theorem d_Mo_readElement_182 : decode c_Mo_readElement 182 = .ok (.ifCond .ge 16, 3) := by decide +kernel
theorem d_Mo_readElement_185 : decode c_Mo_readElement 185 = .ok (.aload_n 0, 1) := by decide +kernel
theorem d_Mo_readElement_186 : decode c_Mo_readElement 186 = .ok (.iload_n 2, 1) := by decide +kernel
theorem d_Mo_readElement_187 : decode c_Mo_readElement 187 = .ok (.iload_n 3, 1) := by decide +kernel
theorem d_Mo_readElement_188 : decode c_Mo_readElement 188 = .ok (.iadd, 1) := by decide +kernel
theorem d_Mo_readElement_189 : decode c_Mo_readElement 189 = .ok (.invokevirtual 253, 3) := by decide +kernel
theorem d_Mo_readElement_192 : decode c_Mo_readElement 192 = .ok (.iinc 3 1, 3) := by decide +kernel
theorem d_Mo_readElement_195 : decode c_Mo_readElement 195 = .ok (.goto (-22), 3) := by decide +kernel
theorem d_Mo_readElement_198 : decode c_Mo_readElement 198 = .ok (.aload_n 0, 1) := by decide +kernel
theorem d_Mo_readElement_199 : decode c_Mo_readElement 199 = .ok (.iconst 2, 1) := by decide +kernel
theorem d_Mo_readElement_200 : decode c_Mo_readElement 200 = .ok (.iload_n 2, 1) := by decide +kernel
theorem d_Mo_readElement_201 : decode c_Mo_readElement 201 = .ok (.invokevirtual 271, 3) := by decide +kernel
theorem d_Mo_readElement_204 : decode c_Mo_readElement 204 = .ok (.return_, 1) := by decide +kernel
theorem d_Mo_readOn_0 : decode c_Mo_readOn 0 = .ok (.aload_n 0, 1) := by decide +kernel
theorem d_Mo_readOn_1 : decode c_Mo_readOn 1 = .ok (.bipush 6, 2) := by decide +kernel
theorem d_Mo_readOn_3 : decode c_Mo_readOn 3 = .ok (.invokevirtual 217, 3) := by decide +kernel
theorem d_Mo_readOn_6 : decode c_Mo_readOn 6 = .ok (.ifCond .ne 12, 3) := by decide +kernel
theorem d_Mo_readOn_9 : decode c_Mo_readOn 9 = .ok (.aload_n 0, 1) := by decide +kernel
theorem d_Mo_readOn_10 : decode c_Mo_readOn 10 = .ok (.bipush 7, 2) := by decide +kernel
theorem d_Mo_readOn_12 : decode c_Mo_readOn 12 = .ok (.invokevirtual 217, 3) := by decide +kernel
theorem d_Mo_readOn_15 : decode c_Mo_readOn 15 = .ok (.ifCond .eq 30, 3) := by decide +kernel
theorem d_Mo_readOn_18 : decode c_Mo_readOn 18 = .ok (.aload_n 0, 1) := by decide +kernel
theorem d_Mo_readOn_19 : decode c_Mo_readOn 19 = .ok (.bipush 6, 2) := by decide +kernel
theorem d_Mo_readOn_21 : decode c_Mo_readOn 21 = .ok (.invokevirtual 217, 3) := by decide +kernel
theorem d_Mo_readOn_24 : decode c_Mo_readOn 24 = .ok (.ifCond .eq 7, 3) := by decide +kernel
theorem d_Mo_readOn_27 : decode c_Mo_readOn 27 = .ok (.iconst 1, 1) := by decide +kernel
theorem d_Mo_readOn_28 : decode c_Mo_readOn 28 = .ok (.goto 4, 3) := by decide +kernel
theorem d_Mo_readOn_31 : decode c_Mo_readOn 31 = .ok (.iconst 2, 1) := by decide +kernel
theorem d_Mo_readOn_32 : decode c_Mo_readOn 32 = .ok (.istore_n 1, 1) := by decide +kernel
theorem d_Mo_readOn_33 : decode c_Mo_readOn 33 = .ok (.aload_n 0, 1) := by decide +kernel
theorem d_Mo_readOn_34 : decode c_Mo_readOn 34 = .ok (.invokevirtual 226, 3) := by decide +kernel
theorem d_Mo_readOn_37 : decode c_Mo_readOn 37 = .ok (.aload_n 0, 1) := by decide +kernel
theorem d_Mo_readOn_38 : decode c_Mo_readOn 38 = .ok (.iload_n 1, 1) := by decide +kernel
theorem d_Mo_readOn_39 : decode c_Mo_readOn 39 = .ok (.invokevirtual 275, 3) := by decide +kernel
theorem d_Mo_readOn_42 : decode c_Mo_readOn 42 = .ok (.goto 34, 3) := by decide +kernel
theorem d_Mo_readOn_45 : decode c_Mo_readOn 45 = .ok (.aload_n 0, 1) := by decide +kernel
theorem d_Mo_readOn_46 : decode c_Mo_readOn 46 = .ok (.bipush 123, 2) := by decide +kernel
theorem d_Mo_readOn_48 : decode c_Mo_readOn 48 = .ok (.invokevirtual 256, 3) := by decide +kernel
theorem d_Mo_readOn_51 : decode c_Mo_readOn 51 = .ok (.ifCond .eq 25, 3) := by decide +kernel
theorem d_Mo_readOn_54 : decode c_Mo_readOn 54 = .ok (.aload_n 0, 1) := by decide +kernel
theorem d_Mo_readOn_55 : decode c_Mo_readOn 55 = .ok (.bipush 6, 2) := by decide +kernel
theorem d_Mo_readOn_57 : decode c_Mo_readOn 57 = .ok (.iconst 0, 1) := by decide +kernel
theorem d_Mo_readOn_58 : decode c_Mo_readOn 58 = .ok (.invokevirtual 271, 3) := by decide +kernel
theorem d_Mo_readOn_61 : decode c_Mo_readOn 61 = .ok (.aload_n 0, 1) := by decide +kernel
theorem d_Mo_readOn_62 : decode c_Mo_readOn 62 = .ok (.getfield 67, 3) := by decide +kernel
theorem d_Mo_readOn_65 : decode c_Mo_readOn 65 = .ok (.aload_n 0, 1) := by decide +kernel
theorem d_Mo_readOn_66 : decode c_Mo_readOn 66 = .ok (.getfield 250, 3) := by decide +kernel
theorem d_Mo_readOn_69 : decode c_Mo_readOn 69 = .ok (.iconst 0, 1) := by decide +kernel
theorem d_Mo_readOn_70 : decode c_Mo_readOn 70 = .ok (.iastore, 1) := by decide +kernel
theorem d_Mo_readOn_71 : decode c_Mo_readOn 71 = .ok (.aload_n 0, 1) := by decide +kernel
theorem d_Mo_readOn_72 : decode c_Mo_readOn 72 = .ok (.iconst 3, 1) := by decide +kernel
theorem d_Mo_readOn_73 : decode c_Mo_readOn 73 = .ok (.invokevirtual 275, 3) := by decide +kernel
theorem d_Mo_readOn_76 : decode c_Mo_readOn 76 = .ok (.return_, 1) := by decide +kernel
theorem d_Mo_readStart_0 : decode c_Mo_readStart 0 = .ok (.iload_n 1, 1) := by decide +kernel
theorem d_Mo_readStart_1 : decode c_Mo_readStart 1 = .ok (.iconst 3, 1) := by decide +kernel
theorem d_Mo_readStart_2 : decode c_Mo_readStart 2 = .ok (.if_icmp .ne 21, 3) := by decide +kernel
theorem d_Mo_readStart_5 : decode c_Mo_readStart 5 = .ok (.aload_n 0, 1) := by decide +kernel
theorem d_Mo_readStart_6 : decode c_Mo_readStart 6 = .ok (.getfield 67, 3) := by decide +kernel
theorem d_Mo_readStart_9 : decode c_Mo_readStart 9 = .ok (.aload_n 0, 1) := by decide +kernel
theorem d_Mo_readStart_10 : decode c_Mo_readStart 10 = .ok (.getfield 250, 3) := by decide +kernel
theorem d_Mo_readStart_13 : decode c_Mo_readStart 13 = .ok (.iaload, 1) := by decide +kernel
theorem d_Mo_readStart_14 : decode c_Mo_readStart 14 = .ok (.bipush 12, 2) := by decide +kernel
theorem d_Mo_readStart_16 : decode c_Mo_readStart 16 = .ok (.if_icmp .ne 7, 3) := by decide +kernel
theorem d_Mo_readStart_19 : decode c_Mo_readStart 19 = .ok (.iconst 1, 1) := by decide +kernel
theorem d_Mo_readStart_20 : decode c_Mo_readStart 20 = .ok (.goto 4, 3) := by decide +kernel
theorem d_Mo_readStart_23 : decode c_Mo_readStart 23 = .ok (.iconst 0, 1) := by decide +kernel
theorem d_Mo_readStart_24 : decode c_Mo_readStart 24 = .ok (.istore_n 2, 1) := by decide +kernel
theorem d_Mo_readStart_25 : decode c_Mo_readStart 25 = .ok (.aload_n 0, 1) := by decide +kernel
theorem d_Mo_readStart_26 : decode c_Mo_readStart 26 = .ok (.aload_n 0, 1) := by decide +kernel
theorem d_Mo_readStart_27 : decode c_Mo_readStart 27 = .ok (.bipush 123, 2) := by decide +kernel
theorem d_Mo_readStart_29 : decode c_Mo_readStart 29 = .ok (.invokevirtual 256, 3) := by decide +kernel
theorem d_Mo_readStart_32 : decode c_Mo_readStart 32 = .ok (.ifCond .eq 19, 3) := by decide +kernel
theorem d_Mo_readStart_35 : decode c_Mo_readStart 35 = .ok (.aload_n 0, 1) := by decide +kernel
theorem d_Mo_readStart_36 : decode c_Mo_readStart 36 = .ok (.getfield 250, 3) := by decide +kernel
theorem d_Mo_readStart_39 : decode c_Mo_readStart 39 = .ok (.iconst 4, 1) := by decide +kernel
theorem d_Mo_readStart_40 : decode c_Mo_readStart 40 = .ok (.if_icmp .ge 11, 3) := by decide +kernel
theorem d_Mo_readStart_43 : decode c_Mo_readStart 43 = .ok (.iload_n 2, 1) := by decide +kernel
theorem d_Mo_readStart_44 : decode c_Mo_readStart 44 = .ok (.ifCond .ne 7, 3) := by decide +kernel
theorem d_Mo_readStart_47 : decode c_Mo_readStart 47 = .ok (.iconst 1, 1) := by decide +kernel
theorem d_Mo_readStart_48 : decode c_Mo_readStart 48 = .ok (.goto 4, 3) := by decide +kernel
theorem d_Mo_readStart_51 : decode c_Mo_readStart 51 = .ok (.iconst 0, 1) := by decide +kernel
theorem d_Mo_readStart_52 : decode c_Mo_readStart 52 = .ok (.invokevirtual 232, 3) := by decide +kernel
theorem d_Mo_readStart_55 : decode c_Mo_readStart 55 = .ok (.ifCond .ne 4, 3) := by decide +kernel
theorem d_Mo_readStart_58 : decode c_Mo_readStart 58 = .ok (.return_, 1) := by decide +kernel
theorem d_Mo_readStart_59 : decode c_Mo_readStart 59 = .ok (.aload_n 0, 1) := by decide +kernel
theorem d_Mo_readStart_60 : decode c_Mo_readStart 60 = .ok (.getfield 67, 3) := by decide +kernel
theorem d_Mo_readStart_63 : decode c_Mo_readStart 63 = .ok (.aload_n 0, 1) := by decide +kernel
theorem d_Mo_readStart_64 : decode c_Mo_readStart 64 = .ok (.getfield 250, 3) := by decide +kernel
theorem d_Mo_readStart_67 : decode c_Mo_readStart 67 = .ok (.dup2, 1) := by decide +kernel
theorem d_Mo_readStart_68 : decode c_Mo_readStart 68 = .ok (.iaload, 1) := by decide +kernel
theorem d_Mo_readStart_69 : decode c_Mo_readStart 69 = .ok (.iconst 1, 1) := by decide +kernel
theorem d_Mo_readStart_70 : decode c_Mo_readStart 70 = .ok (.iadd, 1) := by decide +kernel
theorem d_Mo_readStart_71 : decode c_Mo_readStart 71 = .ok (.iastore, 1) := by decide +kernel
theorem d_Mo_readStart_72 : decode c_Mo_readStart 72 = .ok (.aload_n 0, 1) := by decide +kernel
theorem d_Mo_readStart_73 : decode c_Mo_readStart 73 = .ok (.getfield 37, 3) := by decide +kernel
theorem d_Mo_readStart_76 : decode c_Mo_readStart 76 = .ok (.aload_n 0, 1) := by decide +kernel
theorem d_Mo_readStart_77 : decode c_Mo_readStart 77 = .ok (.getfield 250, 3) := by decide +kernel
theorem d_Mo_readStart_80 : decode c_Mo_readStart 80 = .ok (.iload_n 1, 1) := by decide +kernel
theorem d_Mo_readStart_81 : decode c_Mo_readStart 81 = .ok (.iastore, 1) := by decide +kernel
theorem d_Mo_readStart_82 : decode c_Mo_readStart 82 = .ok (.aload_n 0, 1) := by decide +kernel
theorem d_Mo_readStart_83 : decode c_Mo_readStart 83 = .ok (.getfield 40, 3) := by decide +kernel
theorem d_Mo_readStart_86 : decode c_Mo_readStart 86 = .ok (.aload_n 0, 1) := by decide +kernel
theorem d_Mo_readStart_87 : decode c_Mo_readStart 87 = .ok (.getfield 250, 3) := by decide +kernel
theorem d_Mo_readStart_90 : decode c_Mo_readStart 90 = .ok (.aload_n 0, 1) := by decide +kernel
theorem d_Mo_readStart_91 : decode c_Mo_readStart 91 = .ok (.getfield 278, 3) := by decide +kernel
theorem d_Mo_readStart_94 : decode c_Mo_readStart 94 = .ok (.iastore, 1) := by decide +kernel
theorem d_Mo_readStart_95 : decode c_Mo_readStart 95 = .ok (.aload_n 0, 1) := by decide +kernel
theorem d_Mo_readStart_96 : decode c_Mo_readStart 96 = .ok (.dup, 1) := by decide +kernel
theorem d_Mo_readStart_97 : decode c_Mo_readStart 97 = .ok (.getfield 278, 3) := by decide +kernel
theorem d_Mo_readStart_100 : decode c_Mo_readStart 100 = .ok (.iconst 1, 1) := by decide +kernel
theorem d_Mo_readStart_101 : decode c_Mo_readStart 101 = .ok (.iadd, 1) := by decide +kernel
theorem d_Mo_readStart_102 : decode c_Mo_readStart 102 = .ok (.putfield 278, 3) := by decide +kernel
theorem d_Mo_readStart_105 : decode c_Mo_readStart 105 = .ok (.aload_n 0, 1) := by decide +kernel
theorem d_Mo_readStart_106 : decode c_Mo_readStart 106 = .ok (.dup, 1) := by decide +kernel
theorem d_Mo_readStart_107 : decode c_Mo_readStart 107 = .ok (.getfield 250, 3) := by decide +kernel
theorem d_Mo_readStart_110 : decode c_Mo_readStart 110 = .ok (.iconst 1, 1) := by decide +kernel
theorem d_Mo_readStart_111 : decode c_Mo_readStart 111 = .ok (.iadd, 1) := by decide +kernel
theorem d_Mo_readStart_112 : decode c_Mo_readStart 112 = .ok (.putfield 250, 3) := by decide +kernel
theorem d_Mo_readStart_115 : decode c_Mo_readStart 115 = .ok (.aload_n 0, 1) := by decide +kernel
theorem d_Mo_readStart_116 : decode c_Mo_readStart 116 = .ok (.iconst 1, 1) := by decide +kernel
theorem d_Mo_readStart_117 : decode c_Mo_readStart 117 = .ok (.iconst 0, 1) := by decide +kernel
theorem d_Mo_readStart_118 : decode c_Mo_readStart 118 = .ok (.invokevirtual 271, 3) := by decide +kernel
theorem d_Mo_readStart_121 : decode c_Mo_readStart 121 = .ok (.aload_n 0, 1) := by decide +kernel
theorem d_Mo_readStart_122 : decode c_Mo_readStart 122 = .ok (.iconst 1, 1) := by decide +kernel
theorem d_Mo_readStart_123 : decode c_Mo_readStart 123 = .ok (.putfield 281, 3) := by decide +kernel
theorem d_Mo_readStart_126 : decode c_Mo_readStart 126 = .ok (.return_, 1) := by decide +kernel
theorem d_Mo_readClose_0 : decode c_Mo_readClose 0 = .ok (.aload_n 0, 1) := by decide +kernel
theorem d_Mo_readClose_1 : decode c_Mo_readClose 1 = .ok (.invokevirtual 226, 3) := by decide +kernel
theorem d_Mo_readClose_4 : decode c_Mo_readClose 4 = .ok (.aload_n 0, 1) := by decide +kernel
theorem d_Mo_readClose_5 : decode c_Mo_readClose 5 = .ok (.dup, 1) := by decide +kernel
theorem d_Mo_readClose_6 : decode c_Mo_readClose 6 = .ok (.getfield 250, 3) := by decide +kernel
theorem d_Mo_readClose_9 : decode c_Mo_readClose 9 = .ok (.iconst 1, 1) := by decide +kernel
theorem d_Mo_readClose_10 : decode c_Mo_readClose 10 = .ok (.isub, 1) := by decide +kernel
theorem d_Mo_readClose_11 : decode c_Mo_readClose 11 = .ok (.putfield 250, 3) := by decide +kernel
theorem d_Mo_readClose_14 : decode c_Mo_readClose 14 = .ok (.aload_n 0, 1) := by decide +kernel
theorem d_Mo_readClose_15 : decode c_Mo_readClose 15 = .ok (.iconst 3, 1) := by decide +kernel
theorem d_Mo_readClose_16 : decode c_Mo_readClose 16 = .ok (.aload_n 0, 1) := by decide +kernel
theorem d_Mo_readClose_17 : decode c_Mo_readClose 17 = .ok (.getfield 40, 3) := by decide +kernel
theorem d_Mo_readClose_20 : decode c_Mo_readClose 20 = .ok (.aload_n 0, 1) := by decide +kernel
theorem d_Mo_readClose_21 : decode c_Mo_readClose 21 = .ok (.getfield 250, 3) := by decide +kernel
theorem d_Mo_readClose_24 : decode c_Mo_readClose 24 = .ok (.iaload, 1) := by decide +kernel
theorem d_Mo_readClose_25 : decode c_Mo_readClose 25 = .ok (.invokevirtual 271, 3) := by decide +kernel
theorem d_Mo_readClose_28 : decode c_Mo_readClose 28 = .ok (.aload_n 0, 1) := by decide +kernel
theorem d_Mo_readClose_29 : decode c_Mo_readClose 29 = .ok (.getfield 37, 3) := by decide +kernel
theorem d_Mo_readClose_32 : decode c_Mo_readClose 32 = .ok (.aload_n 0, 1) := by decide +kernel
theorem d_Mo_readClose_33 : decode c_Mo_readClose 33 = .ok (.getfield 250, 3) := by decide +kernel
theorem d_Mo_readClose_36 : decode c_Mo_readClose 36 = .ok (.iaload, 1) := by decide +kernel
theorem d_Mo_readClose_37 : decode c_Mo_readClose 37 = .ok (.istore_n 1, 1) := by decide +kernel
theorem d_Mo_readClose_38 : decode c_Mo_readClose 38 = .ok (.iload_n 1, 1) := by decide +kernel
theorem d_Mo_readClose_39 : decode c_Mo_readClose 39 = .ok (.iconst 1, 1) := by decide +kernel
theorem d_Mo_readClose_40 : decode c_Mo_readClose 40 = .ok (.if_icmp .ne 12, 3) := by decide +kernel
theorem d_Mo_readClose_43 : decode c_Mo_readClose 43 = .ok (.aload_n 0, 1) := by decide +kernel
theorem d_Mo_readClose_44 : decode c_Mo_readClose 44 = .ok (.iconst 4, 1) := by decide +kernel
theorem d_Mo_readClose_45 : decode c_Mo_readClose 45 = .ok (.iconst 0, 1) := by decide +kernel
theorem d_Mo_readClose_46 : decode c_Mo_readClose 46 = .ok (.invokevirtual 271, 3) := by decide +kernel
theorem d_Mo_readClose_49 : decode c_Mo_readClose 49 = .ok (.goto 57, 3) := by decide +kernel
theorem d_Mo_readClose_52 : decode c_Mo_readClose 52 = .ok (.iload_n 1, 1) := by decide +kernel
theorem d_Mo_readClose_53 : decode c_Mo_readClose 53 = .ok (.iconst 2, 1) := by decide +kernel
theorem d_Mo_readClose_54 : decode c_Mo_readClose 54 = .ok (.if_icmp .ne 12, 3) := by decide +kernel
theorem d_Mo_readClose_57 : decode c_Mo_readClose 57 = .ok (.aload_n 0, 1) := by decide +kernel
theorem d_Mo_readClose_58 : decode c_Mo_readClose 58 = .ok (.iconst 5, 1) := by decide +kernel
theorem d_Mo_readClose_59 : decode c_Mo_readClose 59 = .ok (.iconst 0, 1) := by decide +kernel
theorem d_Mo_readClose_60 : decode c_Mo_readClose 60 = .ok (.invokevirtual 271, 3) := by decide +kernel
theorem d_Mo_readClose_63 : decode c_Mo_readClose 63 = .ok (.goto 43, 3) := by decide +kernel
theorem d_Mo_readClose_66 : decode c_Mo_readClose 66 = .ok (.iload_n 1, 1) := by decide +kernel
theorem d_Mo_readClose_67 : decode c_Mo_readClose 67 = .ok (.iconst 3, 1) := by decide +kernel
theorem d_Mo_readClose_68 : decode c_Mo_readClose 68 = .ok (.if_icmp .ne 38, 3) := by decide +kernel
theorem d_Mo_readClose_71 : decode c_Mo_readClose 71 = .ok (.aload_n 0, 1) := by decide +kernel
theorem d_Mo_readClose_72 : decode c_Mo_readClose 72 = .ok (.bipush 7, 2) := by decide +kernel
theorem d_Mo_readClose_74 : decode c_Mo_readClose 74 = .ok (.iconst 0, 1) := by decide +kernel
theorem d_Mo_readClose_75 : decode c_Mo_readClose 75 = .ok (.invokevirtual 271, 3) := by decide +kernel
theorem d_Mo_readClose_78 : decode c_Mo_readClose 78 = .ok (.aload_n 0, 1) := by decide +kernel
theorem d_Mo_readClose_79 : decode c_Mo_readClose 79 = .ok (.bipush 8, 2) := by decide +kernel
theorem d_Mo_readClose_81 : decode c_Mo_readClose 81 = .ok (.invokevirtual 217, 3) := by decide +kernel
theorem d_Mo_readClose_84 : decode c_Mo_readClose 84 = .ok (.ifCond .eq 15, 3) := by decide +kernel
theorem d_Mo_readClose_87 : decode c_Mo_readClose 87 = .ok (.aload_n 0, 1) := by decide +kernel
theorem d_Mo_readClose_88 : decode c_Mo_readClose 88 = .ok (.invokevirtual 226, 3) := by decide +kernel
theorem d_Mo_readClose_91 : decode c_Mo_readClose 91 = .ok (.aload_n 0, 1) := by decide +kernel
theorem d_Mo_readClose_92 : decode c_Mo_readClose 92 = .ok (.iconst 3, 1) := by decide +kernel
theorem d_Mo_readClose_93 : decode c_Mo_readClose 93 = .ok (.invokevirtual 275, 3) := by decide +kernel
theorem d_Mo_readClose_96 : decode c_Mo_readClose 96 = .ok (.goto 10, 3) := by decide +kernel
theorem d_Mo_readClose_99 : decode c_Mo_readClose 99 = .ok (.aload_n 0, 1) := by decide +kernel
theorem d_Mo_readClose_100 : decode c_Mo_readClose 100 = .ok (.bipush 8, 2) := by decide +kernel
theorem d_Mo_readClose_102 : decode c_Mo_readClose 102 = .ok (.iconst 0, 1) := by decide +kernel
theorem d_Mo_readClose_103 : decode c_Mo_readClose 103 = .ok (.invokevirtual 271, 3) := by decide +kernel
theorem d_Mo_readClose_106 : decode c_Mo_readClose 106 = .ok (.return_, 1) := by decide +kernel
theorem d_Mo_readGroups_0 : decode c_Mo_readGroups 0 = .ok (.aload_n 0, 1) := by decide +kernel
theorem d_Mo_readGroups_1 : decode c_Mo_readGroups 1 = .ok (.iconst 0, 1) := by decide +kernel
theorem d_Mo_readGroups_2 : decode c_Mo_readGroups 2 = .ok (.invokevirtual 275, 3) := by decide +kernel
theorem d_Mo_readGroups_5 : decode c_Mo_readGroups 5 = .ok (.aload_n 0, 1) := by decide +kernel
theorem d_Mo_readGroups_6 : decode c_Mo_readGroups 6 = .ok (.getfield 220, 3) := by decide +kernel
theorem d_Mo_readGroups_9 : decode c_Mo_readGroups 9 = .ok (.ifCond .ge 116, 3) := by decide +kernel
theorem d_Mo_readGroups_12 : decode c_Mo_readGroups 12 = .ok (.aload_n 0, 1) := by decide +kernel
theorem d_Mo_readGroups_13 : decode c_Mo_readGroups 13 = .ok (.getfield 250, 3) := by decide +kernel
theorem d_Mo_readGroups_16 : decode c_Mo_readGroups 16 = .ok (.ifCond .le 109, 3) := by decide +kernel
theorem d_Mo_readGroups_19 : decode c_Mo_readGroups 19 = .ok (.aload_n 0, 1) := by decide +kernel
theorem d_Mo_readGroups_20 : decode c_Mo_readGroups 20 = .ok (.getfield 281, 3) := by decide +kernel
theorem d_Mo_readGroups_23 : decode c_Mo_readGroups 23 = .ok (.ifCond .eq 42, 3) := by decide +kernel
theorem d_Mo_readGroups_26 : decode c_Mo_readGroups 26 = .ok (.aload_n 0, 1) := by decide +kernel
theorem d_Mo_readGroups_27 : decode c_Mo_readGroups 27 = .ok (.bipush 125, 2) := by decide +kernel
theorem d_Mo_readGroups_29 : decode c_Mo_readGroups 29 = .ok (.invokevirtual 256, 3) := by decide +kernel
theorem d_Mo_readGroups_32 : decode c_Mo_readGroups 32 = .ok (.ifCond .ne 33, 3) := by decide +kernel
theorem d_Mo_readGroups_35 : decode c_Mo_readGroups 35 = .ok (.aload_n 0, 1) := by decide +kernel
theorem d_Mo_readGroups_36 : decode c_Mo_readGroups 36 = .ok (.iconst 0, 1) := by decide +kernel
theorem d_Mo_readGroups_37 : decode c_Mo_readGroups 37 = .ok (.putfield 281, 3) := by decide +kernel
theorem d_Mo_readGroups_40 : decode c_Mo_readGroups 40 = .ok (.aload_n 0, 1) := by decide +kernel
theorem d_Mo_readGroups_41 : decode c_Mo_readGroups 41 = .ok (.invokevirtual 284, 3) := by decide +kernel
theorem d_Mo_readGroups_44 : decode c_Mo_readGroups 44 = .ok (.aload_n 0, 1) := by decide +kernel
theorem d_Mo_readGroups_45 : decode c_Mo_readGroups 45 = .ok (.getfield 220, 3) := by decide +kernel
theorem d_Mo_readGroups_48 : decode c_Mo_readGroups 48 = .ok (.ifCond .ge (-43), 3) := by decide +kernel
theorem d_Mo_readGroups_51 : decode c_Mo_readGroups 51 = .ok (.aload_n 0, 1) := by decide +kernel
theorem d_Mo_readGroups_52 : decode c_Mo_readGroups 52 = .ok (.getfield 262, 3) := by decide +kernel
theorem d_Mo_readGroups_55 : decode c_Mo_readGroups 55 = .ok (.ifCond .eq (-50), 3) := by decide +kernel
theorem d_Mo_readGroups_58 : decode c_Mo_readGroups 58 = .ok (.aload_n 0, 1) := by decide +kernel
theorem d_Mo_readGroups_59 : decode c_Mo_readGroups 59 = .ok (.invokevirtual 287, 3) := by decide +kernel
theorem d_Mo_readGroups_62 : decode c_Mo_readGroups 62 = .ok (.goto (-57), 3) := by decide +kernel
theorem d_Mo_readGroups_65 : decode c_Mo_readGroups 65 = .ok (.aload_n 0, 1) := by decide +kernel
theorem d_Mo_readGroups_66 : decode c_Mo_readGroups 66 = .ok (.bipush 125, 2) := by decide +kernel
theorem d_Mo_readGroups_68 : decode c_Mo_readGroups 68 = .ok (.invokevirtual 256, 3) := by decide +kernel
theorem d_Mo_readGroups_71 : decode c_Mo_readGroups 71 = .ok (.ifCond .eq 15, 3) := by decide +kernel
theorem d_Mo_readGroups_74 : decode c_Mo_readGroups 74 = .ok (.aload_n 0, 1) := by decide +kernel
theorem d_Mo_readGroups_75 : decode c_Mo_readGroups 75 = .ok (.iconst 0, 1) := by decide +kernel
theorem d_Mo_readGroups_76 : decode c_Mo_readGroups 76 = .ok (.putfield 281, 3) := by decide +kernel
theorem d_Mo_readGroups_79 : decode c_Mo_readGroups 79 = .ok (.aload_n 0, 1) := by decide +kernel
theorem d_Mo_readGroups_80 : decode c_Mo_readGroups 80 = .ok (.invokevirtual 290, 3) := by decide +kernel
theorem d_Mo_readGroups_83 : decode c_Mo_readGroups 83 = .ok (.goto (-78), 3) := by decide +kernel
theorem d_Mo_readGroups_86 : decode c_Mo_readGroups 86 = .ok (.aload_n 0, 1) := by decide +kernel
theorem d_Mo_readGroups_87 : decode c_Mo_readGroups 87 = .ok (.aload_n 0, 1) := by decide +kernel
theorem d_Mo_readGroups_88 : decode c_Mo_readGroups 88 = .ok (.bipush 46, 2) := by decide +kernel
theorem d_Mo_readGroups_90 : decode c_Mo_readGroups 90 = .ok (.invokevirtual 256, 3) := by decide +kernel
theorem d_Mo_readGroups_93 : decode c_Mo_readGroups 93 = .ok (.invokevirtual 232, 3) := by decide +kernel
theorem d_Mo_readGroups_96 : decode c_Mo_readGroups 96 = .ok (.ifCond .ne 4, 3) := by decide +kernel
theorem d_Mo_readGroups_99 : decode c_Mo_readGroups 99 = .ok (.return_, 1) := by decide +kernel
theorem d_Mo_readGroups_100 : decode c_Mo_readGroups 100 = .ok (.aload_n 0, 1) := by decide +kernel
theorem d_Mo_readGroups_101 : decode c_Mo_readGroups 101 = .ok (.invokevirtual 284, 3) := by decide +kernel
theorem d_Mo_readGroups_104 : decode c_Mo_readGroups 104 = .ok (.aload_n 0, 1) := by decide +kernel
theorem d_Mo_readGroups_105 : decode c_Mo_readGroups 105 = .ok (.getfield 220, 3) := by decide +kernel
theorem d_Mo_readGroups_108 : decode c_Mo_readGroups 108 = .ok (.ifCond .ge (-103), 3) := by decide +kernel
theorem d_Mo_readGroups_111 : decode c_Mo_readGroups 111 = .ok (.aload_n 0, 1) := by decide +kernel
theorem d_Mo_readGroups_112 : decode c_Mo_readGroups 112 = .ok (.getfield 262, 3) := by decide +kernel
theorem d_Mo_readGroups_115 : decode c_Mo_readGroups 115 = .ok (.ifCond .eq (-110), 3) := by decide +kernel
theorem d_Mo_readGroups_118 : decode c_Mo_readGroups 118 = .ok (.aload_n 0, 1) := by decide +kernel
theorem d_Mo_readGroups_119 : decode c_Mo_readGroups 119 = .ok (.invokevirtual 287, 3) := by decide +kernel
theorem d_Mo_readGroups_122 : decode c_Mo_readGroups 122 = .ok (.goto (-117), 3) := by decide +kernel
theorem d_Mo_readGroups_125 : decode c_Mo_readGroups 125 = .ok (.return_, 1) := by decide +kernel
theorem d_Mo_readQuery_0 : decode c_Mo_readQuery 0 = .ok (.aload_n 0, 1) := by decide +kernel
theorem d_Mo_readQuery_1 : decode c_Mo_readQuery 1 = .ok (.aload_n 0, 1) := by decide +kernel
theorem d_Mo_readQuery_2 : decode c_Mo_readQuery 2 = .ok (.iconst 0, 1) := by decide +kernel
theorem d_Mo_readQuery_3 : decode c_Mo_readQuery 3 = .ok (.invokevirtual 217, 3) := by decide +kernel
theorem d_Mo_readQuery_6 : decode c_Mo_readQuery 6 = .ok (.invokevirtual 232, 3) := by decide +kernel
theorem d_Mo_readQuery_9 : decode c_Mo_readQuery 9 = .ok (.ifCond .ne 4, 3) := by decide +kernel
theorem d_Mo_readQuery_12 : decode c_Mo_readQuery 12 = .ok (.return_, 1) := by decide +kernel
theorem d_Mo_readQuery_13 : decode c_Mo_readQuery 13 = .ok (.aload_n 0, 1) := by decide +kernel
theorem d_Mo_readQuery_14 : decode c_Mo_readQuery 14 = .ok (.aload_n 0, 1) := by decide +kernel
theorem d_Mo_readQuery_15 : decode c_Mo_readQuery 15 = .ok (.iconst 1, 1) := by decide +kernel
theorem d_Mo_readQuery_16 : decode c_Mo_readQuery 16 = .ok (.invokevirtual 217, 3) := by decide +kernel
theorem d_Mo_readQuery_19 : decode c_Mo_readQuery 19 = .ok (.putfield 293, 3) := by decide +kernel
theorem d_Mo_readQuery_22 : decode c_Mo_readQuery 22 = .ok (.aload_n 0, 1) := by decide +kernel
theorem d_Mo_readQuery_23 : decode c_Mo_readQuery 23 = .ok (.getfield 293, 3) := by decide +kernel
theorem d_Mo_readQuery_26 : decode c_Mo_readQuery 26 = .ok (.ifCond .eq 7, 3) := by decide +kernel
theorem d_Mo_readQuery_29 : decode c_Mo_readQuery 29 = .ok (.aload_n 0, 1) := by decide +kernel
theorem d_Mo_readQuery_30 : decode c_Mo_readQuery 30 = .ok (.invokevirtual 226, 3) := by decide +kernel
theorem d_Mo_readQuery_33 : decode c_Mo_readQuery 33 = .ok (.iconst 1, 1) := by decide +kernel
theorem d_Mo_readQuery_34 : decode c_Mo_readQuery 34 = .ok (.istore_n 1, 1) := by decide +kernel
theorem d_Mo_readQuery_35 : decode c_Mo_readQuery 35 = .ok (.iload_n 1, 1) := by decide +kernel
theorem d_Mo_readQuery_36 : decode c_Mo_readQuery 36 = .ok (.ifCond .eq 72, 3) := by decide +kernel
theorem d_Mo_readQuery_39 : decode c_Mo_readQuery 39 = .ok (.aload_n 0, 1) := by decide +kernel
theorem d_Mo_readQuery_40 : decode c_Mo_readQuery 40 = .ok (.getfield 296, 3) := by decide +kernel
theorem d_Mo_readQuery_43 : decode c_Mo_readQuery 43 = .ok (.bipush 6, 2) := by decide +kernel
theorem d_Mo_readQuery_45 : decode c_Mo_readQuery 45 = .ok (.if_icmp .ne 7, 3) := by decide +kernel
theorem d_Mo_readQuery_48 : decode c_Mo_readQuery 48 = .ok (.aload_n 0, 1) := by decide +kernel
theorem d_Mo_readQuery_49 : decode c_Mo_readQuery 49 = .ok (.invokevirtual 223, 3) := by decide +kernel
theorem d_Mo_readQuery_52 : decode c_Mo_readQuery 52 = .ok (.aload_n 0, 1) := by decide +kernel
theorem d_Mo_readQuery_53 : decode c_Mo_readQuery 53 = .ok (.getfield 220, 3) := by decide +kernel
theorem d_Mo_readQuery_56 : decode c_Mo_readQuery 56 = .ok (.ifCond .lt 4, 3) := by decide +kernel
theorem d_Mo_readQuery_59 : decode c_Mo_readQuery 59 = .ok (.return_, 1) := by decide +kernel
theorem d_Mo_readQuery_60 : decode c_Mo_readQuery 60 = .ok (.aload_n 0, 1) := by decide +kernel
theorem d_Mo_readQuery_61 : decode c_Mo_readQuery 61 = .ok (.getfield 64, 3) := by decide +kernel
theorem d_Mo_readQuery_64 : decode c_Mo_readQuery 64 = .ok (.aload_n 0, 1) := by decide +kernel
theorem d_Mo_readQuery_65 : decode c_Mo_readQuery 65 = .ok (.getfield 296, 3) := by decide +kernel
theorem d_Mo_readQuery_68 : decode c_Mo_readQuery 68 = .ok (.aload_n 0, 1) := by decide +kernel
theorem d_Mo_readQuery_69 : decode c_Mo_readQuery 69 = .ok (.invokevirtual 236, 3) := by decide +kernel
theorem d_Mo_readQuery_72 : decode c_Mo_readQuery 72 = .ok (.iastore, 1) := by decide +kernel
theorem d_Mo_readQuery_73 : decode c_Mo_readQuery 73 = .ok (.aload_n 0, 1) := by decide +kernel
theorem d_Mo_readQuery_74 : decode c_Mo_readQuery 74 = .ok (.dup, 1) := by decide +kernel
theorem d_Mo_readQuery_75 : decode c_Mo_readQuery 75 = .ok (.getfield 296, 3) := by decide +kernel
theorem d_Mo_readQuery_78 : decode c_Mo_readQuery 78 = .ok (.iconst 1, 1) := by decide +kernel
theorem d_Mo_readQuery_79 : decode c_Mo_readQuery 79 = .ok (.iadd, 1) := by decide +kernel
theorem d_Mo_readQuery_80 : decode c_Mo_readQuery 80 = .ok (.putfield 296, 3) := by decide +kernel
theorem d_Mo_readQuery_83 : decode c_Mo_readQuery 83 = .ok (.aload_n 0, 1) := by decide +kernel
theorem d_Mo_readQuery_84 : decode c_Mo_readQuery 84 = .ok (.getfield 220, 3) := by decide +kernel
theorem d_Mo_readQuery_87 : decode c_Mo_readQuery 87 = .ok (.ifCond .lt 4, 3) := by decide +kernel
theorem d_Mo_readQuery_90 : decode c_Mo_readQuery 90 = .ok (.return_, 1) := by decide +kernel
theorem d_Mo_readQuery_91 : decode c_Mo_readQuery 91 = .ok (.aload_n 0, 1) := by decide +kernel
theorem d_Mo_readQuery_92 : decode c_Mo_readQuery 92 = .ok (.getfield 181, 3) := by decide +kernel
theorem d_Mo_readQuery_95 : decode c_Mo_readQuery 95 = .ok (.iconst 3, 1) := by decide +kernel
theorem d_Mo_readQuery_96 : decode c_Mo_readQuery 96 = .ok (.if_icmp .ne 7, 3) := by decide +kernel
theorem d_Mo_readQuery_99 : decode c_Mo_readQuery 99 = .ok (.iconst 1, 1) := by decide +kernel
theorem d_Mo_readQuery_100 : decode c_Mo_readQuery 100 = .ok (.goto 4, 3) := by decide +kernel
theorem d_Mo_readQuery_103 : decode c_Mo_readQuery 103 = .ok (.iconst 0, 1) := by decide +kernel
theorem d_Mo_readQuery_104 : decode c_Mo_readQuery 104 = .ok (.istore_n 1, 1) := by decide +kernel
theorem d_Mo_readQuery_105 : decode c_Mo_readQuery 105 = .ok (.goto (-70), 3) := by decide +kernel
theorem d_Mo_readQuery_108 : decode c_Mo_readQuery 108 = .ok (.aload_n 0, 1) := by decide +kernel
theorem d_Mo_readQuery_109 : decode c_Mo_readQuery 109 = .ok (.invokevirtual 299, 3) := by decide +kernel
theorem d_Mo_readQuery_112 : decode c_Mo_readQuery 112 = .ok (.aload_n 0, 1) := by decide +kernel
theorem d_Mo_readQuery_113 : decode c_Mo_readQuery 113 = .ok (.getfield 220, 3) := by decide +kernel
theorem d_Mo_readQuery_116 : decode c_Mo_readQuery 116 = .ok (.ifCond .lt 4, 3) := by decide +kernel
theorem d_Mo_readQuery_119 : decode c_Mo_readQuery 119 = .ok (.return_, 1) := by decide +kernel
theorem d_Mo_readQuery_120 : decode c_Mo_readQuery 120 = .ok (.aload_n 0, 1) := by decide +kernel
theorem d_Mo_readQuery_121 : decode c_Mo_readQuery 121 = .ok (.iconst 2, 1) := by decide +kernel
theorem d_Mo_readQuery_122 : decode c_Mo_readQuery 122 = .ok (.invokevirtual 217, 3) := by decide +kernel
theorem d_Mo_readQuery_125 : decode c_Mo_readQuery 125 = .ok (.ifCond .eq 43, 3) := by decide +kernel
theorem d_Mo_readQuery_128 : decode c_Mo_readQuery 128 = .ok (.aload_n 0, 1) := by decide +kernel
theorem d_Mo_readQuery_129 : decode c_Mo_readQuery 129 = .ok (.invokevirtual 226, 3) := by decide +kernel
theorem d_Mo_readQuery_132 : decode c_Mo_readQuery 132 = .ok (.aload_n 0, 1) := by decide +kernel
theorem d_Mo_readQuery_133 : decode c_Mo_readQuery 133 = .ok (.aload_n 0, 1) := by decide +kernel
theorem d_Mo_readQuery_134 : decode c_Mo_readQuery 134 = .ok (.invokevirtual 236, 3) := by decide +kernel
theorem d_Mo_readQuery_137 : decode c_Mo_readQuery 137 = .ok (.putfield 302, 3) := by decide +kernel
theorem d_Mo_readQuery_140 : decode c_Mo_readQuery 140 = .ok (.aload_n 0, 1) := by decide +kernel
theorem d_Mo_readQuery_141 : decode c_Mo_readQuery 141 = .ok (.getfield 220, 3) := by decide +kernel
theorem d_Mo_readQuery_144 : decode c_Mo_readQuery 144 = .ok (.ifCond .lt 4, 3) := by decide +kernel
theorem d_Mo_readQuery_147 : decode c_Mo_readQuery 147 = .ok (.return_, 1) := by decide +kernel
theorem d_Mo_readQuery_148 : decode c_Mo_readQuery 148 = .ok (.aload_n 0, 1) := by decide +kernel
theorem d_Mo_readQuery_149 : decode c_Mo_readQuery 149 = .ok (.aload_n 0, 1) := by decide +kernel
theorem d_Mo_readQuery_150 : decode c_Mo_readQuery 150 = .ok (.iconst 3, 1) := by decide +kernel
theorem d_Mo_readQuery_151 : decode c_Mo_readQuery 151 = .ok (.invokevirtual 217, 3) := by decide +kernel
theorem d_Mo_readQuery_154 : decode c_Mo_readQuery 154 = .ok (.putfield 305, 3) := by decide +kernel
theorem d_Mo_readQuery_157 : decode c_Mo_readQuery 157 = .ok (.aload_n 0, 1) := by decide +kernel
theorem d_Mo_readQuery_158 : decode c_Mo_readQuery 158 = .ok (.getfield 305, 3) := by decide +kernel
theorem d_Mo_readQuery_161 : decode c_Mo_readQuery 161 = .ok (.ifCond .eq 7, 3) := by decide +kernel
theorem d_Mo_readQuery_164 : decode c_Mo_readQuery 164 = .ok (.aload_n 0, 1) := by decide +kernel
theorem d_Mo_readQuery_165 : decode c_Mo_readQuery 165 = .ok (.invokevirtual 226, 3) := by decide +kernel
theorem d_Mo_readQuery_168 : decode c_Mo_readQuery 168 = .ok (.aload_n 0, 1) := by decide +kernel
theorem d_Mo_readQuery_169 : decode c_Mo_readQuery 169 = .ok (.iconst 4, 1) := by decide +kernel
theorem d_Mo_readQuery_170 : decode c_Mo_readQuery 170 = .ok (.invokevirtual 217, 3) := by decide +kernel
theorem d_Mo_readQuery_173 : decode c_Mo_readQuery 173 = .ok (.ifCond .eq 37, 3) := by decide +kernel
theorem d_Mo_readQuery_176 : decode c_Mo_readQuery 176 = .ok (.aload_n 0, 1) := by decide +kernel
theorem d_Mo_readQuery_177 : decode c_Mo_readQuery 177 = .ok (.invokevirtual 226, 3) := by decide +kernel
theorem d_Mo_readQuery_180 : decode c_Mo_readQuery 180 = .ok (.aload_n 0, 1) := by decide +kernel
theorem d_Mo_readQuery_181 : decode c_Mo_readQuery 181 = .ok (.aload_n 0, 1) := by decide +kernel
theorem d_Mo_readQuery_182 : decode c_Mo_readQuery 182 = .ok (.getfield 164, 3) := by decide +kernel
theorem d_Mo_readQuery_185 : decode c_Mo_readQuery 185 = .ok (.l2i, 1) := by decide +kernel
theorem d_Mo_readQuery_186 : decode c_Mo_readQuery 186 = .ok (.putfield 308, 3) := by decide +kernel
theorem d_Mo_readQuery_189 : decode c_Mo_readQuery 189 = .ok (.aload_n 0, 1) := by decide +kernel
theorem d_Mo_readQuery_190 : decode c_Mo_readQuery 190 = .ok (.aload_n 0, 1) := by decide +kernel
theorem d_Mo_readQuery_191 : decode c_Mo_readQuery 191 = .ok (.getfield 181, 3) := by decide +kernel
theorem d_Mo_readQuery_194 : decode c_Mo_readQuery 194 = .ok (.iconst 2, 1) := by decide +kernel
theorem d_Mo_readQuery_195 : decode c_Mo_readQuery 195 = .ok (.if_icmp .ne 7, 3) := by decide +kernel
theorem d_Mo_readQuery_198 : decode c_Mo_readQuery 198 = .ok (.iconst 1, 1) := by decide +kernel
theorem d_Mo_readQuery_199 : decode c_Mo_readQuery 199 = .ok (.goto 4, 3) := by decide +kernel
theorem d_Mo_readQuery_202 : decode c_Mo_readQuery 202 = .ok (.iconst 0, 1) := by decide +kernel
theorem d_Mo_readQuery_203 : decode c_Mo_readQuery 203 = .ok (.invokevirtual 232, 3) := by decide +kernel
theorem d_Mo_readQuery_206 : decode c_Mo_readQuery 206 = .ok (.ifCond .ne 4, 3) := by decide +kernel
theorem d_Mo_readQuery_209 : decode c_Mo_readQuery 209 = .ok (.return_, 1) := by decide +kernel
theorem d_Mo_readQuery_210 : decode c_Mo_readQuery 210 = .ok (.aload_n 0, 1) := by decide +kernel
theorem d_Mo_readQuery_211 : decode c_Mo_readQuery 211 = .ok (.getfield 181, 3) := by decide +kernel
theorem d_Mo_readQuery_214 : decode c_Mo_readQuery 214 = .ok (.ifCond .eq 7, 3) := by decide +kernel
theorem d_Mo_readQuery_217 : decode c_Mo_readQuery 217 = .ok (.aload_n 0, 1) := by decide +kernel
theorem d_Mo_readQuery_218 : decode c_Mo_readQuery 218 = .ok (.invokevirtual 223, 3) := by decide +kernel
theorem d_Mo_readQuery_221 : decode c_Mo_readQuery 221 = .ok (.return_, 1) := by decide +kernel
theorem d_Mo_addTo_0 : decode c_Mo_addTo 0 = .ok (.aload_n 0, 1) := by decide +kernel
theorem d_Mo_addTo_1 : decode c_Mo_addTo 1 = .ok (.getfield 76, 3) := by decide +kernel
theorem d_Mo_addTo_4 : decode c_Mo_addTo 4 = .ok (.iload_n 1, 1) := by decide +kernel
theorem d_Mo_addTo_5 : decode c_Mo_addTo 5 = .ok (.iaload, 1) := by decide +kernel
theorem d_Mo_addTo_6 : decode c_Mo_addTo 6 = .ok (.sipush 150, 3) := by decide +kernel
theorem d_Mo_addTo_9 : decode c_Mo_addTo 9 = .ok (.if_icmp .ne 9, 3) := by decide +kernel
theorem d_Mo_addTo_12 : decode c_Mo_addTo 12 = .ok (.aload_n 0, 1) := by decide +kernel
theorem d_Mo_addTo_13 : decode c_Mo_addTo 13 = .ok (.iconst 1, 1) := by decide +kernel
theorem d_Mo_addTo_14 : decode c_Mo_addTo 14 = .ok (.putfield 311, 3) := by decide +kernel
theorem d_Mo_addTo_17 : decode c_Mo_addTo 17 = .ok (.return_, 1) := by decide +kernel
theorem d_Mo_addTo_18 : decode c_Mo_addTo 18 = .ok (.sipush 150, 3) := by decide +kernel
theorem d_Mo_addTo_21 : decode c_Mo_addTo 21 = .ok (.iload_n 1, 1) := by decide +kernel
theorem d_Mo_addTo_22 : decode c_Mo_addTo 22 = .ok (.imul, 1) := by decide +kernel
theorem d_Mo_addTo_23 : decode c_Mo_addTo 23 = .ok (.aload_n 0, 1) := by decide +kernel
theorem d_Mo_addTo_24 : decode c_Mo_addTo 24 = .ok (.getfield 76, 3) := by decide +kernel
theorem d_Mo_addTo_27 : decode c_Mo_addTo 27 = .ok (.iload_n 1, 1) := by decide +kernel
theorem d_Mo_addTo_28 : decode c_Mo_addTo 28 = .ok (.iaload, 1) := by decide +kernel
theorem d_Mo_addTo_29 : decode c_Mo_addTo 29 = .ok (.iadd, 1) := by decide +kernel
theorem d_Mo_addTo_30 : decode c_Mo_addTo 30 = .ok (.istore 4, 2) := by decide +kernel
theorem d_Mo_addTo_32 : decode c_Mo_addTo 32 = .ok (.aload_n 0, 1) := by decide +kernel
theorem d_Mo_addTo_33 : decode c_Mo_addTo 33 = .ok (.getfield 73, 3) := by decide +kernel
theorem d_Mo_addTo_36 : decode c_Mo_addTo 36 = .ok (.iload 4, 2) := by decide +kernel
theorem d_Mo_addTo_38 : decode c_Mo_addTo 38 = .ok (.aload_n 0, 1) := by decide +kernel
theorem d_Mo_addTo_39 : decode c_Mo_addTo 39 = .ok (.getfield 73, 3) := by decide +kernel
theorem d_Mo_addTo_42 : decode c_Mo_addTo 42 = .ok (.sipush 150, 3) := by decide +kernel
theorem d_Mo_addTo_45 : decode c_Mo_addTo 45 = .ok (.iload_n 2, 1) := by decide +kernel
theorem d_Mo_addTo_46 : decode c_Mo_addTo 46 = .ok (.imul, 1) := by decide +kernel
theorem d_Mo_addTo_47 : decode c_Mo_addTo 47 = .ok (.iload_n 3, 1) := by decide +kernel
theorem d_Mo_addTo_48 : decode c_Mo_addTo 48 = .ok (.iadd, 1) := by decide +kernel
theorem d_Mo_addTo_49 : decode c_Mo_addTo 49 = .ok (.iaload, 1) := by decide +kernel
theorem d_Mo_addTo_50 : decode c_Mo_addTo 50 = .ok (.iastore, 1) := by decide +kernel
theorem d_Mo_addTo_51 : decode c_Mo_addTo 51 = .ok (.iconst 0, 1) := by decide +kernel
theorem d_Mo_addTo_52 : decode c_Mo_addTo 52 = .ok (.istore 5, 2) := by decide +kernel
theorem d_Mo_addTo_54 : decode c_Mo_addTo 54 = .ok (.iload 5, 2) := by decide +kernel
theorem d_Mo_addTo_56 : decode c_Mo_addTo 56 = .ok (.bipush 6, 2) := by decide +kernel
theorem d_Mo_addTo_58 : decode c_Mo_addTo 58 = .ok (.if_icmp .ge 40, 3) := by decide +kernel
theorem d_Mo_addTo_61 : decode c_Mo_addTo 61 = .ok (.aload_n 0, 1) := by decide +kernel
theorem d_Mo_addTo_62 : decode c_Mo_addTo 62 = .ok (.getfield 70, 3) := by decide +kernel
theorem d_Mo_addTo_65 : decode c_Mo_addTo 65 = .ok (.bipush 6, 2) := by decide +kernel
theorem d_Mo_addTo_67 : decode c_Mo_addTo 67 = .ok (.iload 4, 2) := by decide +kernel
theorem d_Mo_addTo_69 : decode c_Mo_addTo 69 = .ok (.imul, 1) := by decide +kernel
theorem d_Mo_addTo_70 : decode c_Mo_addTo 70 = .ok (.iload 5, 2) := by decide +kernel
theorem d_Mo_addTo_72 : decode c_Mo_addTo 72 = .ok (.iadd, 1) := by decide +kernel
theorem d_Mo_addTo_73 : decode c_Mo_addTo 73 = .ok (.aload_n 0, 1) := by decide +kernel
theorem d_Mo_addTo_74 : decode c_Mo_addTo 74 = .ok (.getfield 70, 3) := by decide +kernel
theorem d_Mo_addTo_77 : decode c_Mo_addTo 77 = .ok (.bipush 6, 2) := by decide +kernel
theorem d_Mo_addTo_79 : decode c_Mo_addTo 79 = .ok (.sipush 150, 3) := by decide +kernel
theorem d_Mo_addTo_82 : decode c_Mo_addTo 82 = .ok (.iload_n 2, 1) := by decide +kernel
theorem d_Mo_addTo_83 : decode c_Mo_addTo 83 = .ok (.imul, 1) := by decide +kernel
theorem d_Mo_addTo_84 : decode c_Mo_addTo 84 = .ok (.iload_n 3, 1) := by decide +kernel
theorem d_Mo_addTo_85 : decode c_Mo_addTo 85 = .ok (.iadd, 1) := by decide +kernel
theorem d_Mo_addTo_86 : decode c_Mo_addTo 86 = .ok (.imul, 1) := by decide +kernel
theorem d_Mo_addTo_87 : decode c_Mo_addTo 87 = .ok (.iload 5, 2) := by decide +kernel
theorem d_Mo_addTo_89 : decode c_Mo_addTo 89 = .ok (.iadd, 1) := by decide +kernel
theorem d_Mo_addTo_90 : decode c_Mo_addTo 90 = .ok (.laload, 1) := by decide +kernel
theorem d_Mo_addTo_91 : decode c_Mo_addTo 91 = .ok (.lastore, 1) := by decide +kernel
theorem d_Mo_addTo_92 : decode c_Mo_addTo 92 = .ok (.iinc 5 1, 3) := by decide +kernel
theorem d_Mo_addTo_95 : decode c_Mo_addTo 95 = .ok (.goto (-41), 3) := by decide +kernel
theorem d_Mo_addTo_98 : decode c_Mo_addTo 98 = .ok (.aload_n 0, 1) := by decide +kernel
theorem d_Mo_addTo_99 : decode c_Mo_addTo 99 = .ok (.getfield 76, 3) := by decide +kernel
theorem d_Mo_addTo_102 : decode c_Mo_addTo 102 = .ok (.iload_n 1, 1) := by decide +kernel
theorem d_Mo_addTo_103 : decode c_Mo_addTo 103 = .ok (.dup2, 1) := by decide +kernel
theorem d_Mo_addTo_104 : decode c_Mo_addTo 104 = .ok (.iaload, 1) := by decide +kernel
theorem d_Mo_addTo_105 : decode c_Mo_addTo 105 = .ok (.iconst 1, 1) := by decide +kernel
theorem d_Mo_addTo_106 : decode c_Mo_addTo 106 = .ok (.iadd, 1) := by decide +kernel
theorem d_Mo_addTo_107 : decode c_Mo_addTo 107 = .ok (.iastore, 1) := by decide +kernel
theorem d_Mo_addTo_108 : decode c_Mo_addTo 108 = .ok (.return_, 1) := by decide +kernel
theorem d_Mo_copy_0 : decode c_Mo_copy 0 = .ok (.aload_n 0, 1) := by decide +kernel
theorem d_Mo_copy_1 : decode c_Mo_copy 1 = .ok (.getfield 76, 3) := by decide +kernel
theorem d_Mo_copy_4 : decode c_Mo_copy 4 = .ok (.iload_n 2, 1) := by decide +kernel
theorem d_Mo_copy_5 : decode c_Mo_copy 5 = .ok (.iconst 0, 1) := by decide +kernel
theorem d_Mo_copy_6 : decode c_Mo_copy 6 = .ok (.iastore, 1) := by decide +kernel
theorem d_Mo_copy_7 : decode c_Mo_copy 7 = .ok (.iconst 0, 1) := by decide +kernel
theorem d_Mo_copy_8 : decode c_Mo_copy 8 = .ok (.istore_n 3, 1) := by decide +kernel
theorem d_Mo_copy_9 : decode c_Mo_copy 9 = .ok (.iload_n 3, 1) := by decide +kernel
theorem d_Mo_copy_10 : decode c_Mo_copy 10 = .ok (.aload_n 0, 1) := by decide +kernel
theorem d_Mo_copy_11 : decode c_Mo_copy 11 = .ok (.getfield 76, 3) := by decide +kernel
theorem d_Mo_copy_14 : decode c_Mo_copy 14 = .ok (.iload_n 1, 1) := by decide +kernel
theorem d_Mo_copy_15 : decode c_Mo_copy 15 = .ok (.iaload, 1) := by decide +kernel
theorem d_Mo_copy_16 : decode c_Mo_copy 16 = .ok (.if_icmp .ge 16, 3) := by decide +kernel
theorem d_Mo_copy_19 : decode c_Mo_copy 19 = .ok (.aload_n 0, 1) := by decide +kernel
theorem d_Mo_copy_20 : decode c_Mo_copy 20 = .ok (.iload_n 2, 1) := by decide +kernel
theorem d_Mo_copy_21 : decode c_Mo_copy 21 = .ok (.iload_n 1, 1) := by decide +kernel
theorem d_Mo_copy_22 : decode c_Mo_copy 22 = .ok (.iload_n 3, 1) := by decide +kernel
theorem d_Mo_copy_23 : decode c_Mo_copy 23 = .ok (.invokevirtual 314, 3) := by decide +kernel
theorem d_Mo_copy_26 : decode c_Mo_copy 26 = .ok (.iinc 3 1, 3) := by decide +kernel
theorem d_Mo_copy_29 : decode c_Mo_copy 29 = .ok (.goto (-20), 3) := by decide +kernel
theorem d_Mo_copy_32 : decode c_Mo_copy 32 = .ok (.return_, 1) := by decide +kernel
theorem d_Mo_compatible_0 : decode c_Mo_compatible 0 = .ok (.iconst 0, 1) := by decide +kernel
theorem d_Mo_compatible_1 : decode c_Mo_compatible 1 = .ok (.istore_n 3, 1) := by decide +kernel
theorem d_Mo_compatible_2 : decode c_Mo_compatible 2 = .ok (.iload_n 3, 1) := by decide +kernel
theorem d_Mo_compatible_3 : decode c_Mo_compatible 3 = .ok (.bipush 6, 2) := by decide +kernel
theorem d_Mo_compatible_5 : decode c_Mo_compatible 5 = .ok (.if_icmp .ge 58, 3) := by decide +kernel
theorem d_Mo_compatible_8 : decode c_Mo_compatible 8 = .ok (.aload_n 0, 1) := by decide +kernel
theorem d_Mo_compatible_9 : decode c_Mo_compatible 9 = .ok (.getfield 73, 3) := by decide +kernel
theorem d_Mo_compatible_12 : decode c_Mo_compatible 12 = .ok (.iload_n 1, 1) := by decide +kernel
theorem d_Mo_compatible_13 : decode c_Mo_compatible 13 = .ok (.iaload, 1) := by decide +kernel
theorem d_Mo_compatible_14 : decode c_Mo_compatible 14 = .ok (.aload_n 0, 1) := by decide +kernel
theorem d_Mo_compatible_15 : decode c_Mo_compatible 15 = .ok (.getfield 73, 3) := by decide +kernel
theorem d_Mo_compatible_18 : decode c_Mo_compatible 18 = .ok (.iload_n 2, 1) := by decide +kernel
theorem d_Mo_compatible_19 : decode c_Mo_compatible 19 = .ok (.iaload, 1) := by decide +kernel
theorem d_Mo_compatible_20 : decode c_Mo_compatible 20 = .ok (.iand, 1) := by decide +kernel
theorem d_Mo_compatible_21 : decode c_Mo_compatible 21 = .ok (.iload_n 3, 1) := by decide +kernel
theorem d_Mo_compatible_22 : decode c_Mo_compatible 22 = .ok (.ishr, 1) := by decide +kernel
theorem d_Mo_compatible_23 : decode c_Mo_compatible 23 = .ok (.iconst 1, 1) := by decide +kernel
theorem d_Mo_compatible_24 : decode c_Mo_compatible 24 = .ok (.iand, 1) := by decide +kernel
theorem d_Mo_compatible_25 : decode c_Mo_compatible 25 = .ok (.iconst 1, 1) := by decide +kernel
theorem d_Mo_compatible_26 : decode c_Mo_compatible 26 = .ok (.if_icmp .ne 31, 3) := by decide +kernel
theorem d_Mo_compatible_29 : decode c_Mo_compatible 29 = .ok (.aload_n 0, 1) := by decide +kernel
theorem d_Mo_compatible_30 : decode c_Mo_compatible 30 = .ok (.getfield 70, 3) := by decide +kernel
theorem d_Mo_compatible_33 : decode c_Mo_compatible 33 = .ok (.bipush 6, 2) := by decide +kernel
theorem d_Mo_compatible_35 : decode c_Mo_compatible 35 = .ok (.iload_n 1, 1) := by decide +kernel
theorem d_Mo_compatible_36 : decode c_Mo_compatible 36 = .ok (.imul, 1) := by decide +kernel
theorem d_Mo_compatible_37 : decode c_Mo_compatible 37 = .ok (.iload_n 3, 1) := by decide +kernel
theorem d_Mo_compatible_38 : decode c_Mo_compatible 38 = .ok (.iadd, 1) := by decide +kernel
theorem d_Mo_compatible_39 : decode c_Mo_compatible 39 = .ok (.laload, 1) := by decide +kernel
theorem d_Mo_compatible_40 : decode c_Mo_compatible 40 = .ok (.aload_n 0, 1) := by decide +kernel
theorem d_Mo_compatible_41 : decode c_Mo_compatible 41 = .ok (.getfield 70, 3) := by decide +kernel
theorem d_Mo_compatible_44 : decode c_Mo_compatible 44 = .ok (.bipush 6, 2) := by decide +kernel
theorem d_Mo_compatible_46 : decode c_Mo_compatible 46 = .ok (.iload_n 2, 1) := by decide +kernel
theorem d_Mo_compatible_47 : decode c_Mo_compatible 47 = .ok (.imul, 1) := by decide +kernel
theorem d_Mo_compatible_48 : decode c_Mo_compatible 48 = .ok (.iload_n 3, 1) := by decide +kernel
theorem d_Mo_compatible_49 : decode c_Mo_compatible 49 = .ok (.iadd, 1) := by decide +kernel
theorem d_Mo_compatible_50 : decode c_Mo_compatible 50 = .ok (.laload, 1) := by decide +kernel
theorem d_Mo_compatible_51 : decode c_Mo_compatible 51 = .ok (.lcmp, 1) := by decide +kernel
theorem d_Mo_compatible_52 : decode c_Mo_compatible 52 = .ok (.ifCond .eq 5, 3) := by decide +kernel
theorem d_Mo_compatible_55 : decode c_Mo_compatible 55 = .ok (.iconst 0, 1) := by decide +kernel
theorem d_Mo_compatible_56 : decode c_Mo_compatible 56 = .ok (.ireturn, 1) := by decide +kernel
theorem d_Mo_compatible_57 : decode c_Mo_compatible 57 = .ok (.iinc 3 1, 3) := by decide +kernel
theorem d_Mo_compatible_60 : decode c_Mo_compatible 60 = .ok (.goto (-58), 3) := by decide +kernel
theorem d_Mo_compatible_63 : decode c_Mo_compatible 63 = .ok (.iconst 1, 1) := by decide +kernel
theorem d_Mo_compatible_64 : decode c_Mo_compatible 64 = .ok (.ireturn, 1) := by decide +kernel
theorem d_Mo_join_0 : decode c_Mo_join 0 = .ok (.aload_n 0, 1) := by decide +kernel
theorem d_Mo_join_1 : decode c_Mo_join 1 = .ok (.bipush 10, 2) := by decide +kernel
theorem d_Mo_join_3 : decode c_Mo_join 3 = .ok (.iload_n 1, 1) := by decide +kernel
theorem d_Mo_join_4 : decode c_Mo_join 4 = .ok (.iload_n 2, 1) := by decide +kernel
theorem d_Mo_join_5 : decode c_Mo_join 5 = .ok (.invokevirtual 314, 3) := by decide +kernel
theorem d_Mo_join_8 : decode c_Mo_join 8 = .ok (.aload_n 0, 1) := by decide +kernel
theorem d_Mo_join_9 : decode c_Mo_join 9 = .ok (.getfield 311, 3) := by decide +kernel
theorem d_Mo_join_12 : decode c_Mo_join 12 = .ok (.ifCond .eq 4, 3) := by decide +kernel
theorem d_Mo_join_15 : decode c_Mo_join 15 = .ok (.return_, 1) := by decide +kernel
theorem d_Mo_join_16 : decode c_Mo_join 16 = .ok (.sipush 1500, 3) := by decide +kernel
theorem d_Mo_join_19 : decode c_Mo_join 19 = .ok (.aload_n 0, 1) := by decide +kernel
theorem d_Mo_join_20 : decode c_Mo_join 20 = .ok (.getfield 76, 3) := by decide +kernel
theorem d_Mo_join_23 : decode c_Mo_join 23 = .ok (.bipush 10, 2) := by decide +kernel
theorem d_Mo_join_25 : decode c_Mo_join 25 = .ok (.iaload, 1) := by decide +kernel
theorem d_Mo_join_26 : decode c_Mo_join 26 = .ok (.iadd, 1) := by decide +kernel
theorem d_Mo_join_27 : decode c_Mo_join 27 = .ok (.iconst 1, 1) := by decide +kernel
theorem d_Mo_join_28 : decode c_Mo_join 28 = .ok (.isub, 1) := by decide +kernel
theorem d_Mo_join_29 : decode c_Mo_join 29 = .ok (.istore 5, 2) := by decide +kernel
theorem d_Mo_join_31 : decode c_Mo_join 31 = .ok (.sipush 150, 3) := by decide +kernel
theorem d_Mo_join_34 : decode c_Mo_join 34 = .ok (.iload_n 3, 1) := by decide +kernel
theorem d_Mo_join_35 : decode c_Mo_join 35 = .ok (.imul, 1) := by decide +kernel
theorem d_Mo_join_36 : decode c_Mo_join 36 = .ok (.iload 4, 2) := by decide +kernel
theorem d_Mo_join_38 : decode c_Mo_join 38 = .ok (.iadd, 1) := by decide +kernel
theorem d_Mo_join_39 : decode c_Mo_join 39 = .ok (.istore 6, 2) := by decide +kernel
theorem d_Mo_join_41 : decode c_Mo_join 41 = .ok (.iconst 0, 1) := by decide +kernel
theorem d_Mo_join_42 : decode c_Mo_join 42 = .ok (.istore 7, 2) := by decide +kernel
theorem d_Mo_join_44 : decode c_Mo_join 44 = .ok (.iload 7, 2) := by decide +kernel
theorem d_Mo_join_46 : decode c_Mo_join 46 = .ok (.bipush 6, 2) := by decide +kernel
theorem d_Mo_join_48 : decode c_Mo_join 48 = .ok (.if_icmp .ge 51, 3) := by decide +kernel
theorem d_Mo_join_51 : decode c_Mo_join 51 = .ok (.aload_n 0, 1) := by decide +kernel
theorem d_Mo_join_52 : decode c_Mo_join 52 = .ok (.getfield 73, 3) := by decide +kernel
theorem d_Mo_join_55 : decode c_Mo_join 55 = .ok (.iload 6, 2) := by decide +kernel
theorem d_Mo_join_57 : decode c_Mo_join 57 = .ok (.iaload, 1) := by decide +kernel
theorem d_Mo_join_58 : decode c_Mo_join 58 = .ok (.iload 7, 2) := by decide +kernel
theorem d_Mo_join_60 : decode c_Mo_join 60 = .ok (.ishr, 1) := by decide +kernel
theorem d_Mo_join_61 : decode c_Mo_join 61 = .ok (.iconst 1, 1) := by decide +kernel
theorem d_Mo_join_62 : decode c_Mo_join 62 = .ok (.iand, 1) := by decide +kernel
theorem d_Mo_join_63 : decode c_Mo_join 63 = .ok (.iconst 1, 1) := by decide +kernel
theorem d_Mo_join_64 : decode c_Mo_join 64 = .ok (.if_icmp .ne 29, 3) := by decide +kernel
theorem d_Mo_join_67 : decode c_Mo_join 67 = .ok (.aload_n 0, 1) := by decide +kernel
theorem d_Mo_join_68 : decode c_Mo_join 68 = .ok (.getfield 70, 3) := by decide +kernel
theorem d_Mo_join_71 : decode c_Mo_join 71 = .ok (.bipush 6, 2) := by decide +kernel
theorem d_Mo_join_73 : decode c_Mo_join 73 = .ok (.iload 5, 2) := by decide +kernel
theorem d_Mo_join_75 : decode c_Mo_join 75 = .ok (.imul, 1) := by decide +kernel
theorem d_Mo_join_76 : decode c_Mo_join 76 = .ok (.iload 7, 2) := by decide +kernel
theorem d_Mo_join_78 : decode c_Mo_join 78 = .ok (.iadd, 1) := by decide +kernel
theorem d_Mo_join_79 : decode c_Mo_join 79 = .ok (.aload_n 0, 1) := by decide +kernel
theorem d_Mo_join_80 : decode c_Mo_join 80 = .ok (.getfield 70, 3) := by decide +kernel
theorem d_Mo_join_83 : decode c_Mo_join 83 = .ok (.bipush 6, 2) := by decide +kernel
theorem d_Mo_join_85 : decode c_Mo_join 85 = .ok (.iload 6, 2) := by decide +kernel
theorem d_Mo_join_87 : decode c_Mo_join 87 = .ok (.imul, 1) := by decide +kernel
theorem d_Mo_join_88 : decode c_Mo_join 88 = .ok (.iload 7, 2) := by decide +kernel
theorem d_Mo_join_90 : decode c_Mo_join 90 = .ok (.iadd, 1) := by decide +kernel
theorem d_Mo_join_91 : decode c_Mo_join 91 = .ok (.laload, 1) := by decide +kernel
theorem d_Mo_join_92 : decode c_Mo_join 92 = .ok (.lastore, 1) := by decide +kernel
theorem d_Mo_join_93 : decode c_Mo_join 93 = .ok (.iinc 7 1, 3) := by decide +kernel
theorem d_Mo_join_96 : decode c_Mo_join 96 = .ok (.goto (-52), 3) := by decide +kernel
theorem d_Mo_join_99 : decode c_Mo_join 99 = .ok (.aload_n 0, 1) := by decide +kernel
theorem d_Mo_join_100 : decode c_Mo_join 100 = .ok (.getfield 73, 3) := by decide +kernel
theorem d_Mo_join_103 : decode c_Mo_join 103 = .ok (.iload 5, 2) := by decide +kernel
theorem d_Mo_join_105 : decode c_Mo_join 105 = .ok (.dup2, 1) := by decide +kernel
theorem d_Mo_join_106 : decode c_Mo_join 106 = .ok (.iaload, 1) := by decide +kernel
theorem d_Mo_join_107 : decode c_Mo_join 107 = .ok (.aload_n 0, 1) := by decide +kernel
theorem d_Mo_join_108 : decode c_Mo_join 108 = .ok (.getfield 73, 3) := by decide +kernel
theorem d_Mo_join_111 : decode c_Mo_join 111 = .ok (.iload 6, 2) := by decide +kernel
theorem d_Mo_join_113 : decode c_Mo_join 113 = .ok (.iaload, 1) := by decide +kernel
theorem d_Mo_join_114 : decode c_Mo_join 114 = .ok (.ior, 1) := by decide +kernel
theorem d_Mo_join_115 : decode c_Mo_join 115 = .ok (.iastore, 1) := by decide +kernel
theorem d_Mo_join_116 : decode c_Mo_join 116 = .ok (.return_, 1) := by decide +kernel
theorem d_Mo_combine_0 : decode c_Mo_combine 0 = .ok (.aload_n 0, 1) := by decide +kernel
theorem d_Mo_combine_1 : decode c_Mo_combine 1 = .ok (.getfield 318, 3) := by decide +kernel
theorem d_Mo_combine_4 : decode c_Mo_combine 4 = .ok (.iconst 2, 1) := by decide +kernel
theorem d_Mo_combine_5 : decode c_Mo_combine 5 = .ok (.isub, 1) := by decide +kernel
theorem d_Mo_combine_6 : decode c_Mo_combine 6 = .ok (.istore_n 2, 1) := by decide +kernel
theorem d_Mo_combine_7 : decode c_Mo_combine 7 = .ok (.aload_n 0, 1) := by decide +kernel
theorem d_Mo_combine_8 : decode c_Mo_combine 8 = .ok (.getfield 318, 3) := by decide +kernel
theorem d_Mo_combine_11 : decode c_Mo_combine 11 = .ok (.iconst 1, 1) := by decide +kernel
theorem d_Mo_combine_12 : decode c_Mo_combine 12 = .ok (.isub, 1) := by decide +kernel
theorem d_Mo_combine_13 : decode c_Mo_combine 13 = .ok (.istore_n 3, 1) := by decide +kernel
theorem d_Mo_combine_14 : decode c_Mo_combine 14 = .ok (.aload_n 0, 1) := by decide +kernel
theorem d_Mo_combine_15 : decode c_Mo_combine 15 = .ok (.getfield 76, 3) := by decide +kernel
theorem d_Mo_combine_18 : decode c_Mo_combine 18 = .ok (.bipush 10, 2) := by decide +kernel
theorem d_Mo_combine_20 : decode c_Mo_combine 20 = .ok (.iconst 0, 1) := by decide +kernel
theorem d_Mo_combine_21 : decode c_Mo_combine 21 = .ok (.iastore, 1) := by decide +kernel
theorem d_Mo_combine_22 : decode c_Mo_combine 22 = .ok (.iconst 0, 1) := by decide +kernel
theorem d_Mo_combine_23 : decode c_Mo_combine 23 = .ok (.istore 4, 2) := by decide +kernel
theorem d_Mo_combine_25 : decode c_Mo_combine 25 = .ok (.iload 4, 2) := by decide +kernel
theorem d_Mo_combine_27 : decode c_Mo_combine 27 = .ok (.aload_n 0, 1) := by decide +kernel
theorem d_Mo_combine_28 : decode c_Mo_combine 28 = .ok (.getfield 76, 3) := by decide +kernel
theorem d_Mo_combine_31 : decode c_Mo_combine 31 = .ok (.iload_n 2, 1) := by decide +kernel
theorem d_Mo_combine_32 : decode c_Mo_combine 32 = .ok (.iaload, 1) := by decide +kernel
theorem d_Mo_combine_33 : decode c_Mo_combine 33 = .ok (.if_icmp .ge 152, 3) := by decide +kernel
theorem d_Mo_combine_36 : decode c_Mo_combine 36 = .ok (.aload_n 0, 1) := by decide +kernel
theorem d_Mo_combine_37 : decode c_Mo_combine 37 = .ok (.getfield 311, 3) := by decide +kernel
theorem d_Mo_combine_40 : decode c_Mo_combine 40 = .ok (.ifCond .ne 145, 3) := by decide +kernel
theorem d_Mo_combine_43 : decode c_Mo_combine 43 = .ok (.iconst 0, 1) := by decide +kernel
theorem d_Mo_combine_44 : decode c_Mo_combine 44 = .ok (.istore 5, 2) := by decide +kernel
theorem d_Mo_combine_46 : decode c_Mo_combine 46 = .ok (.iconst 0, 1) := by decide +kernel
theorem d_Mo_combine_47 : decode c_Mo_combine 47 = .ok (.istore 6, 2) := by decide +kernel
theorem d_Mo_combine_49 : decode c_Mo_combine 49 = .ok (.iconst 0, 1) := by decide +kernel
theorem d_Mo_combine_50 : decode c_Mo_combine 50 = .ok (.istore 7, 2) := by decide +kernel
theorem d_Mo_combine_52 : decode c_Mo_combine 52 = .ok (.iload 7, 2) := by decide +kernel
theorem d_Mo_combine_54 : decode c_Mo_combine 54 = .ok (.aload_n 0, 1) := by decide +kernel
theorem d_Mo_combine_55 : decode c_Mo_combine 55 = .ok (.getfield 76, 3) := by decide +kernel
theorem d_Mo_combine_58 : decode c_Mo_combine 58 = .ok (.iload_n 3, 1) := by decide +kernel
theorem d_Mo_combine_59 : decode c_Mo_combine 59 = .ok (.iaload, 1) := by decide +kernel
theorem d_Mo_combine_60 : decode c_Mo_combine 60 = .ok (.if_icmp .ge 90, 3) := by decide +kernel
theorem d_Mo_combine_63 : decode c_Mo_combine 63 = .ok (.aload_n 0, 1) := by decide +kernel
theorem d_Mo_combine_64 : decode c_Mo_combine 64 = .ok (.getfield 311, 3) := by decide +kernel
theorem d_Mo_combine_67 : decode c_Mo_combine 67 = .ok (.ifCond .ne 83, 3) := by decide +kernel
theorem d_Mo_combine_70 : decode c_Mo_combine 70 = .ok (.aload_n 0, 1) := by decide +kernel
theorem d_Mo_combine_71 : decode c_Mo_combine 71 = .ok (.sipush 150, 3) := by decide +kernel
theorem d_Mo_combine_74 : decode c_Mo_combine 74 = .ok (.iload_n 2, 1) := by decide +kernel
theorem d_Mo_combine_75 : decode c_Mo_combine 75 = .ok (.imul, 1) := by decide +kernel
theorem d_Mo_combine_76 : decode c_Mo_combine 76 = .ok (.iload 4, 2) := by decide +kernel
theorem d_Mo_combine_78 : decode c_Mo_combine 78 = .ok (.iadd, 1) := by decide +kernel
theorem d_Mo_combine_79 : decode c_Mo_combine 79 = .ok (.sipush 150, 3) := by decide +kernel
theorem d_Mo_combine_82 : decode c_Mo_combine 82 = .ok (.iload_n 3, 1) := by decide +kernel
theorem d_Mo_combine_83 : decode c_Mo_combine 83 = .ok (.imul, 1) := by decide +kernel
theorem d_Mo_combine_84 : decode c_Mo_combine 84 = .ok (.iload 7, 2) := by decide +kernel
theorem d_Mo_combine_86 : decode c_Mo_combine 86 = .ok (.iadd, 1) := by decide +kernel
theorem d_Mo_combine_87 : decode c_Mo_combine 87 = .ok (.invokevirtual 321, 3) := by decide +kernel
theorem d_Mo_combine_90 : decode c_Mo_combine 90 = .ok (.ifCond .eq 54, 3) := by decide +kernel
theorem d_Mo_combine_93 : decode c_Mo_combine 93 = .ok (.iconst 1, 1) := by decide +kernel
theorem d_Mo_combine_94 : decode c_Mo_combine 94 = .ok (.istore 5, 2) := by decide +kernel
theorem d_Mo_combine_96 : decode c_Mo_combine 96 = .ok (.aload_n 0, 1) := by decide +kernel
theorem d_Mo_combine_97 : decode c_Mo_combine 97 = .ok (.getfield 73, 3) := by decide +kernel
theorem d_Mo_combine_100 : decode c_Mo_combine 100 = .ok (.sipush 150, 3) := by decide +kernel
theorem d_Mo_combine_103 : decode c_Mo_combine 103 = .ok (.iload_n 2, 1) := by decide +kernel
theorem d_Mo_combine_104 : decode c_Mo_combine 104 = .ok (.imul, 1) := by decide +kernel
theorem d_Mo_combine_105 : decode c_Mo_combine 105 = .ok (.iload 4, 2) := by decide +kernel
theorem d_Mo_combine_107 : decode c_Mo_combine 107 = .ok (.iadd, 1) := by decide +kernel
theorem d_Mo_combine_108 : decode c_Mo_combine 108 = .ok (.iaload, 1) := by decide +kernel
theorem d_Mo_combine_109 : decode c_Mo_combine 109 = .ok (.aload_n 0, 1) := by decide +kernel
theorem d_Mo_combine_110 : decode c_Mo_combine 110 = .ok (.getfield 73, 3) := by decide +kernel
theorem d_Mo_combine_113 : decode c_Mo_combine 113 = .ok (.sipush 150, 3) := by decide +kernel
theorem d_Mo_combine_116 : decode c_Mo_combine 116 = .ok (.iload_n 3, 1) := by decide +kernel
theorem d_Mo_combine_117 : decode c_Mo_combine 117 = .ok (.imul, 1) := by decide +kernel
theorem d_Mo_combine_118 : decode c_Mo_combine 118 = .ok (.iload 7, 2) := by decide +kernel
theorem d_Mo_combine_120 : decode c_Mo_combine 120 = .ok (.iadd, 1) := by decide +kernel
theorem d_Mo_combine_121 : decode c_Mo_combine 121 = .ok (.iaload, 1) := by decide +kernel
theorem d_Mo_combine_122 : decode c_Mo_combine 122 = .ok (.iand, 1) := by decide +kernel
theorem d_Mo_combine_123 : decode c_Mo_combine 123 = .ok (.ifCond .eq 6, 3) := by decide +kernel
theorem d_Mo_combine_126 : decode c_Mo_combine 126 = .ok (.iconst 1, 1) := by decide +kernel
theorem d_Mo_combine_127 : decode c_Mo_combine 127 = .ok (.istore 6, 2) := by decide +kernel
theorem d_Mo_combine_129 : decode c_Mo_combine 129 = .ok (.iload_n 1, 1) := by decide +kernel
theorem d_Mo_combine_130 : decode c_Mo_combine 130 = .ok (.iconst 2, 1) := by decide +kernel
theorem d_Mo_combine_131 : decode c_Mo_combine 131 = .ok (.if_icmp .ge 13, 3) := by decide +kernel
theorem d_Mo_combine_134 : decode c_Mo_combine 134 = .ok (.aload_n 0, 1) := by decide +kernel
theorem d_Mo_combine_135 : decode c_Mo_combine 135 = .ok (.iload_n 2, 1) := by decide +kernel
theorem d_Mo_combine_136 : decode c_Mo_combine 136 = .ok (.iload 4, 2) := by decide +kernel
theorem d_Mo_combine_138 : decode c_Mo_combine 138 = .ok (.iload_n 3, 1) := by decide +kernel
theorem d_Mo_combine_139 : decode c_Mo_combine 139 = .ok (.iload 7, 2) := by decide +kernel
theorem d_Mo_combine_141 : decode c_Mo_combine 141 = .ok (.invokevirtual 325, 3) := by decide +kernel
theorem d_Mo_combine_144 : decode c_Mo_combine 144 = .ok (.iinc 7 1, 3) := by decide +kernel
theorem d_Mo_combine_147 : decode c_Mo_combine 147 = .ok (.goto (-95), 3) := by decide +kernel
theorem d_Mo_combine_150 : decode c_Mo_combine 150 = .ok (.iload_n 1, 1) := by decide +kernel
theorem d_Mo_combine_151 : decode c_Mo_combine 151 = .ok (.iconst 1, 1) := by decide +kernel
theorem d_Mo_combine_152 : decode c_Mo_combine 152 = .ok (.if_icmp .ne 8, 3) := by decide +kernel
theorem d_Mo_combine_155 : decode c_Mo_combine 155 = .ok (.iload 5, 2) := by decide +kernel
theorem d_Mo_combine_157 : decode c_Mo_combine 157 = .ok (.ifCond .eq 13, 3) := by decide +kernel
theorem d_Mo_combine_160 : decode c_Mo_combine 160 = .ok (.iload_n 1, 1) := by decide +kernel
theorem d_Mo_combine_161 : decode c_Mo_combine 161 = .ok (.iconst 2, 1) := by decide +kernel
theorem d_Mo_combine_162 : decode c_Mo_combine 162 = .ok (.if_icmp .ne 17, 3) := by decide +kernel
theorem d_Mo_combine_165 : decode c_Mo_combine 165 = .ok (.iload 6, 2) := by decide +kernel
theorem d_Mo_combine_167 : decode c_Mo_combine 167 = .ok (.ifCond .ne 12, 3) := by decide +kernel
theorem d_Mo_combine_170 : decode c_Mo_combine 170 = .ok (.aload_n 0, 1) := by decide +kernel
theorem d_Mo_combine_171 : decode c_Mo_combine 171 = .ok (.bipush 10, 2) := by decide +kernel
theorem d_Mo_combine_173 : decode c_Mo_combine 173 = .ok (.iload_n 2, 1) := by decide +kernel
theorem d_Mo_combine_174 : decode c_Mo_combine 174 = .ok (.iload 4, 2) := by decide +kernel
theorem d_Mo_combine_176 : decode c_Mo_combine 176 = .ok (.invokevirtual 314, 3) := by decide +kernel
theorem d_Mo_combine_179 : decode c_Mo_combine 179 = .ok (.iinc 4 1, 3) := by decide +kernel
theorem d_Mo_combine_182 : decode c_Mo_combine 182 = .ok (.goto (-157), 3) := by decide +kernel
theorem d_Mo_combine_185 : decode c_Mo_combine 185 = .ok (.aload_n 0, 1) := by decide +kernel
theorem d_Mo_combine_186 : decode c_Mo_combine 186 = .ok (.dup, 1) := by decide +kernel
theorem d_Mo_combine_187 : decode c_Mo_combine 187 = .ok (.getfield 318, 3) := by decide +kernel
theorem d_Mo_combine_190 : decode c_Mo_combine 190 = .ok (.iconst 1, 1) := by decide +kernel
theorem d_Mo_combine_191 : decode c_Mo_combine 191 = .ok (.isub, 1) := by decide +kernel
theorem d_Mo_combine_192 : decode c_Mo_combine 192 = .ok (.putfield 318, 3) := by decide +kernel
theorem d_Mo_combine_195 : decode c_Mo_combine 195 = .ok (.aload_n 0, 1) := by decide +kernel
theorem d_Mo_combine_196 : decode c_Mo_combine 196 = .ok (.getfield 311, 3) := by decide +kernel
theorem d_Mo_combine_199 : decode c_Mo_combine 199 = .ok (.ifCond .ne 10, 3) := by decide +kernel
theorem d_Mo_combine_202 : decode c_Mo_combine 202 = .ok (.aload_n 0, 1) := by decide +kernel
theorem d_Mo_combine_203 : decode c_Mo_combine 203 = .ok (.bipush 10, 2) := by decide +kernel
theorem d_Mo_combine_205 : decode c_Mo_combine 205 = .ok (.iload_n 2, 1) := by decide +kernel
theorem d_Mo_combine_206 : decode c_Mo_combine 206 = .ok (.invokevirtual 329, 3) := by decide +kernel
theorem d_Mo_combine_209 : decode c_Mo_combine 209 = .ok (.return_, 1) := by decide +kernel
theorem d_Mo_match_0 : decode c_Mo_match 0 = .ok (.aload_n 0, 1) := by decide +kernel
theorem d_Mo_match_1 : decode c_Mo_match 1 = .ok (.getfield 318, 3) := by decide +kernel
theorem d_Mo_match_4 : decode c_Mo_match 4 = .ok (.istore_n 2, 1) := by decide +kernel
theorem d_Mo_match_5 : decode c_Mo_match 5 = .ok (.aload_n 0, 1) := by decide +kernel
theorem d_Mo_match_6 : decode c_Mo_match 6 = .ok (.getfield 76, 3) := by decide +kernel
theorem d_Mo_match_9 : decode c_Mo_match 9 = .ok (.iload_n 2, 1) := by decide +kernel
theorem d_Mo_match_10 : decode c_Mo_match 10 = .ok (.iconst 0, 1) := by decide +kernel
theorem d_Mo_match_11 : decode c_Mo_match 11 = .ok (.iastore, 1) := by decide +kernel
theorem d_Mo_match_12 : decode c_Mo_match 12 = .ok (.aload_n 0, 1) := by decide +kernel
theorem d_Mo_match_13 : decode c_Mo_match 13 = .ok (.dup, 1) := by decide +kernel
theorem d_Mo_match_14 : decode c_Mo_match 14 = .ok (.getfield 318, 3) := by decide +kernel
theorem d_Mo_match_17 : decode c_Mo_match 17 = .ok (.iconst 1, 1) := by decide +kernel
theorem d_Mo_match_18 : decode c_Mo_match 18 = .ok (.iadd, 1) := by decide +kernel
theorem d_Mo_match_19 : decode c_Mo_match 19 = .ok (.putfield 318, 3) := by decide +kernel
theorem d_Mo_match_22 : decode c_Mo_match 22 = .ok (.iconst 0, 1) := by decide +kernel
theorem d_Mo_match_23 : decode c_Mo_match 23 = .ok (.istore_n 3, 1) := by decide +kernel
theorem d_Mo_match_24 : decode c_Mo_match 24 = .ok (.iload_n 3, 1) := by decide +kernel
theorem d_Mo_match_25 : decode c_Mo_match 25 = .ok (.aload_n 0, 1) := by decide +kernel
theorem d_Mo_match_26 : decode c_Mo_match 26 = .ok (.getfield 102, 3) := by decide +kernel
theorem d_Mo_match_29 : decode c_Mo_match 29 = .ok (.if_icmp .ge 198, 3) := by decide +kernel
theorem d_Mo_match_32 : decode c_Mo_match 32 = .ok (.sipush 150, 3) := by decide +kernel
theorem d_Mo_match_35 : decode c_Mo_match 35 = .ok (.iload_n 2, 1) := by decide +kernel
theorem d_Mo_match_36 : decode c_Mo_match 36 = .ok (.imul, 1) := by decide +kernel
theorem d_Mo_match_37 : decode c_Mo_match 37 = .ok (.aload_n 0, 1) := by decide +kernel
theorem d_Mo_match_38 : decode c_Mo_match 38 = .ok (.getfield 76, 3) := by decide +kernel
theorem d_Mo_match_41 : decode c_Mo_match 41 = .ok (.iload_n 2, 1) := by decide +kernel
theorem d_Mo_match_42 : decode c_Mo_match 42 = .ok (.iaload, 1) := by decide +kernel
theorem d_Mo_match_43 : decode c_Mo_match 43 = .ok (.iadd, 1) := by decide +kernel
theorem d_Mo_match_44 : decode c_Mo_match 44 = .ok (.istore 4, 2) := by decide +kernel
theorem d_Mo_match_46 : decode c_Mo_match 46 = .ok (.aload_n 0, 1) := by decide +kernel
theorem d_Mo_match_47 : decode c_Mo_match 47 = .ok (.getfield 73, 3) := by decide +kernel
theorem d_Mo_match_50 : decode c_Mo_match 50 = .ok (.iload 4, 2) := by decide +kernel
theorem d_Mo_match_52 : decode c_Mo_match 52 = .ok (.iconst 0, 1) := by decide +kernel
theorem d_Mo_match_53 : decode c_Mo_match 53 = .ok (.iastore, 1) := by decide +kernel
theorem d_Mo_match_54 : decode c_Mo_match 54 = .ok (.iconst 1, 1) := by decide +kernel
theorem d_Mo_match_55 : decode c_Mo_match 55 = .ok (.istore 5, 2) := by decide +kernel
theorem d_Mo_match_57 : decode c_Mo_match 57 = .ok (.iconst 0, 1) := by decide +kernel
theorem d_Mo_match_58 : decode c_Mo_match 58 = .ok (.istore 6, 2) := by decide +kernel
theorem d_Mo_match_60 : decode c_Mo_match 60 = .ok (.iload 6, 2) := by decide +kernel
theorem d_Mo_match_62 : decode c_Mo_match 62 = .ok (.iconst 3, 1) := by decide +kernel
theorem d_Mo_match_63 : decode c_Mo_match 63 = .ok (.if_icmp .ge 143, 3) := by decide +kernel
theorem d_Mo_match_66 : decode c_Mo_match 66 = .ok (.aload_n 0, 1) := by decide +kernel
theorem d_Mo_match_67 : decode c_Mo_match 67 = .ok (.getfield 7, 3) := by decide +kernel
theorem d_Mo_match_70 : decode c_Mo_match 70 = .ok (.iconst 3, 1) := by decide +kernel
theorem d_Mo_match_71 : decode c_Mo_match 71 = .ok (.iload_n 3, 1) := by decide +kernel
theorem d_Mo_match_72 : decode c_Mo_match 72 = .ok (.imul, 1) := by decide +kernel
theorem d_Mo_match_73 : decode c_Mo_match 73 = .ok (.iload 6, 2) := by decide +kernel
theorem d_Mo_match_75 : decode c_Mo_match 75 = .ok (.iadd, 1) := by decide +kernel
theorem d_Mo_match_76 : decode c_Mo_match 76 = .ok (.laload, 1) := by decide +kernel
theorem d_Mo_match_77 : decode c_Mo_match 77 = .ok (.lstore 7, 2) := by decide +kernel
theorem d_Mo_match_79 : decode c_Mo_match 79 = .ok (.aload_n 0, 1) := by decide +kernel
theorem d_Mo_match_80 : decode c_Mo_match 80 = .ok (.getfield 49, 3) := by decide +kernel
theorem d_Mo_match_83 : decode c_Mo_match 83 = .ok (.iload_n 1, 1) := by decide +kernel
theorem d_Mo_match_84 : decode c_Mo_match 84 = .ok (.iload 6, 2) := by decide +kernel
theorem d_Mo_match_86 : decode c_Mo_match 86 = .ok (.iadd, 1) := by decide +kernel
theorem d_Mo_match_87 : decode c_Mo_match 87 = .ok (.iaload, 1) := by decide +kernel
theorem d_Mo_match_88 : decode c_Mo_match 88 = .ok (.istore 9, 2) := by decide +kernel
theorem d_Mo_match_90 : decode c_Mo_match 90 = .ok (.iload 9, 2) := by decide +kernel
theorem d_Mo_match_92 : decode c_Mo_match 92 = .ok (.ifCond .ge 31, 3) := by decide +kernel
theorem d_Mo_match_95 : decode c_Mo_match 95 = .ok (.iload 5, 2) := by decide +kernel
theorem d_Mo_match_97 : decode c_Mo_match 97 = .ok (.aload_n 0, 1) := by decide +kernel
theorem d_Mo_match_98 : decode c_Mo_match 98 = .ok (.getfield 52, 3) := by decide +kernel
theorem d_Mo_match_101 : decode c_Mo_match 101 = .ok (.iload_n 1, 1) := by decide +kernel
theorem d_Mo_match_102 : decode c_Mo_match 102 = .ok (.iload 6, 2) := by decide +kernel
theorem d_Mo_match_104 : decode c_Mo_match 104 = .ok (.iadd, 1) := by decide +kernel
theorem d_Mo_match_105 : decode c_Mo_match 105 = .ok (.laload, 1) := by decide +kernel
theorem d_Mo_match_106 : decode c_Mo_match 106 = .ok (.lload 7, 2) := by decide +kernel
theorem d_Mo_match_108 : decode c_Mo_match 108 = .ok (.lcmp, 1) := by decide +kernel
theorem d_Mo_match_109 : decode c_Mo_match 109 = .ok (.ifCond .ne 7, 3) := by decide +kernel
theorem d_Mo_match_112 : decode c_Mo_match 112 = .ok (.iconst 1, 1) := by decide +kernel
theorem d_Mo_match_113 : decode c_Mo_match 113 = .ok (.goto 4, 3) := by decide +kernel
theorem d_Mo_match_116 : decode c_Mo_match 116 = .ok (.iconst 0, 1) := by decide +kernel
theorem d_Mo_match_117 : decode c_Mo_match 117 = .ok (.iand, 1) := by decide +kernel
theorem d_Mo_match_118 : decode c_Mo_match 118 = .ok (.istore 5, 2) := by decide +kernel
theorem d_Mo_match_120 : decode c_Mo_match 120 = .ok (.goto 80, 3) := by decide +kernel
theorem d_Mo_match_123 : decode c_Mo_match 123 = .ok (.aload_n 0, 1) := by decide +kernel
theorem d_Mo_match_124 : decode c_Mo_match 124 = .ok (.getfield 73, 3) := by decide +kernel
theorem d_Mo_match_127 : decode c_Mo_match 127 = .ok (.iload 4, 2) := by decide +kernel
theorem d_Mo_match_129 : decode c_Mo_match 129 = .ok (.iaload, 1) := by decide +kernel
theorem d_Mo_match_130 : decode c_Mo_match 130 = .ok (.iload 9, 2) := by decide +kernel
theorem d_Mo_match_132 : decode c_Mo_match 132 = .ok (.ishr, 1) := by decide +kernel
theorem d_Mo_match_133 : decode c_Mo_match 133 = .ok (.iconst 1, 1) := by decide +kernel
theorem d_Mo_match_134 : decode c_Mo_match 134 = .ok (.iand, 1) := by decide +kernel
theorem d_Mo_match_135 : decode c_Mo_match 135 = .ok (.iconst 1, 1) := by decide +kernel
theorem d_Mo_match_136 : decode c_Mo_match 136 = .ok (.if_icmp .ne 35, 3) := by decide +kernel
theorem d_Mo_match_139 : decode c_Mo_match 139 = .ok (.iload 5, 2) := by decide +kernel
theorem d_Mo_match_141 : decode c_Mo_match 141 = .ok (.aload_n 0, 1) := by decide +kernel
theorem d_Mo_match_142 : decode c_Mo_match 142 = .ok (.getfield 70, 3) := by decide +kernel
theorem d_Mo_match_145 : decode c_Mo_match 145 = .ok (.bipush 6, 2) := by decide +kernel
theorem d_Mo_match_147 : decode c_Mo_match 147 = .ok (.iload 4, 2) := by decide +kernel
theorem d_Mo_match_149 : decode c_Mo_match 149 = .ok (.imul, 1) := by decide +kernel
theorem d_Mo_match_150 : decode c_Mo_match 150 = .ok (.iload 9, 2) := by decide +kernel
theorem d_Mo_match_152 : decode c_Mo_match 152 = .ok (.iadd, 1) := by decide +kernel
theorem d_Mo_match_153 : decode c_Mo_match 153 = .ok (.laload, 1) := by decide +kernel
theorem d_Mo_match_154 : decode c_Mo_match 154 = .ok (.lload 7, 2) := by decide +kernel
theorem d_Mo_match_156 : decode c_Mo_match 156 = .ok (.lcmp, 1) := by decide +kernel
theorem d_Mo_match_157 : decode c_Mo_match 157 = .ok (.ifCond .ne 7, 3) := by decide +kernel
theorem d_Mo_match_160 : decode c_Mo_match 160 = .ok (.iconst 1, 1) := by decide +kernel
theorem d_Mo_match_161 : decode c_Mo_match 161 = .ok (.goto 4, 3) := by decide +kernel
theorem d_Mo_match_164 : decode c_Mo_match 164 = .ok (.iconst 0, 1) := by decide +kernel
theorem d_Mo_match_165 : decode c_Mo_match 165 = .ok (.iand, 1) := by decide +kernel
theorem d_Mo_match_166 : decode c_Mo_match 166 = .ok (.istore 5, 2) := by decide +kernel
theorem d_Mo_match_168 : decode c_Mo_match 168 = .ok (.goto 32, 3) := by decide +kernel
theorem d_Mo_match_171 : decode c_Mo_match 171 = .ok (.aload_n 0, 1) := by decide +kernel
theorem d_Mo_match_172 : decode c_Mo_match 172 = .ok (.getfield 73, 3) := by decide +kernel
theorem d_Mo_match_175 : decode c_Mo_match 175 = .ok (.iload 4, 2) := by decide +kernel
theorem d_Mo_match_177 : decode c_Mo_match 177 = .ok (.dup2, 1) := by decide +kernel
theorem d_Mo_match_178 : decode c_Mo_match 178 = .ok (.iaload, 1) := by decide +kernel
theorem d_Mo_match_179 : decode c_Mo_match 179 = .ok (.iconst 1, 1) := by decide +kernel
theorem d_Mo_match_180 : decode c_Mo_match 180 = .ok (.iload 9, 2) := by decide +kernel
theorem d_Mo_match_182 : decode c_Mo_match 182 = .ok (.ishl, 1) := by decide +kernel
theorem d_Mo_match_183 : decode c_Mo_match 183 = .ok (.ior, 1) := by decide +kernel
theorem d_Mo_match_184 : decode c_Mo_match 184 = .ok (.iastore, 1) := by decide +kernel
theorem d_Mo_match_185 : decode c_Mo_match 185 = .ok (.aload_n 0, 1) := by decide +kernel
theorem d_Mo_match_186 : decode c_Mo_match 186 = .ok (.getfield 70, 3) := by decide +kernel
theorem d_Mo_match_189 : decode c_Mo_match 189 = .ok (.bipush 6, 2) := by decide +kernel
theorem d_Mo_match_191 : decode c_Mo_match 191 = .ok (.iload 4, 2) := by decide +kernel
theorem d_Mo_match_193 : decode c_Mo_match 193 = .ok (.imul, 1) := by decide +kernel
theorem d_Mo_match_194 : decode c_Mo_match 194 = .ok (.iload 9, 2) := by decide +kernel
theorem d_Mo_match_196 : decode c_Mo_match 196 = .ok (.iadd, 1) := by decide +kernel
theorem d_Mo_match_197 : decode c_Mo_match 197 = .ok (.lload 7, 2) := by decide +kernel
theorem d_Mo_match_199 : decode c_Mo_match 199 = .ok (.lastore, 1) := by decide +kernel
theorem d_Mo_match_200 : decode c_Mo_match 200 = .ok (.iinc 6 1, 3) := by decide +kernel
theorem d_Mo_match_203 : decode c_Mo_match 203 = .ok (.goto (-143), 3) := by decide +kernel
theorem d_Mo_match_206 : decode c_Mo_match 206 = .ok (.iload 5, 2) := by decide +kernel
theorem d_Mo_match_208 : decode c_Mo_match 208 = .ok (.ifCond .eq 13, 3) := by decide +kernel
theorem d_Mo_match_211 : decode c_Mo_match 211 = .ok (.aload_n 0, 1) := by decide +kernel
theorem d_Mo_match_212 : decode c_Mo_match 212 = .ok (.getfield 76, 3) := by decide +kernel
theorem d_Mo_match_215 : decode c_Mo_match 215 = .ok (.iload_n 2, 1) := by decide +kernel
theorem d_Mo_match_216 : decode c_Mo_match 216 = .ok (.dup2, 1) := by decide +kernel
theorem d_Mo_match_217 : decode c_Mo_match 217 = .ok (.iaload, 1) := by decide +kernel
theorem d_Mo_match_218 : decode c_Mo_match 218 = .ok (.iconst 1, 1) := by decide +kernel
theorem d_Mo_match_219 : decode c_Mo_match 219 = .ok (.iadd, 1) := by decide +kernel
theorem d_Mo_match_220 : decode c_Mo_match 220 = .ok (.iastore, 1) := by decide +kernel
theorem d_Mo_match_221 : decode c_Mo_match 221 = .ok (.iinc 3 1, 3) := by decide +kernel
theorem d_Mo_match_224 : decode c_Mo_match 224 = .ok (.goto (-200), 3) := by decide +kernel
theorem d_Mo_match_227 : decode c_Mo_match 227 = .ok (.return_, 1) := by decide +kernel
theorem d_Mo_holds_0 : decode c_Mo_holds 0 = .ok (.bipush 60, 2) := by decide +kernel
theorem d_Mo_holds_2 : decode c_Mo_holds 2 = .ok (.iconst 2, 1) := by decide +kernel
theorem d_Mo_holds_3 : decode c_Mo_holds 3 = .ok (.iload_n 1, 1) := by decide +kernel
theorem d_Mo_holds_4 : decode c_Mo_holds 4 = .ok (.imul, 1) := by decide +kernel
theorem d_Mo_holds_5 : decode c_Mo_holds 5 = .ok (.iadd, 1) := by decide +kernel
theorem d_Mo_holds_6 : decode c_Mo_holds 6 = .ok (.istore_n 3, 1) := by decide +kernel
theorem d_Mo_holds_7 : decode c_Mo_holds 7 = .ok (.aload_n 0, 1) := by decide +kernel
theorem d_Mo_holds_8 : decode c_Mo_holds 8 = .ok (.getfield 49, 3) := by decide +kernel
theorem d_Mo_holds_11 : decode c_Mo_holds 11 = .ok (.iload_n 3, 1) := by decide +kernel
theorem d_Mo_holds_12 : decode c_Mo_holds 12 = .ok (.iaload, 1) := by decide +kernel
theorem d_Mo_holds_13 : decode c_Mo_holds 13 = .ok (.ifCond .lt 22, 3) := by decide +kernel
theorem d_Mo_holds_16 : decode c_Mo_holds 16 = .ok (.aload_n 0, 1) := by decide +kernel
theorem d_Mo_holds_17 : decode c_Mo_holds 17 = .ok (.getfield 73, 3) := by decide +kernel
theorem d_Mo_holds_20 : decode c_Mo_holds 20 = .ok (.iload_n 2, 1) := by decide +kernel
theorem d_Mo_holds_21 : decode c_Mo_holds 21 = .ok (.iaload, 1) := by decide +kernel
theorem d_Mo_holds_22 : decode c_Mo_holds 22 = .ok (.aload_n 0, 1) := by decide +kernel
theorem d_Mo_holds_23 : decode c_Mo_holds 23 = .ok (.getfield 49, 3) := by decide +kernel
theorem d_Mo_holds_26 : decode c_Mo_holds 26 = .ok (.iload_n 3, 1) := by decide +kernel
theorem d_Mo_holds_27 : decode c_Mo_holds 27 = .ok (.iaload, 1) := by decide +kernel
theorem d_Mo_holds_28 : decode c_Mo_holds 28 = .ok (.ishr, 1) := by decide +kernel
theorem d_Mo_holds_29 : decode c_Mo_holds 29 = .ok (.iconst 1, 1) := by decide +kernel
theorem d_Mo_holds_30 : decode c_Mo_holds 30 = .ok (.iand, 1) := by decide +kernel
theorem d_Mo_holds_31 : decode c_Mo_holds 31 = .ok (.iconst 1, 1) := by decide +kernel
theorem d_Mo_holds_32 : decode c_Mo_holds 32 = .ok (.if_icmp .ne 7, 3) := by decide +kernel
theorem d_Mo_holds_35 : decode c_Mo_holds 35 = .ok (.iconst 1, 1) := by decide +kernel
theorem d_Mo_holds_36 : decode c_Mo_holds 36 = .ok (.goto 4, 3) := by decide +kernel
theorem d_Mo_holds_39 : decode c_Mo_holds 39 = .ok (.iconst 0, 1) := by decide +kernel
theorem d_Mo_holds_40 : decode c_Mo_holds 40 = .ok (.istore 4, 2) := by decide +kernel
theorem d_Mo_holds_42 : decode c_Mo_holds 42 = .ok (.aload_n 0, 1) := by decide +kernel
theorem d_Mo_holds_43 : decode c_Mo_holds 43 = .ok (.getfield 58, 3) := by decide +kernel
theorem d_Mo_holds_46 : decode c_Mo_holds 46 = .ok (.iload_n 1, 1) := by decide +kernel
theorem d_Mo_holds_47 : decode c_Mo_holds 47 = .ok (.iaload, 1) := by decide +kernel
theorem d_Mo_holds_48 : decode c_Mo_holds 48 = .ok (.bipush 98, 2) := by decide +kernel
theorem d_Mo_holds_50 : decode c_Mo_holds 50 = .ok (.if_icmp .ne 6, 3) := by decide +kernel
theorem d_Mo_holds_53 : decode c_Mo_holds 53 = .ok (.iload 4, 2) := by decide +kernel
theorem d_Mo_holds_55 : decode c_Mo_holds 55 = .ok (.ireturn, 1) := by decide +kernel
theorem d_Mo_holds_56 : decode c_Mo_holds 56 = .ok (.aload_n 0, 1) := by decide +kernel
theorem d_Mo_holds_57 : decode c_Mo_holds 57 = .ok (.getfield 49, 3) := by decide +kernel
theorem d_Mo_holds_60 : decode c_Mo_holds 60 = .ok (.iload_n 3, 1) := by decide +kernel
theorem d_Mo_holds_61 : decode c_Mo_holds 61 = .ok (.iconst 1, 1) := by decide +kernel
theorem d_Mo_holds_62 : decode c_Mo_holds 62 = .ok (.iadd, 1) := by decide +kernel
theorem d_Mo_holds_63 : decode c_Mo_holds 63 = .ok (.iaload, 1) := by decide +kernel
theorem d_Mo_holds_64 : decode c_Mo_holds 64 = .ok (.ifCond .lt 24, 3) := by decide +kernel
theorem d_Mo_holds_67 : decode c_Mo_holds 67 = .ok (.aload_n 0, 1) := by decide +kernel
theorem d_Mo_holds_68 : decode c_Mo_holds 68 = .ok (.getfield 73, 3) := by decide +kernel
theorem d_Mo_holds_71 : decode c_Mo_holds 71 = .ok (.iload_n 2, 1) := by decide +kernel
theorem d_Mo_holds_72 : decode c_Mo_holds 72 = .ok (.iaload, 1) := by decide +kernel
theorem d_Mo_holds_73 : decode c_Mo_holds 73 = .ok (.aload_n 0, 1) := by decide +kernel
theorem d_Mo_holds_74 : decode c_Mo_holds 74 = .ok (.getfield 49, 3) := by decide +kernel
theorem d_Mo_holds_77 : decode c_Mo_holds 77 = .ok (.iload_n 3, 1) := by decide +kernel
theorem d_Mo_holds_78 : decode c_Mo_holds 78 = .ok (.iconst 1, 1) := by decide +kernel
theorem d_Mo_holds_79 : decode c_Mo_holds 79 = .ok (.iadd, 1) := by decide +kernel
theorem d_Mo_holds_80 : decode c_Mo_holds 80 = .ok (.iaload, 1) := by decide +kernel
theorem d_Mo_holds_81 : decode c_Mo_holds 81 = .ok (.ishr, 1) := by decide +kernel
theorem d_Mo_holds_82 : decode c_Mo_holds 82 = .ok (.iconst 1, 1) := by decide +kernel
theorem d_Mo_holds_83 : decode c_Mo_holds 83 = .ok (.iand, 1) := by decide +kernel
theorem d_Mo_holds_84 : decode c_Mo_holds 84 = .ok (.iconst 1, 1) := by decide +kernel
theorem d_Mo_holds_85 : decode c_Mo_holds 85 = .ok (.if_icmp .ne 7, 3) := by decide +kernel
theorem d_Mo_holds_88 : decode c_Mo_holds 88 = .ok (.iconst 1, 1) := by decide +kernel
theorem d_Mo_holds_89 : decode c_Mo_holds 89 = .ok (.goto 4, 3) := by decide +kernel
theorem d_Mo_holds_92 : decode c_Mo_holds 92 = .ok (.iconst 0, 1) := by decide +kernel
theorem d_Mo_holds_93 : decode c_Mo_holds 93 = .ok (.istore 5, 2) := by decide +kernel
theorem d_Mo_holds_95 : decode c_Mo_holds 95 = .ok (.iload 4, 2) := by decide +kernel
theorem d_Mo_holds_97 : decode c_Mo_holds 97 = .ok (.ifCond .eq 8, 3) := by decide +kernel
theorem d_Mo_holds_100 : decode c_Mo_holds 100 = .ok (.iload 5, 2) := by decide +kernel
theorem d_Mo_holds_102 : decode c_Mo_holds 102 = .ok (.ifCond .ne 5, 3) := by decide +kernel
theorem d_Mo_holds_105 : decode c_Mo_holds 105 = .ok (.iconst 0, 1) := by decide +kernel
theorem d_Mo_holds_106 : decode c_Mo_holds 106 = .ok (.ireturn, 1) := by decide +kernel
theorem d_Mo_holds_107 : decode c_Mo_holds 107 = .ok (.aload_n 0, 1) := by decide +kernel
theorem d_Mo_holds_108 : decode c_Mo_holds 108 = .ok (.getfield 49, 3) := by decide +kernel
theorem d_Mo_holds_111 : decode c_Mo_holds 111 = .ok (.iload_n 3, 1) := by decide +kernel
theorem d_Mo_holds_112 : decode c_Mo_holds 112 = .ok (.iaload, 1) := by decide +kernel
theorem d_Mo_holds_113 : decode c_Mo_holds 113 = .ok (.ifCond .ge 12, 3) := by decide +kernel
theorem d_Mo_holds_116 : decode c_Mo_holds 116 = .ok (.aload_n 0, 1) := by decide +kernel
theorem d_Mo_holds_117 : decode c_Mo_holds 117 = .ok (.getfield 52, 3) := by decide +kernel
theorem d_Mo_holds_120 : decode c_Mo_holds 120 = .ok (.iload_n 3, 1) := by decide +kernel
theorem d_Mo_holds_121 : decode c_Mo_holds 121 = .ok (.laload, 1) := by decide +kernel
theorem d_Mo_holds_122 : decode c_Mo_holds 122 = .ok (.goto 19, 3) := by decide +kernel
theorem d_Mo_holds_125 : decode c_Mo_holds 125 = .ok (.aload_n 0, 1) := by decide +kernel
theorem d_Mo_holds_126 : decode c_Mo_holds 126 = .ok (.getfield 70, 3) := by decide +kernel
theorem d_Mo_holds_129 : decode c_Mo_holds 129 = .ok (.bipush 6, 2) := by decide +kernel
theorem d_Mo_holds_131 : decode c_Mo_holds 131 = .ok (.iload_n 2, 1) := by decide +kernel
theorem d_Mo_holds_132 : decode c_Mo_holds 132 = .ok (.imul, 1) := by decide +kernel
theorem d_Mo_holds_133 : decode c_Mo_holds 133 = .ok (.aload_n 0, 1) := by decide +kernel
theorem d_Mo_holds_134 : decode c_Mo_holds 134 = .ok (.getfield 49, 3) := by decide +kernel
theorem d_Mo_holds_137 : decode c_Mo_holds 137 = .ok (.iload_n 3, 1) := by decide +kernel
theorem d_Mo_holds_138 : decode c_Mo_holds 138 = .ok (.iaload, 1) := by decide +kernel
theorem d_Mo_holds_139 : decode c_Mo_holds 139 = .ok (.iadd, 1) := by decide +kernel
theorem d_Mo_holds_140 : decode c_Mo_holds 140 = .ok (.laload, 1) := by decide +kernel
theorem d_Mo_holds_141 : decode c_Mo_holds 141 = .ok (.aload_n 0, 1) := by decide +kernel
theorem d_Mo_holds_142 : decode c_Mo_holds 142 = .ok (.getfield 49, 3) := by decide +kernel
theorem d_Mo_holds_145 : decode c_Mo_holds 145 = .ok (.iload_n 3, 1) := by decide +kernel
theorem d_Mo_holds_146 : decode c_Mo_holds 146 = .ok (.iconst 1, 1) := by decide +kernel
theorem d_Mo_holds_147 : decode c_Mo_holds 147 = .ok (.iadd, 1) := by decide +kernel
theorem d_Mo_holds_148 : decode c_Mo_holds 148 = .ok (.iaload, 1) := by decide +kernel
theorem d_Mo_holds_149 : decode c_Mo_holds 149 = .ok (.ifCond .ge 14, 3) := by decide +kernel
theorem d_Mo_holds_152 : decode c_Mo_holds 152 = .ok (.aload_n 0, 1) := by decide +kernel
theorem d_Mo_holds_153 : decode c_Mo_holds 153 = .ok (.getfield 52, 3) := by decide +kernel
theorem d_Mo_holds_156 : decode c_Mo_holds 156 = .ok (.iload_n 3, 1) := by decide +kernel
theorem d_Mo_holds_157 : decode c_Mo_holds 157 = .ok (.iconst 1, 1) := by decide +kernel
theorem d_Mo_holds_158 : decode c_Mo_holds 158 = .ok (.iadd, 1) := by decide +kernel
theorem d_Mo_holds_159 : decode c_Mo_holds 159 = .ok (.laload, 1) := by decide +kernel
theorem d_Mo_holds_160 : decode c_Mo_holds 160 = .ok (.goto 21, 3) := by decide +kernel
theorem d_Mo_holds_163 : decode c_Mo_holds 163 = .ok (.aload_n 0, 1) := by decide +kernel
theorem d_Mo_holds_164 : decode c_Mo_holds 164 = .ok (.getfield 70, 3) := by decide +kernel
theorem d_Mo_holds_167 : decode c_Mo_holds 167 = .ok (.bipush 6, 2) := by decide +kernel
theorem d_Mo_holds_169 : decode c_Mo_holds 169 = .ok (.iload_n 2, 1) := by decide +kernel
theorem d_Mo_holds_170 : decode c_Mo_holds 170 = .ok (.imul, 1) := by decide +kernel
theorem d_Mo_holds_171 : decode c_Mo_holds 171 = .ok (.aload_n 0, 1) := by decide +kernel
theorem d_Mo_holds_172 : decode c_Mo_holds 172 = .ok (.getfield 49, 3) := by decide +kernel
theorem d_Mo_holds_175 : decode c_Mo_holds 175 = .ok (.iload_n 3, 1) := by decide +kernel
theorem d_Mo_holds_176 : decode c_Mo_holds 176 = .ok (.iconst 1, 1) := by decide +kernel
theorem d_Mo_holds_177 : decode c_Mo_holds 177 = .ok (.iadd, 1) := by decide +kernel
theorem d_Mo_holds_178 : decode c_Mo_holds 178 = .ok (.iaload, 1) := by decide +kernel
theorem d_Mo_holds_179 : decode c_Mo_holds 179 = .ok (.iadd, 1) := by decide +kernel
theorem d_Mo_holds_180 : decode c_Mo_holds 180 = .ok (.laload, 1) := by decide +kernel
theorem d_Mo_holds_181 : decode c_Mo_holds 181 = .ok (.invokestatic 332, 3) := by decide +kernel
theorem d_Mo_holds_184 : decode c_Mo_holds 184 = .ok (.istore 6, 2) := by decide +kernel
theorem d_Mo_holds_186 : decode c_Mo_holds 186 = .ok (.aload_n 0, 1) := by decide +kernel
theorem d_Mo_holds_187 : decode c_Mo_holds 187 = .ok (.getfield 58, 3) := by decide +kernel
theorem d_Mo_holds_190 : decode c_Mo_holds 190 = .ok (.iload_n 1, 1) := by decide +kernel
theorem d_Mo_holds_191 : decode c_Mo_holds 191 = .ok (.iaload, 1) := by decide +kernel
theorem d_Mo_holds_192 : decode c_Mo_holds 192 = .ok (.bipush 61, 2) := by decide +kernel
theorem d_Mo_holds_194 : decode c_Mo_holds 194 = .ok (.if_icmp .ne 16, 3) := by decide +kernel
theorem d_Mo_holds_197 : decode c_Mo_holds 197 = .ok (.iload 6, 2) := by decide +kernel
theorem d_Mo_holds_199 : decode c_Mo_holds 199 = .ok (.ifCond .ne 7, 3) := by decide +kernel
theorem d_Mo_holds_202 : decode c_Mo_holds 202 = .ok (.iconst 1, 1) := by decide +kernel
theorem d_Mo_holds_203 : decode c_Mo_holds 203 = .ok (.goto 65, 3) := by decide +kernel
theorem d_Mo_holds_206 : decode c_Mo_holds 206 = .ok (.iconst 0, 1) := by decide +kernel
theorem d_Mo_holds_207 : decode c_Mo_holds 207 = .ok (.goto 61, 3) := by decide +kernel
theorem d_Mo_holds_210 : decode c_Mo_holds 210 = .ok (.aload_n 0, 1) := by decide +kernel
theorem d_Mo_holds_211 : decode c_Mo_holds 211 = .ok (.getfield 58, 3) := by decide +kernel
theorem d_Mo_holds_214 : decode c_Mo_holds 214 = .ok (.iload_n 1, 1) := by decide +kernel
theorem d_Mo_holds_215 : decode c_Mo_holds 215 = .ok (.iaload, 1) := by decide +kernel
theorem d_Mo_holds_216 : decode c_Mo_holds 216 = .ok (.bipush 33, 2) := by decide +kernel
theorem d_Mo_holds_218 : decode c_Mo_holds 218 = .ok (.if_icmp .ne 16, 3) := by decide +kernel
theorem d_Mo_holds_221 : decode c_Mo_holds 221 = .ok (.iload 6, 2) := by decide +kernel
theorem d_Mo_holds_223 : decode c_Mo_holds 223 = .ok (.ifCond .eq 7, 3) := by decide +kernel
theorem d_Mo_holds_226 : decode c_Mo_holds 226 = .ok (.iconst 1, 1) := by decide +kernel
theorem d_Mo_holds_227 : decode c_Mo_holds 227 = .ok (.goto 41, 3) := by decide +kernel
theorem d_Mo_holds_230 : decode c_Mo_holds 230 = .ok (.iconst 0, 1) := by decide +kernel
theorem d_Mo_holds_231 : decode c_Mo_holds 231 = .ok (.goto 37, 3) := by decide +kernel
theorem d_Mo_holds_234 : decode c_Mo_holds 234 = .ok (.aload_n 0, 1) := by decide +kernel
theorem d_Mo_holds_235 : decode c_Mo_holds 235 = .ok (.getfield 58, 3) := by decide +kernel
theorem d_Mo_holds_238 : decode c_Mo_holds 238 = .ok (.iload_n 1, 1) := by decide +kernel
theorem d_Mo_holds_239 : decode c_Mo_holds 239 = .ok (.iaload, 1) := by decide +kernel
theorem d_Mo_holds_240 : decode c_Mo_holds 240 = .ok (.bipush 60, 2) := by decide +kernel
theorem d_Mo_holds_242 : decode c_Mo_holds 242 = .ok (.if_icmp .ne 16, 3) := by decide +kernel
theorem d_Mo_holds_245 : decode c_Mo_holds 245 = .ok (.iload 6, 2) := by decide +kernel
theorem d_Mo_holds_247 : decode c_Mo_holds 247 = .ok (.ifCond .ge 7, 3) := by decide +kernel
theorem d_Mo_holds_250 : decode c_Mo_holds 250 = .ok (.iconst 1, 1) := by decide +kernel
theorem d_Mo_holds_251 : decode c_Mo_holds 251 = .ok (.goto 17, 3) := by decide +kernel
theorem d_Mo_holds_254 : decode c_Mo_holds 254 = .ok (.iconst 0, 1) := by decide +kernel
theorem d_Mo_holds_255 : decode c_Mo_holds 255 = .ok (.goto 13, 3) := by decide +kernel
theorem d_Mo_holds_258 : decode c_Mo_holds 258 = .ok (.iload 6, 2) := by decide +kernel
theorem d_Mo_holds_260 : decode c_Mo_holds 260 = .ok (.ifCond .le 7, 3) := by decide +kernel
theorem d_Mo_holds_263 : decode c_Mo_holds 263 = .ok (.iconst 1, 1) := by decide +kernel
theorem d_Mo_holds_264 : decode c_Mo_holds 264 = .ok (.goto 4, 3) := by decide +kernel
theorem d_Mo_holds_267 : decode c_Mo_holds 267 = .ok (.iconst 0, 1) := by decide +kernel
theorem d_Mo_holds_268 : decode c_Mo_holds 268 = .ok (.ireturn, 1) := by decide +kernel
theorem d_Mo_filter_0 : decode c_Mo_filter 0 = .ok (.aload_n 0, 1) := by decide +kernel
theorem d_Mo_filter_1 : decode c_Mo_filter 1 = .ok (.getfield 318, 3) := by decide +kernel
theorem d_Mo_filter_4 : decode c_Mo_filter 4 = .ok (.iconst 1, 1) := by decide +kernel
theorem d_Mo_filter_5 : decode c_Mo_filter 5 = .ok (.isub, 1) := by decide +kernel
theorem d_Mo_filter_6 : decode c_Mo_filter 6 = .ok (.istore_n 2, 1) := by decide +kernel
theorem d_Mo_filter_7 : decode c_Mo_filter 7 = .ok (.aload_n 0, 1) := by decide +kernel
theorem d_Mo_filter_8 : decode c_Mo_filter 8 = .ok (.getfield 76, 3) := by decide +kernel
theorem d_Mo_filter_11 : decode c_Mo_filter 11 = .ok (.bipush 10, 2) := by decide +kernel
theorem d_Mo_filter_13 : decode c_Mo_filter 13 = .ok (.iconst 0, 1) := by decide +kernel
theorem d_Mo_filter_14 : decode c_Mo_filter 14 = .ok (.iastore, 1) := by decide +kernel
theorem d_Mo_filter_15 : decode c_Mo_filter 15 = .ok (.iconst 0, 1) := by decide +kernel
theorem d_Mo_filter_16 : decode c_Mo_filter 16 = .ok (.istore_n 3, 1) := by decide +kernel
theorem d_Mo_filter_17 : decode c_Mo_filter 17 = .ok (.iload_n 3, 1) := by decide +kernel
theorem d_Mo_filter_18 : decode c_Mo_filter 18 = .ok (.aload_n 0, 1) := by decide +kernel
theorem d_Mo_filter_19 : decode c_Mo_filter 19 = .ok (.getfield 76, 3) := by decide +kernel
theorem d_Mo_filter_22 : decode c_Mo_filter 22 = .ok (.iload_n 2, 1) := by decide +kernel
theorem d_Mo_filter_23 : decode c_Mo_filter 23 = .ok (.iaload, 1) := by decide +kernel
theorem d_Mo_filter_24 : decode c_Mo_filter 24 = .ok (.if_icmp .ge 80, 3) := by decide +kernel
theorem d_Mo_filter_27 : decode c_Mo_filter 27 = .ok (.iconst 1, 1) := by decide +kernel
theorem d_Mo_filter_28 : decode c_Mo_filter 28 = .ok (.istore 4, 2) := by decide +kernel
theorem d_Mo_filter_30 : decode c_Mo_filter 30 = .ok (.iconst 0, 1) := by decide +kernel
theorem d_Mo_filter_31 : decode c_Mo_filter 31 = .ok (.istore 5, 2) := by decide +kernel
theorem d_Mo_filter_33 : decode c_Mo_filter 33 = .ok (.iload 5, 2) := by decide +kernel
theorem d_Mo_filter_35 : decode c_Mo_filter 35 = .ok (.aload_n 0, 1) := by decide +kernel
theorem d_Mo_filter_36 : decode c_Mo_filter 36 = .ok (.getfield 247, 3) := by decide +kernel
theorem d_Mo_filter_39 : decode c_Mo_filter 39 = .ok (.if_icmp .ge 46, 3) := by decide +kernel
theorem d_Mo_filter_42 : decode c_Mo_filter 42 = .ok (.aload_n 0, 1) := by decide +kernel
theorem d_Mo_filter_43 : decode c_Mo_filter 43 = .ok (.getfield 55, 3) := by decide +kernel
theorem d_Mo_filter_46 : decode c_Mo_filter 46 = .ok (.iload 5, 2) := by decide +kernel
theorem d_Mo_filter_48 : decode c_Mo_filter 48 = .ok (.iaload, 1) := by decide +kernel
theorem d_Mo_filter_49 : decode c_Mo_filter 49 = .ok (.iload_n 1, 1) := by decide +kernel
theorem d_Mo_filter_50 : decode c_Mo_filter 50 = .ok (.if_icmp .ne 29, 3) := by decide +kernel
theorem d_Mo_filter_53 : decode c_Mo_filter 53 = .ok (.aload_n 0, 1) := by decide +kernel
theorem d_Mo_filter_54 : decode c_Mo_filter 54 = .ok (.iload 5, 2) := by decide +kernel
theorem d_Mo_filter_56 : decode c_Mo_filter 56 = .ok (.sipush 150, 3) := by decide +kernel
theorem d_Mo_filter_59 : decode c_Mo_filter 59 = .ok (.iload_n 2, 1) := by decide +kernel
theorem d_Mo_filter_60 : decode c_Mo_filter 60 = .ok (.imul, 1) := by decide +kernel
theorem d_Mo_filter_61 : decode c_Mo_filter 61 = .ok (.iload_n 3, 1) := by decide +kernel
theorem d_Mo_filter_62 : decode c_Mo_filter 62 = .ok (.iadd, 1) := by decide +kernel
theorem d_Mo_filter_63 : decode c_Mo_filter 63 = .ok (.invokevirtual 336, 3) := by decide +kernel
theorem d_Mo_filter_66 : decode c_Mo_filter 66 = .ok (.aload_n 0, 1) := by decide +kernel
theorem d_Mo_filter_67 : decode c_Mo_filter 67 = .ok (.getfield 61, 3) := by decide +kernel
theorem d_Mo_filter_70 : decode c_Mo_filter 70 = .ok (.iload 5, 2) := by decide +kernel
theorem d_Mo_filter_72 : decode c_Mo_filter 72 = .ok (.baload, 1) := by decide +kernel
theorem d_Mo_filter_73 : decode c_Mo_filter 73 = .ok (.if_icmp .ne 6, 3) := by decide +kernel
theorem d_Mo_filter_76 : decode c_Mo_filter 76 = .ok (.iconst 0, 1) := by decide +kernel
theorem d_Mo_filter_77 : decode c_Mo_filter 77 = .ok (.istore 4, 2) := by decide +kernel
theorem d_Mo_filter_79 : decode c_Mo_filter 79 = .ok (.iinc 5 1, 3) := by decide +kernel
theorem d_Mo_filter_82 : decode c_Mo_filter 82 = .ok (.goto (-49), 3) := by decide +kernel
theorem d_Mo_filter_85 : decode c_Mo_filter 85 = .ok (.iload 4, 2) := by decide +kernel
theorem d_Mo_filter_87 : decode c_Mo_filter 87 = .ok (.ifCond .eq 11, 3) := by decide +kernel
theorem d_Mo_filter_90 : decode c_Mo_filter 90 = .ok (.aload_n 0, 1) := by decide +kernel
theorem d_Mo_filter_91 : decode c_Mo_filter 91 = .ok (.bipush 10, 2) := by decide +kernel
theorem d_Mo_filter_93 : decode c_Mo_filter 93 = .ok (.iload_n 2, 1) := by decide +kernel
theorem d_Mo_filter_94 : decode c_Mo_filter 94 = .ok (.iload_n 3, 1) := by decide +kernel
theorem d_Mo_filter_95 : decode c_Mo_filter 95 = .ok (.invokevirtual 314, 3) := by decide +kernel
theorem d_Mo_filter_98 : decode c_Mo_filter 98 = .ok (.iinc 3 1, 3) := by decide +kernel
theorem d_Mo_filter_101 : decode c_Mo_filter 101 = .ok (.goto (-84), 3) := by decide +kernel
theorem d_Mo_filter_104 : decode c_Mo_filter 104 = .ok (.aload_n 0, 1) := by decide +kernel
theorem d_Mo_filter_105 : decode c_Mo_filter 105 = .ok (.bipush 10, 2) := by decide +kernel
theorem d_Mo_filter_107 : decode c_Mo_filter 107 = .ok (.iload_n 2, 1) := by decide +kernel
theorem d_Mo_filter_108 : decode c_Mo_filter 108 = .ok (.invokevirtual 329, 3) := by decide +kernel
theorem d_Mo_filter_111 : decode c_Mo_filter 111 = .ok (.return_, 1) := by decide +kernel
theorem d_Mo_work_0 : decode c_Mo_work 0 = .ok (.iload_n 1, 1) := by decide +kernel
theorem d_Mo_work_1 : decode c_Mo_work 1 = .ok (.iconst 1, 1) := by decide +kernel
theorem d_Mo_work_2 : decode c_Mo_work 2 = .ok (.if_icmp .eq 9, 3) := by decide +kernel
theorem d_Mo_work_5 : decode c_Mo_work 5 = .ok (.iload_n 1, 1) := by decide +kernel
theorem d_Mo_work_6 : decode c_Mo_work 6 = .ok (.bipush 6, 2) := by decide +kernel
theorem d_Mo_work_8 : decode c_Mo_work 8 = .ok (.if_icmp .ne 49, 3) := by decide +kernel
theorem d_Mo_work_11 : decode c_Mo_work 11 = .ok (.aload_n 0, 1) := by decide +kernel
theorem d_Mo_work_12 : decode c_Mo_work 12 = .ok (.getfield 76, 3) := by decide +kernel
theorem d_Mo_work_15 : decode c_Mo_work 15 = .ok (.aload_n 0, 1) := by decide +kernel
theorem d_Mo_work_16 : decode c_Mo_work 16 = .ok (.getfield 318, 3) := by decide +kernel
theorem d_Mo_work_19 : decode c_Mo_work 19 = .ok (.iload_n 1, 1) := by decide +kernel
theorem d_Mo_work_20 : decode c_Mo_work 20 = .ok (.iconst 1, 1) := by decide +kernel
theorem d_Mo_work_21 : decode c_Mo_work 21 = .ok (.if_icmp .ne 7, 3) := by decide +kernel
theorem d_Mo_work_24 : decode c_Mo_work 24 = .ok (.iconst 1, 1) := by decide +kernel
theorem d_Mo_work_25 : decode c_Mo_work 25 = .ok (.goto 4, 3) := by decide +kernel
theorem d_Mo_work_28 : decode c_Mo_work 28 = .ok (.iconst 0, 1) := by decide +kernel
theorem d_Mo_work_29 : decode c_Mo_work 29 = .ok (.iastore, 1) := by decide +kernel
theorem d_Mo_work_30 : decode c_Mo_work 30 = .ok (.aload_n 0, 1) := by decide +kernel
theorem d_Mo_work_31 : decode c_Mo_work 31 = .ok (.getfield 73, 3) := by decide +kernel
theorem d_Mo_work_34 : decode c_Mo_work 34 = .ok (.sipush 150, 3) := by decide +kernel
theorem d_Mo_work_37 : decode c_Mo_work 37 = .ok (.aload_n 0, 1) := by decide +kernel
theorem d_Mo_work_38 : decode c_Mo_work 38 = .ok (.getfield 318, 3) := by decide +kernel
theorem d_Mo_work_41 : decode c_Mo_work 41 = .ok (.imul, 1) := by decide +kernel
theorem d_Mo_work_42 : decode c_Mo_work 42 = .ok (.iconst 0, 1) := by decide +kernel
theorem d_Mo_work_43 : decode c_Mo_work 43 = .ok (.iastore, 1) := by decide +kernel
theorem d_Mo_work_44 : decode c_Mo_work 44 = .ok (.aload_n 0, 1) := by decide +kernel
theorem d_Mo_work_45 : decode c_Mo_work 45 = .ok (.dup, 1) := by decide +kernel
theorem d_Mo_work_46 : decode c_Mo_work 46 = .ok (.getfield 318, 3) := by decide +kernel
theorem d_Mo_work_49 : decode c_Mo_work 49 = .ok (.iconst 1, 1) := by decide +kernel
theorem d_Mo_work_50 : decode c_Mo_work 50 = .ok (.iadd, 1) := by decide +kernel
theorem d_Mo_work_51 : decode c_Mo_work 51 = .ok (.putfield 318, 3) := by decide +kernel
theorem d_Mo_work_54 : decode c_Mo_work 54 = .ok (.goto 120, 3) := by decide +kernel
theorem d_Mo_work_57 : decode c_Mo_work 57 = .ok (.iload_n 1, 1) := by decide +kernel
theorem d_Mo_work_58 : decode c_Mo_work 58 = .ok (.iconst 2, 1) := by decide +kernel
theorem d_Mo_work_59 : decode c_Mo_work 59 = .ok (.if_icmp .ne 16, 3) := by decide +kernel
theorem d_Mo_work_62 : decode c_Mo_work 62 = .ok (.aload_n 0, 1) := by decide +kernel
theorem d_Mo_work_63 : decode c_Mo_work 63 = .ok (.iload_n 2, 1) := by decide +kernel
theorem d_Mo_work_64 : decode c_Mo_work 64 = .ok (.invokevirtual 338, 3) := by decide +kernel
theorem d_Mo_work_67 : decode c_Mo_work 67 = .ok (.aload_n 0, 1) := by decide +kernel
theorem d_Mo_work_68 : decode c_Mo_work 68 = .ok (.iconst 0, 1) := by decide +kernel
theorem d_Mo_work_69 : decode c_Mo_work 69 = .ok (.invokevirtual 341, 3) := by decide +kernel
theorem d_Mo_work_72 : decode c_Mo_work 72 = .ok (.goto 102, 3) := by decide +kernel
theorem d_Mo_work_75 : decode c_Mo_work 75 = .ok (.iload_n 1, 1) := by decide +kernel
theorem d_Mo_work_76 : decode c_Mo_work 76 = .ok (.iconst 3, 1) := by decide +kernel
theorem d_Mo_work_77 : decode c_Mo_work 77 = .ok (.if_icmp .ne 11, 3) := by decide +kernel
theorem d_Mo_work_80 : decode c_Mo_work 80 = .ok (.aload_n 0, 1) := by decide +kernel
theorem d_Mo_work_81 : decode c_Mo_work 81 = .ok (.iload_n 2, 1) := by decide +kernel
theorem d_Mo_work_82 : decode c_Mo_work 82 = .ok (.invokevirtual 344, 3) := by decide +kernel
theorem d_Mo_work_85 : decode c_Mo_work 85 = .ok (.goto 89, 3) := by decide +kernel
theorem d_Mo_work_88 : decode c_Mo_work 88 = .ok (.iload_n 1, 1) := by decide +kernel
theorem d_Mo_work_89 : decode c_Mo_work 89 = .ok (.iconst 4, 1) := by decide +kernel
theorem d_Mo_work_90 : decode c_Mo_work 90 = .ok (.if_icmp .ne 11, 3) := by decide +kernel
theorem d_Mo_work_93 : decode c_Mo_work 93 = .ok (.aload_n 0, 1) := by decide +kernel
theorem d_Mo_work_94 : decode c_Mo_work 94 = .ok (.iconst 1, 1) := by decide +kernel
theorem d_Mo_work_95 : decode c_Mo_work 95 = .ok (.invokevirtual 341, 3) := by decide +kernel
theorem d_Mo_work_98 : decode c_Mo_work 98 = .ok (.goto 76, 3) := by decide +kernel
theorem d_Mo_work_101 : decode c_Mo_work 101 = .ok (.iload_n 1, 1) := by decide +kernel
theorem d_Mo_work_102 : decode c_Mo_work 102 = .ok (.iconst 5, 1) := by decide +kernel
theorem d_Mo_work_103 : decode c_Mo_work 103 = .ok (.if_icmp .ne 11, 3) := by decide +kernel
theorem d_Mo_work_106 : decode c_Mo_work 106 = .ok (.aload_n 0, 1) := by decide +kernel
theorem d_Mo_work_107 : decode c_Mo_work 107 = .ok (.iconst 2, 1) := by decide +kernel
theorem d_Mo_work_108 : decode c_Mo_work 108 = .ok (.invokevirtual 341, 3) := by decide +kernel
theorem d_Mo_work_111 : decode c_Mo_work 111 = .ok (.goto 63, 3) := by decide +kernel
theorem d_Mo_work_114 : decode c_Mo_work 114 = .ok (.iload_n 1, 1) := by decide +kernel
theorem d_Mo_work_115 : decode c_Mo_work 115 = .ok (.bipush 8, 2) := by decide +kernel
theorem d_Mo_work_117 : decode c_Mo_work 117 = .ok (.if_icmp .ne 11, 3) := by decide +kernel
theorem d_Mo_work_120 : decode c_Mo_work 120 = .ok (.aload_n 0, 1) := by decide +kernel
theorem d_Mo_work_121 : decode c_Mo_work 121 = .ok (.iconst 0, 1) := by decide +kernel
theorem d_Mo_work_122 : decode c_Mo_work 122 = .ok (.invokevirtual 341, 3) := by decide +kernel
theorem d_Mo_work_125 : decode c_Mo_work 125 = .ok (.goto 49, 3) := by decide +kernel
theorem d_Mo_work_128 : decode c_Mo_work 128 = .ok (.aload_n 0, 1) := by decide +kernel
theorem d_Mo_work_129 : decode c_Mo_work 129 = .ok (.dup, 1) := by decide +kernel
theorem d_Mo_work_130 : decode c_Mo_work 130 = .ok (.getfield 318, 3) := by decide +kernel
theorem d_Mo_work_133 : decode c_Mo_work 133 = .ok (.iconst 1, 1) := by decide +kernel
theorem d_Mo_work_134 : decode c_Mo_work 134 = .ok (.isub, 1) := by decide +kernel
theorem d_Mo_work_135 : decode c_Mo_work 135 = .ok (.putfield 318, 3) := by decide +kernel
theorem d_Mo_work_138 : decode c_Mo_work 138 = .ok (.iconst 0, 1) := by decide +kernel
theorem d_Mo_work_139 : decode c_Mo_work 139 = .ok (.istore_n 3, 1) := by decide +kernel
theorem d_Mo_work_140 : decode c_Mo_work 140 = .ok (.iload_n 3, 1) := by decide +kernel
theorem d_Mo_work_141 : decode c_Mo_work 141 = .ok (.aload_n 0, 1) := by decide +kernel
theorem d_Mo_work_142 : decode c_Mo_work 142 = .ok (.getfield 76, 3) := by decide +kernel
theorem d_Mo_work_145 : decode c_Mo_work 145 = .ok (.aload_n 0, 1) := by decide +kernel
theorem d_Mo_work_146 : decode c_Mo_work 146 = .ok (.getfield 318, 3) := by decide +kernel
theorem d_Mo_work_149 : decode c_Mo_work 149 = .ok (.iaload, 1) := by decide +kernel
theorem d_Mo_work_150 : decode c_Mo_work 150 = .ok (.if_icmp .ge 24, 3) := by decide +kernel
theorem d_Mo_work_153 : decode c_Mo_work 153 = .ok (.aload_n 0, 1) := by decide +kernel
theorem d_Mo_work_154 : decode c_Mo_work 154 = .ok (.aload_n 0, 1) := by decide +kernel
theorem d_Mo_work_155 : decode c_Mo_work 155 = .ok (.getfield 318, 3) := by decide +kernel
theorem d_Mo_work_158 : decode c_Mo_work 158 = .ok (.iconst 1, 1) := by decide +kernel
theorem d_Mo_work_159 : decode c_Mo_work 159 = .ok (.isub, 1) := by decide +kernel
theorem d_Mo_work_160 : decode c_Mo_work 160 = .ok (.aload_n 0, 1) := by decide +kernel
theorem d_Mo_work_161 : decode c_Mo_work 161 = .ok (.getfield 318, 3) := by decide +kernel
theorem d_Mo_work_164 : decode c_Mo_work 164 = .ok (.iload_n 3, 1) := by decide +kernel
theorem d_Mo_work_165 : decode c_Mo_work 165 = .ok (.invokevirtual 314, 3) := by decide +kernel
theorem d_Mo_work_168 : decode c_Mo_work 168 = .ok (.iinc 3 1, 3) := by decide +kernel
theorem d_Mo_work_171 : decode c_Mo_work 171 = .ok (.goto (-31), 3) := by decide +kernel
theorem d_Mo_work_174 : decode c_Mo_work 174 = .ok (.return_, 1) := by decide +kernel
theorem d_Mo_by_0 : decode c_Mo_by 0 = .ok (.aload_n 0, 1) := by decide +kernel
theorem d_Mo_by_1 : decode c_Mo_by 1 = .ok (.getfield 73, 3) := by decide +kernel
theorem d_Mo_by_4 : decode c_Mo_by 4 = .ok (.iload_n 2, 1) := by decide +kernel
theorem d_Mo_by_5 : decode c_Mo_by 5 = .ok (.iaload, 1) := by decide +kernel
theorem d_Mo_by_6 : decode c_Mo_by 6 = .ok (.iload_n 1, 1) := by decide +kernel
theorem d_Mo_by_7 : decode c_Mo_by 7 = .ok (.ishr, 1) := by decide +kernel
theorem d_Mo_by_8 : decode c_Mo_by 8 = .ok (.iconst 1, 1) := by decide +kernel
theorem d_Mo_by_9 : decode c_Mo_by 9 = .ok (.iand, 1) := by decide +kernel
theorem d_Mo_by_10 : decode c_Mo_by 10 = .ok (.iconst 1, 1) := by decide +kernel
theorem d_Mo_by_11 : decode c_Mo_by 11 = .ok (.if_icmp .ne 7, 3) := by decide +kernel
theorem d_Mo_by_14 : decode c_Mo_by 14 = .ok (.iconst 1, 1) := by decide +kernel
theorem d_Mo_by_15 : decode c_Mo_by 15 = .ok (.goto 4, 3) := by decide +kernel
theorem d_Mo_by_18 : decode c_Mo_by 18 = .ok (.iconst 0, 1) := by decide +kernel
theorem d_Mo_by_19 : decode c_Mo_by 19 = .ok (.istore 4, 2) := by decide +kernel
theorem d_Mo_by_21 : decode c_Mo_by 21 = .ok (.aload_n 0, 1) := by decide +kernel
theorem d_Mo_by_22 : decode c_Mo_by 22 = .ok (.getfield 73, 3) := by decide +kernel
theorem d_Mo_by_25 : decode c_Mo_by 25 = .ok (.iload_n 3, 1) := by decide +kernel
theorem d_Mo_by_26 : decode c_Mo_by 26 = .ok (.iaload, 1) := by decide +kernel
theorem d_Mo_by_27 : decode c_Mo_by 27 = .ok (.iload_n 1, 1) := by decide +kernel
theorem d_Mo_by_28 : decode c_Mo_by 28 = .ok (.ishr, 1) := by decide +kernel
theorem d_Mo_by_29 : decode c_Mo_by 29 = .ok (.iconst 1, 1) := by decide +kernel
theorem d_Mo_by_30 : decode c_Mo_by 30 = .ok (.iand, 1) := by decide +kernel
theorem d_Mo_by_31 : decode c_Mo_by 31 = .ok (.iconst 1, 1) := by decide +kernel
theorem d_Mo_by_32 : decode c_Mo_by 32 = .ok (.if_icmp .ne 7, 3) := by decide +kernel
theorem d_Mo_by_35 : decode c_Mo_by 35 = .ok (.iconst 1, 1) := by decide +kernel
theorem d_Mo_by_36 : decode c_Mo_by 36 = .ok (.goto 4, 3) := by decide +kernel
theorem d_Mo_by_39 : decode c_Mo_by 39 = .ok (.iconst 0, 1) := by decide +kernel
theorem d_Mo_by_40 : decode c_Mo_by 40 = .ok (.istore 5, 2) := by decide +kernel
theorem d_Mo_by_42 : decode c_Mo_by 42 = .ok (.iload 4, 2) := by decide +kernel
theorem d_Mo_by_44 : decode c_Mo_by 44 = .ok (.ifCond .eq 8, 3) := by decide +kernel
theorem d_Mo_by_47 : decode c_Mo_by 47 = .ok (.iload 5, 2) := by decide +kernel
theorem d_Mo_by_49 : decode c_Mo_by 49 = .ok (.ifCond .ne 27, 3) := by decide +kernel
theorem d_Mo_by_52 : decode c_Mo_by 52 = .ok (.iload 4, 2) := by decide +kernel
theorem d_Mo_by_54 : decode c_Mo_by 54 = .ok (.ifCond .eq 7, 3) := by decide +kernel
theorem d_Mo_by_57 : decode c_Mo_by 57 = .ok (.iconst 1, 1) := by decide +kernel
theorem d_Mo_by_58 : decode c_Mo_by 58 = .ok (.goto 4, 3) := by decide +kernel
theorem d_Mo_by_61 : decode c_Mo_by 61 = .ok (.iconst 0, 1) := by decide +kernel
theorem d_Mo_by_62 : decode c_Mo_by 62 = .ok (.iload 5, 2) := by decide +kernel
theorem d_Mo_by_64 : decode c_Mo_by 64 = .ok (.ifCond .eq 7, 3) := by decide +kernel
theorem d_Mo_by_67 : decode c_Mo_by 67 = .ok (.iconst 1, 1) := by decide +kernel
theorem d_Mo_by_68 : decode c_Mo_by 68 = .ok (.goto 4, 3) := by decide +kernel
theorem d_Mo_by_71 : decode c_Mo_by 71 = .ok (.iconst 0, 1) := by decide +kernel
theorem d_Mo_by_72 : decode c_Mo_by 72 = .ok (.isub, 1) := by decide +kernel
theorem d_Mo_by_73 : decode c_Mo_by 73 = .ok (.goto 28, 3) := by decide +kernel
theorem d_Mo_by_76 : decode c_Mo_by 76 = .ok (.aload_n 0, 1) := by decide +kernel
theorem d_Mo_by_77 : decode c_Mo_by 77 = .ok (.getfield 70, 3) := by decide +kernel
theorem d_Mo_by_80 : decode c_Mo_by 80 = .ok (.bipush 6, 2) := by decide +kernel
theorem d_Mo_by_82 : decode c_Mo_by 82 = .ok (.iload_n 2, 1) := by decide +kernel
theorem d_Mo_by_83 : decode c_Mo_by 83 = .ok (.imul, 1) := by decide +kernel
theorem d_Mo_by_84 : decode c_Mo_by 84 = .ok (.iload_n 1, 1) := by decide +kernel
theorem d_Mo_by_85 : decode c_Mo_by 85 = .ok (.iadd, 1) := by decide +kernel
theorem d_Mo_by_86 : decode c_Mo_by 86 = .ok (.laload, 1) := by decide +kernel
theorem d_Mo_by_87 : decode c_Mo_by 87 = .ok (.aload_n 0, 1) := by decide +kernel
theorem d_Mo_by_88 : decode c_Mo_by 88 = .ok (.getfield 70, 3) := by decide +kernel
theorem d_Mo_by_91 : decode c_Mo_by 91 = .ok (.bipush 6, 2) := by decide +kernel
theorem d_Mo_by_93 : decode c_Mo_by 93 = .ok (.iload_n 3, 1) := by decide +kernel
theorem d_Mo_by_94 : decode c_Mo_by 94 = .ok (.imul, 1) := by decide +kernel
theorem d_Mo_by_95 : decode c_Mo_by 95 = .ok (.iload_n 1, 1) := by decide +kernel
theorem d_Mo_by_96 : decode c_Mo_by 96 = .ok (.iadd, 1) := by decide +kernel
theorem d_Mo_by_97 : decode c_Mo_by 97 = .ok (.laload, 1) := by decide +kernel
theorem d_Mo_by_98 : decode c_Mo_by 98 = .ok (.invokestatic 332, 3) := by decide +kernel
theorem d_Mo_by_101 : decode c_Mo_by 101 = .ok (.ireturn, 1) := by decide +kernel
theorem d_Mo_byTerms_0 : decode c_Mo_byTerms 0 = .ok (.iconst 0, 1) := by decide +kernel
theorem d_Mo_byTerms_1 : decode c_Mo_byTerms 1 = .ok (.istore_n 3, 1) := by decide +kernel
theorem d_Mo_byTerms_2 : decode c_Mo_byTerms 2 = .ok (.iconst 0, 1) := by decide +kernel
theorem d_Mo_byTerms_3 : decode c_Mo_byTerms 3 = .ok (.istore 4, 2) := by decide +kernel
theorem d_Mo_byTerms_5 : decode c_Mo_byTerms 5 = .ok (.iload 4, 2) := by decide +kernel
theorem d_Mo_byTerms_7 : decode c_Mo_byTerms 7 = .ok (.aload_n 0, 1) := by decide +kernel
theorem d_Mo_byTerms_8 : decode c_Mo_byTerms 8 = .ok (.getfield 296, 3) := by decide +kernel
theorem d_Mo_byTerms_11 : decode c_Mo_byTerms 11 = .ok (.if_icmp .ge 27, 3) := by decide +kernel
theorem d_Mo_byTerms_14 : decode c_Mo_byTerms 14 = .ok (.iload_n 3, 1) := by decide +kernel
theorem d_Mo_byTerms_15 : decode c_Mo_byTerms 15 = .ok (.ifCond .ne 23, 3) := by decide +kernel
theorem d_Mo_byTerms_18 : decode c_Mo_byTerms 18 = .ok (.aload_n 0, 1) := by decide +kernel
theorem d_Mo_byTerms_19 : decode c_Mo_byTerms 19 = .ok (.aload_n 0, 1) := by decide +kernel
theorem d_Mo_byTerms_20 : decode c_Mo_byTerms 20 = .ok (.getfield 64, 3) := by decide +kernel
theorem d_Mo_byTerms_23 : decode c_Mo_byTerms 23 = .ok (.iload 4, 2) := by decide +kernel
theorem d_Mo_byTerms_25 : decode c_Mo_byTerms 25 = .ok (.iaload, 1) := by decide +kernel
theorem d_Mo_byTerms_26 : decode c_Mo_byTerms 26 = .ok (.iload_n 1, 1) := by decide +kernel
theorem d_Mo_byTerms_27 : decode c_Mo_byTerms 27 = .ok (.iload_n 2, 1) := by decide +kernel
theorem d_Mo_byTerms_28 : decode c_Mo_byTerms 28 = .ok (.invokevirtual 347, 3) := by decide +kernel
theorem d_Mo_byTerms_31 : decode c_Mo_byTerms 31 = .ok (.istore_n 3, 1) := by decide +kernel
theorem d_Mo_byTerms_32 : decode c_Mo_byTerms 32 = .ok (.iinc 4 1, 3) := by decide +kernel
theorem d_Mo_byTerms_35 : decode c_Mo_byTerms 35 = .ok (.goto (-30), 3) := by decide +kernel
theorem d_Mo_byTerms_38 : decode c_Mo_byTerms 38 = .ok (.iload_n 3, 1) := by decide +kernel
theorem d_Mo_byTerms_39 : decode c_Mo_byTerms 39 = .ok (.ireturn, 1) := by decide +kernel
theorem d_Mo_before_0 : decode c_Mo_before 0 = .ok (.aload_n 0, 1) := by decide +kernel
theorem d_Mo_before_1 : decode c_Mo_before 1 = .ok (.getfield 302, 3) := by decide +kernel
theorem d_Mo_before_4 : decode c_Mo_before 4 = .ok (.ifCond .ge 7, 3) := by decide +kernel
theorem d_Mo_before_7 : decode c_Mo_before 7 = .ok (.iconst 0, 1) := by decide +kernel
theorem d_Mo_before_8 : decode c_Mo_before 8 = .ok (.goto 13, 3) := by decide +kernel
theorem d_Mo_before_11 : decode c_Mo_before 11 = .ok (.aload_n 0, 1) := by decide +kernel
theorem d_Mo_before_12 : decode c_Mo_before 12 = .ok (.aload_n 0, 1) := by decide +kernel
theorem d_Mo_before_13 : decode c_Mo_before 13 = .ok (.getfield 302, 3) := by decide +kernel
theorem d_Mo_before_16 : decode c_Mo_before 16 = .ok (.iload_n 1, 1) := by decide +kernel
theorem d_Mo_before_17 : decode c_Mo_before 17 = .ok (.iload_n 2, 1) := by decide +kernel
theorem d_Mo_before_18 : decode c_Mo_before 18 = .ok (.invokevirtual 347, 3) := by decide +kernel
theorem d_Mo_before_21 : decode c_Mo_before 21 = .ok (.istore_n 3, 1) := by decide +kernel
theorem d_Mo_before_22 : decode c_Mo_before 22 = .ok (.aload_n 0, 1) := by decide +kernel
theorem d_Mo_before_23 : decode c_Mo_before 23 = .ok (.getfield 305, 3) := by decide +kernel
theorem d_Mo_before_26 : decode c_Mo_before 26 = .ok (.ifCond .eq 6, 3) := by decide +kernel
theorem d_Mo_before_29 : decode c_Mo_before 29 = .ok (.iload_n 3, 1) := by decide +kernel
theorem d_Mo_before_30 : decode c_Mo_before 30 = .ok (.ineg, 1) := by decide +kernel
theorem d_Mo_before_31 : decode c_Mo_before 31 = .ok (.istore_n 3, 1) := by decide +kernel
theorem d_Mo_before_32 : decode c_Mo_before 32 = .ok (.iload_n 3, 1) := by decide +kernel
theorem d_Mo_before_33 : decode c_Mo_before 33 = .ok (.ifCond .ne 10, 3) := by decide +kernel
theorem d_Mo_before_36 : decode c_Mo_before 36 = .ok (.aload_n 0, 1) := by decide +kernel
theorem d_Mo_before_37 : decode c_Mo_before 37 = .ok (.iload_n 1, 1) := by decide +kernel
theorem d_Mo_before_38 : decode c_Mo_before 38 = .ok (.iload_n 2, 1) := by decide +kernel
theorem d_Mo_before_39 : decode c_Mo_before 39 = .ok (.invokevirtual 351, 3) := by decide +kernel
theorem d_Mo_before_42 : decode c_Mo_before 42 = .ok (.istore_n 3, 1) := by decide +kernel
theorem d_Mo_before_43 : decode c_Mo_before 43 = .ok (.iload_n 3, 1) := by decide +kernel
theorem d_Mo_before_44 : decode c_Mo_before 44 = .ok (.ifCond .ge 7, 3) := by decide +kernel
theorem d_Mo_before_47 : decode c_Mo_before 47 = .ok (.iconst 1, 1) := by decide +kernel
theorem d_Mo_before_48 : decode c_Mo_before 48 = .ok (.goto 4, 3) := by decide +kernel
theorem d_Mo_before_51 : decode c_Mo_before 51 = .ok (.iconst 0, 1) := by decide +kernel
theorem d_Mo_before_52 : decode c_Mo_before 52 = .ok (.ireturn, 1) := by decide +kernel
theorem d_Mo_makeRows_0 : decode c_Mo_makeRows 0 = .ok (.aload_n 0, 1) := by decide +kernel
theorem d_Mo_makeRows_1 : decode c_Mo_makeRows 1 = .ok (.getfield 76, 3) := by decide +kernel
theorem d_Mo_makeRows_4 : decode c_Mo_makeRows 4 = .ok (.iconst 0, 1) := by decide +kernel
theorem d_Mo_makeRows_5 : decode c_Mo_makeRows 5 = .ok (.iaload, 1) := by decide +kernel
theorem d_Mo_makeRows_6 : decode c_Mo_makeRows 6 = .ok (.istore_n 1, 1) := by decide +kernel
theorem d_Mo_makeRows_7 : decode c_Mo_makeRows 7 = .ok (.iconst 0, 1) := by decide +kernel
theorem d_Mo_makeRows_8 : decode c_Mo_makeRows 8 = .ok (.istore_n 2, 1) := by decide +kernel
theorem d_Mo_makeRows_9 : decode c_Mo_makeRows 9 = .ok (.iload_n 2, 1) := by decide +kernel
theorem d_Mo_makeRows_10 : decode c_Mo_makeRows 10 = .ok (.iload_n 1, 1) := by decide +kernel
theorem d_Mo_makeRows_11 : decode c_Mo_makeRows 11 = .ok (.if_icmp .ge 58, 3) := by decide +kernel
theorem d_Mo_makeRows_14 : decode c_Mo_makeRows 14 = .ok (.iload_n 2, 1) := by decide +kernel
theorem d_Mo_makeRows_15 : decode c_Mo_makeRows 15 = .ok (.istore_n 3, 1) := by decide +kernel
theorem d_Mo_makeRows_16 : decode c_Mo_makeRows 16 = .ok (.iload_n 3, 1) := by decide +kernel
theorem d_Mo_makeRows_17 : decode c_Mo_makeRows 17 = .ok (.ifCond .le 39, 3) := by decide +kernel
theorem d_Mo_makeRows_20 : decode c_Mo_makeRows 20 = .ok (.aload_n 0, 1) := by decide +kernel
theorem d_Mo_makeRows_21 : decode c_Mo_makeRows 21 = .ok (.iload_n 2, 1) := by decide +kernel
theorem d_Mo_makeRows_22 : decode c_Mo_makeRows 22 = .ok (.aload_n 0, 1) := by decide +kernel
theorem d_Mo_makeRows_23 : decode c_Mo_makeRows 23 = .ok (.getfield 85, 3) := by decide +kernel
theorem d_Mo_makeRows_26 : decode c_Mo_makeRows 26 = .ok (.iload_n 3, 1) := by decide +kernel
theorem d_Mo_makeRows_27 : decode c_Mo_makeRows 27 = .ok (.iconst 1, 1) := by decide +kernel
theorem d_Mo_makeRows_28 : decode c_Mo_makeRows 28 = .ok (.isub, 1) := by decide +kernel
theorem d_Mo_makeRows_29 : decode c_Mo_makeRows 29 = .ok (.iaload, 1) := by decide +kernel
theorem d_Mo_makeRows_30 : decode c_Mo_makeRows 30 = .ok (.invokevirtual 355, 3) := by decide +kernel
theorem d_Mo_makeRows_33 : decode c_Mo_makeRows 33 = .ok (.ifCond .eq 23, 3) := by decide +kernel
theorem d_Mo_makeRows_36 : decode c_Mo_makeRows 36 = .ok (.aload_n 0, 1) := by decide +kernel
theorem d_Mo_makeRows_37 : decode c_Mo_makeRows 37 = .ok (.getfield 85, 3) := by decide +kernel
theorem d_Mo_makeRows_40 : decode c_Mo_makeRows 40 = .ok (.iload_n 3, 1) := by decide +kernel
theorem d_Mo_makeRows_41 : decode c_Mo_makeRows 41 = .ok (.aload_n 0, 1) := by decide +kernel
theorem d_Mo_makeRows_42 : decode c_Mo_makeRows 42 = .ok (.getfield 85, 3) := by decide +kernel
theorem d_Mo_makeRows_45 : decode c_Mo_makeRows 45 = .ok (.iload_n 3, 1) := by decide +kernel
theorem d_Mo_makeRows_46 : decode c_Mo_makeRows 46 = .ok (.iconst 1, 1) := by decide +kernel
theorem d_Mo_makeRows_47 : decode c_Mo_makeRows 47 = .ok (.isub, 1) := by decide +kernel
theorem d_Mo_makeRows_48 : decode c_Mo_makeRows 48 = .ok (.iaload, 1) := by decide +kernel
theorem d_Mo_makeRows_49 : decode c_Mo_makeRows 49 = .ok (.iastore, 1) := by decide +kernel
theorem d_Mo_makeRows_50 : decode c_Mo_makeRows 50 = .ok (.iinc 3 (-1), 3) := by decide +kernel
theorem d_Mo_makeRows_53 : decode c_Mo_makeRows 53 = .ok (.goto (-37), 3) := by decide +kernel
theorem d_Mo_makeRows_56 : decode c_Mo_makeRows 56 = .ok (.aload_n 0, 1) := by decide +kernel
theorem d_Mo_makeRows_57 : decode c_Mo_makeRows 57 = .ok (.getfield 85, 3) := by decide +kernel
theorem d_Mo_makeRows_60 : decode c_Mo_makeRows 60 = .ok (.iload_n 3, 1) := by decide +kernel
theorem d_Mo_makeRows_61 : decode c_Mo_makeRows 61 = .ok (.iload_n 2, 1) := by decide +kernel
theorem d_Mo_makeRows_62 : decode c_Mo_makeRows 62 = .ok (.iastore, 1) := by decide +kernel
theorem d_Mo_makeRows_63 : decode c_Mo_makeRows 63 = .ok (.iinc 2 1, 3) := by decide +kernel
theorem d_Mo_makeRows_66 : decode c_Mo_makeRows 66 = .ok (.goto (-57), 3) := by decide +kernel
theorem d_Mo_makeRows_69 : decode c_Mo_makeRows 69 = .ok (.iconst 0, 1) := by decide +kernel
theorem d_Mo_makeRows_70 : decode c_Mo_makeRows 70 = .ok (.istore_n 2, 1) := by decide +kernel
theorem d_Mo_makeRows_71 : decode c_Mo_makeRows 71 = .ok (.iload_n 2, 1) := by decide +kernel
theorem d_Mo_makeRows_72 : decode c_Mo_makeRows 72 = .ok (.iload_n 1, 1) := by decide +kernel
theorem d_Mo_makeRows_73 : decode c_Mo_makeRows 73 = .ok (.if_icmp .ge 148, 3) := by decide +kernel
theorem d_Mo_makeRows_76 : decode c_Mo_makeRows 76 = .ok (.aload_n 0, 1) := by decide +kernel
theorem d_Mo_makeRows_77 : decode c_Mo_makeRows 77 = .ok (.getfield 358, 3) := by decide +kernel
theorem d_Mo_makeRows_80 : decode c_Mo_makeRows 80 = .ok (.aload_n 0, 1) := by decide +kernel
theorem d_Mo_makeRows_81 : decode c_Mo_makeRows 81 = .ok (.getfield 308, 3) := by decide +kernel
theorem d_Mo_makeRows_84 : decode c_Mo_makeRows 84 = .ok (.if_icmp .ge 137, 3) := by decide +kernel
theorem d_Mo_makeRows_87 : decode c_Mo_makeRows 87 = .ok (.iconst 0, 1) := by decide +kernel
theorem d_Mo_makeRows_88 : decode c_Mo_makeRows 88 = .ok (.istore_n 3, 1) := by decide +kernel
theorem d_Mo_makeRows_89 : decode c_Mo_makeRows 89 = .ok (.iconst 0, 1) := by decide +kernel
theorem d_Mo_makeRows_90 : decode c_Mo_makeRows 90 = .ok (.istore 4, 2) := by decide +kernel
theorem d_Mo_makeRows_92 : decode c_Mo_makeRows 92 = .ok (.iload 4, 2) := by decide +kernel
theorem d_Mo_makeRows_94 : decode c_Mo_makeRows 94 = .ok (.iload_n 2, 1) := by decide +kernel
theorem d_Mo_makeRows_95 : decode c_Mo_makeRows 95 = .ok (.if_icmp .ge 31, 3) := by decide +kernel
theorem d_Mo_makeRows_98 : decode c_Mo_makeRows 98 = .ok (.aload_n 0, 1) := by decide +kernel
theorem d_Mo_makeRows_99 : decode c_Mo_makeRows 99 = .ok (.aload_n 0, 1) := by decide +kernel
theorem d_Mo_makeRows_100 : decode c_Mo_makeRows 100 = .ok (.getfield 85, 3) := by decide +kernel
theorem d_Mo_makeRows_103 : decode c_Mo_makeRows 103 = .ok (.iload 4, 2) := by decide +kernel
theorem d_Mo_makeRows_105 : decode c_Mo_makeRows 105 = .ok (.iaload, 1) := by decide +kernel
theorem d_Mo_makeRows_106 : decode c_Mo_makeRows 106 = .ok (.aload_n 0, 1) := by decide +kernel
theorem d_Mo_makeRows_107 : decode c_Mo_makeRows 107 = .ok (.getfield 85, 3) := by decide +kernel
theorem d_Mo_makeRows_110 : decode c_Mo_makeRows 110 = .ok (.iload_n 2, 1) := by decide +kernel
theorem d_Mo_makeRows_111 : decode c_Mo_makeRows 111 = .ok (.iaload, 1) := by decide +kernel
theorem d_Mo_makeRows_112 : decode c_Mo_makeRows 112 = .ok (.invokevirtual 351, 3) := by decide +kernel
theorem d_Mo_makeRows_115 : decode c_Mo_makeRows 115 = .ok (.ifCond .ne 5, 3) := by decide +kernel
theorem d_Mo_makeRows_118 : decode c_Mo_makeRows 118 = .ok (.iconst 1, 1) := by decide +kernel
theorem d_Mo_makeRows_119 : decode c_Mo_makeRows 119 = .ok (.istore_n 3, 1) := by decide +kernel
theorem d_Mo_makeRows_120 : decode c_Mo_makeRows 120 = .ok (.iinc 4 1, 3) := by decide +kernel
theorem d_Mo_makeRows_123 : decode c_Mo_makeRows 123 = .ok (.goto (-31), 3) := by decide +kernel
theorem d_Mo_makeRows_126 : decode c_Mo_makeRows 126 = .ok (.aload_n 0, 1) := by decide +kernel
theorem d_Mo_makeRows_127 : decode c_Mo_makeRows 127 = .ok (.getfield 293, 3) := by decide +kernel
theorem d_Mo_makeRows_130 : decode c_Mo_makeRows 130 = .ok (.ifCond .eq 7, 3) := by decide +kernel
theorem d_Mo_makeRows_133 : decode c_Mo_makeRows 133 = .ok (.iload_n 3, 1) := by decide +kernel
theorem d_Mo_makeRows_134 : decode c_Mo_makeRows 134 = .ok (.ifCond .ne 81, 3) := by decide +kernel
theorem d_Mo_makeRows_137 : decode c_Mo_makeRows 137 = .ok (.iconst 0, 1) := by decide +kernel
theorem d_Mo_makeRows_138 : decode c_Mo_makeRows 138 = .ok (.istore 4, 2) := by decide +kernel
theorem d_Mo_makeRows_140 : decode c_Mo_makeRows 140 = .ok (.iload 4, 2) := by decide +kernel
theorem d_Mo_makeRows_142 : decode c_Mo_makeRows 142 = .ok (.bipush 6, 2) := by decide +kernel
theorem d_Mo_makeRows_144 : decode c_Mo_makeRows 144 = .ok (.if_icmp .ge 41, 3) := by decide +kernel
theorem d_Mo_makeRows_147 : decode c_Mo_makeRows 147 = .ok (.aload_n 0, 1) := by decide +kernel
theorem d_Mo_makeRows_148 : decode c_Mo_makeRows 148 = .ok (.getfield 79, 3) := by decide +kernel
theorem d_Mo_makeRows_151 : decode c_Mo_makeRows 151 = .ok (.bipush 6, 2) := by decide +kernel
theorem d_Mo_makeRows_153 : decode c_Mo_makeRows 153 = .ok (.aload_n 0, 1) := by decide +kernel
theorem d_Mo_makeRows_154 : decode c_Mo_makeRows 154 = .ok (.getfield 358, 3) := by decide +kernel
theorem d_Mo_makeRows_157 : decode c_Mo_makeRows 157 = .ok (.imul, 1) := by decide +kernel
theorem d_Mo_makeRows_158 : decode c_Mo_makeRows 158 = .ok (.iload 4, 2) := by decide +kernel
theorem d_Mo_makeRows_160 : decode c_Mo_makeRows 160 = .ok (.iadd, 1) := by decide +kernel
theorem d_Mo_makeRows_161 : decode c_Mo_makeRows 161 = .ok (.aload_n 0, 1) := by decide +kernel
theorem d_Mo_makeRows_162 : decode c_Mo_makeRows 162 = .ok (.getfield 70, 3) := by decide +kernel
theorem d_Mo_makeRows_165 : decode c_Mo_makeRows 165 = .ok (.bipush 6, 2) := by decide +kernel
theorem d_Mo_makeRows_167 : decode c_Mo_makeRows 167 = .ok (.aload_n 0, 1) := by decide +kernel
theorem d_Mo_makeRows_168 : decode c_Mo_makeRows 168 = .ok (.getfield 85, 3) := by decide +kernel
theorem d_Mo_makeRows_171 : decode c_Mo_makeRows 171 = .ok (.iload_n 2, 1) := by decide +kernel
theorem d_Mo_makeRows_172 : decode c_Mo_makeRows 172 = .ok (.iaload, 1) := by decide +kernel
theorem d_Mo_makeRows_173 : decode c_Mo_makeRows 173 = .ok (.imul, 1) := by decide +kernel
theorem d_Mo_makeRows_174 : decode c_Mo_makeRows 174 = .ok (.iload 4, 2) := by decide +kernel
theorem d_Mo_makeRows_176 : decode c_Mo_makeRows 176 = .ok (.iadd, 1) := by decide +kernel
theorem d_Mo_makeRows_177 : decode c_Mo_makeRows 177 = .ok (.laload, 1) := by decide +kernel
theorem d_Mo_makeRows_178 : decode c_Mo_makeRows 178 = .ok (.lastore, 1) := by decide +kernel
theorem d_Mo_makeRows_179 : decode c_Mo_makeRows 179 = .ok (.iinc 4 1, 3) := by decide +kernel
theorem d_Mo_makeRows_182 : decode c_Mo_makeRows 182 = .ok (.goto (-42), 3) := by decide +kernel
theorem d_Mo_makeRows_185 : decode c_Mo_makeRows 185 = .ok (.aload_n 0, 1) := by decide +kernel
theorem d_Mo_makeRows_186 : decode c_Mo_makeRows 186 = .ok (.getfield 82, 3) := by decide +kernel
theorem d_Mo_makeRows_189 : decode c_Mo_makeRows 189 = .ok (.aload_n 0, 1) := by decide +kernel
theorem d_Mo_makeRows_190 : decode c_Mo_makeRows 190 = .ok (.getfield 358, 3) := by decide +kernel
theorem d_Mo_makeRows_193 : decode c_Mo_makeRows 193 = .ok (.aload_n 0, 1) := by decide +kernel
theorem d_Mo_makeRows_194 : decode c_Mo_makeRows 194 = .ok (.getfield 73, 3) := by decide +kernel
theorem d_Mo_makeRows_197 : decode c_Mo_makeRows 197 = .ok (.aload_n 0, 1) := by decide +kernel
theorem d_Mo_makeRows_198 : decode c_Mo_makeRows 198 = .ok (.getfield 85, 3) := by decide +kernel
theorem d_Mo_makeRows_201 : decode c_Mo_makeRows 201 = .ok (.iload_n 2, 1) := by decide +kernel
theorem d_Mo_makeRows_202 : decode c_Mo_makeRows 202 = .ok (.iaload, 1) := by decide +kernel
theorem d_Mo_makeRows_203 : decode c_Mo_makeRows 203 = .ok (.iaload, 1) := by decide +kernel
theorem d_Mo_makeRows_204 : decode c_Mo_makeRows 204 = .ok (.iastore, 1) := by decide +kernel
theorem d_Mo_makeRows_205 : decode c_Mo_makeRows 205 = .ok (.aload_n 0, 1) := by decide +kernel
theorem d_Mo_makeRows_206 : decode c_Mo_makeRows 206 = .ok (.dup, 1) := by decide +kernel
theorem d_Mo_makeRows_207 : decode c_Mo_makeRows 207 = .ok (.getfield 358, 3) := by decide +kernel
theorem d_Mo_makeRows_210 : decode c_Mo_makeRows 210 = .ok (.iconst 1, 1) := by decide +kernel
theorem d_Mo_makeRows_211 : decode c_Mo_makeRows 211 = .ok (.iadd, 1) := by decide +kernel
theorem d_Mo_makeRows_212 : decode c_Mo_makeRows 212 = .ok (.putfield 358, 3) := by decide +kernel
theorem d_Mo_makeRows_215 : decode c_Mo_makeRows 215 = .ok (.iinc 2 1, 3) := by decide +kernel
theorem d_Mo_makeRows_218 : decode c_Mo_makeRows 218 = .ok (.goto (-147), 3) := by decide +kernel
theorem d_Mo_makeRows_221 : decode c_Mo_makeRows 221 = .ok (.return_, 1) := by decide +kernel
theorem d_Mo_ask_0 : decode c_Mo_ask 0 = .ok (.aload_n 0, 1) := by decide +kernel
theorem d_Mo_ask_1 : decode c_Mo_ask 1 = .ok (.iconst 0, 1) := by decide +kernel
theorem d_Mo_ask_2 : decode c_Mo_ask 2 = .ok (.putfield 229, 3) := by decide +kernel
theorem d_Mo_ask_5 : decode c_Mo_ask 5 = .ok (.aload_n 0, 1) := by decide +kernel
theorem d_Mo_ask_6 : decode c_Mo_ask 6 = .ok (.iconst 0, 1) := by decide +kernel
theorem d_Mo_ask_7 : decode c_Mo_ask 7 = .ok (.putfield 259, 3) := by decide +kernel
theorem d_Mo_ask_10 : decode c_Mo_ask 10 = .ok (.aload_n 0, 1) := by decide +kernel
theorem d_Mo_ask_11 : decode c_Mo_ask 11 = .ok (.iconst 0, 1) := by decide +kernel
theorem d_Mo_ask_12 : decode c_Mo_ask 12 = .ok (.putfield 278, 3) := by decide +kernel
theorem d_Mo_ask_15 : decode c_Mo_ask 15 = .ok (.aload_n 0, 1) := by decide +kernel
theorem d_Mo_ask_16 : decode c_Mo_ask 16 = .ok (.iconst 0, 1) := by decide +kernel
theorem d_Mo_ask_17 : decode c_Mo_ask 17 = .ok (.putfield 250, 3) := by decide +kernel
theorem d_Mo_ask_20 : decode c_Mo_ask 20 = .ok (.aload_n 0, 1) := by decide +kernel
theorem d_Mo_ask_21 : decode c_Mo_ask 21 = .ok (.iconst 0, 1) := by decide +kernel
theorem d_Mo_ask_22 : decode c_Mo_ask 22 = .ok (.putfield 244, 3) := by decide +kernel
theorem d_Mo_ask_25 : decode c_Mo_ask 25 = .ok (.aload_n 0, 1) := by decide +kernel
theorem d_Mo_ask_26 : decode c_Mo_ask 26 = .ok (.iconst 0, 1) := by decide +kernel
theorem d_Mo_ask_27 : decode c_Mo_ask 27 = .ok (.putfield 268, 3) := by decide +kernel
theorem d_Mo_ask_30 : decode c_Mo_ask 30 = .ok (.aload_n 0, 1) := by decide +kernel
theorem d_Mo_ask_31 : decode c_Mo_ask 31 = .ok (.iconst 0, 1) := by decide +kernel
theorem d_Mo_ask_32 : decode c_Mo_ask 32 = .ok (.putfield 247, 3) := by decide +kernel
theorem d_Mo_ask_35 : decode c_Mo_ask 35 = .ok (.aload_n 0, 1) := by decide +kernel
theorem d_Mo_ask_36 : decode c_Mo_ask 36 = .ok (.iconst 0, 1) := by decide +kernel
theorem d_Mo_ask_37 : decode c_Mo_ask 37 = .ok (.putfield 296, 3) := by decide +kernel
theorem d_Mo_ask_40 : decode c_Mo_ask 40 = .ok (.aload_n 0, 1) := by decide +kernel
theorem d_Mo_ask_41 : decode c_Mo_ask 41 = .ok (.iconst 0, 1) := by decide +kernel
theorem d_Mo_ask_42 : decode c_Mo_ask 42 = .ok (.putfield 293, 3) := by decide +kernel
theorem d_Mo_ask_45 : decode c_Mo_ask 45 = .ok (.aload_n 0, 1) := by decide +kernel
theorem d_Mo_ask_46 : decode c_Mo_ask 46 = .ok (.iconst (-1), 1) := by decide +kernel
theorem d_Mo_ask_47 : decode c_Mo_ask 47 = .ok (.putfield 302, 3) := by decide +kernel
theorem d_Mo_ask_50 : decode c_Mo_ask 50 = .ok (.aload_n 0, 1) := by decide +kernel
theorem d_Mo_ask_51 : decode c_Mo_ask 51 = .ok (.iconst 0, 1) := by decide +kernel
theorem d_Mo_ask_52 : decode c_Mo_ask 52 = .ok (.putfield 305, 3) := by decide +kernel
theorem d_Mo_ask_55 : decode c_Mo_ask 55 = .ok (.aload_n 0, 1) := by decide +kernel
theorem d_Mo_ask_56 : decode c_Mo_ask 56 = .ok (.sipush 10000, 3) := by decide +kernel
theorem d_Mo_ask_59 : decode c_Mo_ask 59 = .ok (.putfield 308, 3) := by decide +kernel
theorem d_Mo_ask_62 : decode c_Mo_ask 62 = .ok (.aload_n 0, 1) := by decide +kernel
theorem d_Mo_ask_63 : decode c_Mo_ask 63 = .ok (.iconst 0, 1) := by decide +kernel
theorem d_Mo_ask_64 : decode c_Mo_ask 64 = .ok (.putfield 172, 3) := by decide +kernel
theorem d_Mo_ask_67 : decode c_Mo_ask 67 = .ok (.aload_n 0, 1) := by decide +kernel
theorem d_Mo_ask_68 : decode c_Mo_ask 68 = .ok (.iconst (-1), 1) := by decide +kernel
theorem d_Mo_ask_69 : decode c_Mo_ask 69 = .ok (.putfield 220, 3) := by decide +kernel
theorem d_Mo_ask_72 : decode c_Mo_ask 72 = .ok (.aload_n 0, 1) := by decide +kernel
theorem d_Mo_ask_73 : decode c_Mo_ask 73 = .ok (.iconst 0, 1) := by decide +kernel
theorem d_Mo_ask_74 : decode c_Mo_ask 74 = .ok (.putfield 281, 3) := by decide +kernel
theorem d_Mo_ask_77 : decode c_Mo_ask 77 = .ok (.aload_n 0, 1) := by decide +kernel
theorem d_Mo_ask_78 : decode c_Mo_ask 78 = .ok (.invokevirtual 226, 3) := by decide +kernel
theorem d_Mo_ask_81 : decode c_Mo_ask 81 = .ok (.aload_n 0, 1) := by decide +kernel
theorem d_Mo_ask_82 : decode c_Mo_ask 82 = .ok (.invokevirtual 361, 3) := by decide +kernel
theorem d_Mo_ask_85 : decode c_Mo_ask 85 = .ok (.aload_n 0, 1) := by decide +kernel
theorem d_Mo_ask_86 : decode c_Mo_ask 86 = .ok (.iconst 0, 1) := by decide +kernel
theorem d_Mo_ask_87 : decode c_Mo_ask 87 = .ok (.putfield 161, 3) := by decide +kernel
theorem d_Mo_ask_90 : decode c_Mo_ask 90 = .ok (.aload_n 0, 1) := by decide +kernel
theorem d_Mo_ask_91 : decode c_Mo_ask 91 = .ok (.aload_n 0, 1) := by decide +kernel
theorem d_Mo_ask_92 : decode c_Mo_ask 92 = .ok (.getfield 220, 3) := by decide +kernel
theorem d_Mo_ask_95 : decode c_Mo_ask 95 = .ok (.putfield 30, 3) := by decide +kernel
theorem d_Mo_ask_98 : decode c_Mo_ask 98 = .ok (.aload_n 0, 1) := by decide +kernel
theorem d_Mo_ask_99 : decode c_Mo_ask 99 = .ok (.aload_n 0, 1) := by decide +kernel
theorem d_Mo_ask_100 : decode c_Mo_ask 100 = .ok (.getfield 220, 3) := by decide +kernel
theorem d_Mo_ask_103 : decode c_Mo_ask 103 = .ok (.ifCond .ge 7, 3) := by decide +kernel
theorem d_Mo_ask_106 : decode c_Mo_ask 106 = .ok (.iconst 1, 1) := by decide +kernel
theorem d_Mo_ask_107 : decode c_Mo_ask 107 = .ok (.goto 4, 3) := by decide +kernel
theorem d_Mo_ask_110 : decode c_Mo_ask 110 = .ok (.iconst 0, 1) := by decide +kernel
theorem d_Mo_ask_111 : decode c_Mo_ask 111 = .ok (.iconst 1, 1) := by decide +kernel
theorem d_Mo_ask_112 : decode c_Mo_ask 112 = .ok (.invokevirtual 109, 3) := by decide +kernel
theorem d_Mo_ask_115 : decode c_Mo_ask 115 = .ok (.ifCond .ne 5, 3) := by decide +kernel
theorem d_Mo_ask_118 : decode c_Mo_ask 118 = .ok (.iconst 0, 1) := by decide +kernel
theorem d_Mo_ask_119 : decode c_Mo_ask 119 = .ok (.ireturn, 1) := by decide +kernel
theorem d_Mo_ask_120 : decode c_Mo_ask 120 = .ok (.iconst 0, 1) := by decide +kernel
theorem d_Mo_ask_121 : decode c_Mo_ask 121 = .ok (.istore_n 1, 1) := by decide +kernel
theorem d_Mo_ask_122 : decode c_Mo_ask 122 = .ok (.iload_n 1, 1) := by decide +kernel
theorem d_Mo_ask_123 : decode c_Mo_ask 123 = .ok (.aload_n 0, 1) := by decide +kernel
theorem d_Mo_ask_124 : decode c_Mo_ask 124 = .ok (.getfield 296, 3) := by decide +kernel
theorem d_Mo_ask_127 : decode c_Mo_ask 127 = .ok (.if_icmp .ge 21, 3) := by decide +kernel
theorem d_Mo_ask_130 : decode c_Mo_ask 130 = .ok (.aload_n 0, 1) := by decide +kernel
theorem d_Mo_ask_131 : decode c_Mo_ask 131 = .ok (.getfield 88, 3) := by decide +kernel
theorem d_Mo_ask_134 : decode c_Mo_ask 134 = .ok (.iload_n 1, 1) := by decide +kernel
theorem d_Mo_ask_135 : decode c_Mo_ask 135 = .ok (.aload_n 0, 1) := by decide +kernel
theorem d_Mo_ask_136 : decode c_Mo_ask 136 = .ok (.getfield 64, 3) := by decide +kernel
theorem d_Mo_ask_139 : decode c_Mo_ask 139 = .ok (.iload_n 1, 1) := by decide +kernel
theorem d_Mo_ask_140 : decode c_Mo_ask 140 = .ok (.iaload, 1) := by decide +kernel
theorem d_Mo_ask_141 : decode c_Mo_ask 141 = .ok (.iastore, 1) := by decide +kernel
theorem d_Mo_ask_142 : decode c_Mo_ask 142 = .ok (.iinc 1 1, 3) := by decide +kernel
theorem d_Mo_ask_145 : decode c_Mo_ask 145 = .ok (.goto (-23), 3) := by decide +kernel
theorem d_Mo_ask_148 : decode c_Mo_ask 148 = .ok (.aload_n 0, 1) := by decide +kernel
theorem d_Mo_ask_149 : decode c_Mo_ask 149 = .ok (.aload_n 0, 1) := by decide +kernel
theorem d_Mo_ask_150 : decode c_Mo_ask 150 = .ok (.getfield 296, 3) := by decide +kernel
theorem d_Mo_ask_153 : decode c_Mo_ask 153 = .ok (.putfield 364, 3) := by decide +kernel
theorem d_Mo_ask_156 : decode c_Mo_ask 156 = .ok (.aload_n 0, 1) := by decide +kernel
theorem d_Mo_ask_157 : decode c_Mo_ask 157 = .ok (.iconst 0, 1) := by decide +kernel
theorem d_Mo_ask_158 : decode c_Mo_ask 158 = .ok (.putfield 358, 3) := by decide +kernel
theorem d_Mo_ask_161 : decode c_Mo_ask 161 = .ok (.aload_n 0, 1) := by decide +kernel
theorem d_Mo_ask_162 : decode c_Mo_ask 162 = .ok (.iconst 0, 1) := by decide +kernel
theorem d_Mo_ask_163 : decode c_Mo_ask 163 = .ok (.putfield 318, 3) := by decide +kernel
theorem d_Mo_ask_166 : decode c_Mo_ask 166 = .ok (.aload_n 0, 1) := by decide +kernel
theorem d_Mo_ask_167 : decode c_Mo_ask 167 = .ok (.iconst 0, 1) := by decide +kernel
theorem d_Mo_ask_168 : decode c_Mo_ask 168 = .ok (.putfield 311, 3) := by decide +kernel
theorem d_Mo_ask_171 : decode c_Mo_ask 171 = .ok (.iconst 0, 1) := by decide +kernel
theorem d_Mo_ask_172 : decode c_Mo_ask 172 = .ok (.istore_n 1, 1) := by decide +kernel
theorem d_Mo_ask_173 : decode c_Mo_ask 173 = .ok (.iload_n 1, 1) := by decide +kernel
theorem d_Mo_ask_174 : decode c_Mo_ask 174 = .ok (.aload_n 0, 1) := by decide +kernel
theorem d_Mo_ask_175 : decode c_Mo_ask 175 = .ok (.getfield 244, 3) := by decide +kernel
theorem d_Mo_ask_178 : decode c_Mo_ask 178 = .ok (.if_icmp .ge 32, 3) := by decide +kernel
theorem d_Mo_ask_181 : decode c_Mo_ask 181 = .ok (.aload_n 0, 1) := by decide +kernel
theorem d_Mo_ask_182 : decode c_Mo_ask 182 = .ok (.getfield 311, 3) := by decide +kernel
theorem d_Mo_ask_185 : decode c_Mo_ask 185 = .ok (.ifCond .ne 25, 3) := by decide +kernel
theorem d_Mo_ask_188 : decode c_Mo_ask 188 = .ok (.aload_n 0, 1) := by decide +kernel
theorem d_Mo_ask_189 : decode c_Mo_ask 189 = .ok (.aload_n 0, 1) := by decide +kernel
theorem d_Mo_ask_190 : decode c_Mo_ask 190 = .ok (.getfield 43, 3) := by decide +kernel
theorem d_Mo_ask_193 : decode c_Mo_ask 193 = .ok (.iload_n 1, 1) := by decide +kernel
theorem d_Mo_ask_194 : decode c_Mo_ask 194 = .ok (.iaload, 1) := by decide +kernel
theorem d_Mo_ask_195 : decode c_Mo_ask 195 = .ok (.aload_n 0, 1) := by decide +kernel
theorem d_Mo_ask_196 : decode c_Mo_ask 196 = .ok (.getfield 46, 3) := by decide +kernel
theorem d_Mo_ask_199 : decode c_Mo_ask 199 = .ok (.iload_n 1, 1) := by decide +kernel
theorem d_Mo_ask_200 : decode c_Mo_ask 200 = .ok (.iaload, 1) := by decide +kernel
theorem d_Mo_ask_201 : decode c_Mo_ask 201 = .ok (.invokevirtual 367, 3) := by decide +kernel
theorem d_Mo_ask_204 : decode c_Mo_ask 204 = .ok (.iinc 1 1, 3) := by decide +kernel
theorem d_Mo_ask_207 : decode c_Mo_ask 207 = .ok (.goto (-34), 3) := by decide +kernel
theorem d_Mo_ask_210 : decode c_Mo_ask 210 = .ok (.aload_n 0, 1) := by decide +kernel
theorem d_Mo_ask_211 : decode c_Mo_ask 211 = .ok (.aload_n 0, 1) := by decide +kernel
theorem d_Mo_ask_212 : decode c_Mo_ask 212 = .ok (.getfield 311, 3) := by decide +kernel
theorem d_Mo_ask_215 : decode c_Mo_ask 215 = .ok (.ifCond .ne 7, 3) := by decide +kernel
theorem d_Mo_ask_218 : decode c_Mo_ask 218 = .ok (.iconst 1, 1) := by decide +kernel
theorem d_Mo_ask_219 : decode c_Mo_ask 219 = .ok (.goto 4, 3) := by decide +kernel
theorem d_Mo_ask_222 : decode c_Mo_ask 222 = .ok (.iconst 0, 1) := by decide +kernel
theorem d_Mo_ask_223 : decode c_Mo_ask 223 = .ok (.iconst 2, 1) := by decide +kernel
theorem d_Mo_ask_224 : decode c_Mo_ask 224 = .ok (.invokevirtual 109, 3) := by decide +kernel
theorem d_Mo_ask_227 : decode c_Mo_ask 227 = .ok (.ifCond .ne 5, 3) := by decide +kernel
theorem d_Mo_ask_230 : decode c_Mo_ask 230 = .ok (.iconst 0, 1) := by decide +kernel
theorem d_Mo_ask_231 : decode c_Mo_ask 231 = .ok (.ireturn, 1) := by decide +kernel
theorem d_Mo_ask_232 : decode c_Mo_ask 232 = .ok (.aload_n 0, 1) := by decide +kernel
theorem d_Mo_ask_233 : decode c_Mo_ask 233 = .ok (.invokevirtual 370, 3) := by decide +kernel
theorem d_Mo_ask_236 : decode c_Mo_ask 236 = .ok (.aload_n 0, 1) := by decide +kernel
theorem d_Mo_ask_237 : decode c_Mo_ask 237 = .ok (.getfield 358, 3) := by decide +kernel
theorem d_Mo_ask_240 : decode c_Mo_ask 240 = .ok (.ireturn, 1) := by decide +kernel
theorem d_Mo_fault_0 : decode c_Mo_fault 0 = .ok (.aload_n 0, 1) := by decide +kernel
theorem d_Mo_fault_1 : decode c_Mo_fault 1 = .ok (.iconst 0, 1) := by decide +kernel
theorem d_Mo_fault_2 : decode c_Mo_fault 2 = .ok (.putfield 91, 3) := by decide +kernel
theorem d_Mo_fault_5 : decode c_Mo_fault 5 = .ok (.aload_n 0, 1) := by decide +kernel
theorem d_Mo_fault_6 : decode c_Mo_fault 6 = .ok (.getfield 30, 3) := by decide +kernel
theorem d_Mo_fault_9 : decode c_Mo_fault 9 = .ok (.ireturn, 1) := by decide +kernel
theorem d_Mo_cell_0 : decode c_Mo_cell 0 = .ok (.aload_n 0, 1) := by decide +kernel
theorem d_Mo_cell_1 : decode c_Mo_cell 1 = .ok (.iload_n 1, 1) := by decide +kernel
theorem d_Mo_cell_2 : decode c_Mo_cell 2 = .ok (.iconst 0, 1) := by decide +kernel
theorem d_Mo_cell_3 : decode c_Mo_cell 3 = .ok (.aload_n 0, 1) := by decide +kernel
theorem d_Mo_cell_4 : decode c_Mo_cell 4 = .ok (.getfield 358, 3) := by decide +kernel
theorem d_Mo_cell_7 : decode c_Mo_cell 7 = .ok (.iconst 1, 1) := by decide +kernel
theorem d_Mo_cell_8 : decode c_Mo_cell 8 = .ok (.isub, 1) := by decide +kernel
theorem d_Mo_cell_9 : decode c_Mo_cell 9 = .ok (.invokestatic 94, 3) := by decide +kernel
theorem d_Mo_cell_12 : decode c_Mo_cell 12 = .ok (.ifCond .eq 21, 3) := by decide +kernel
theorem d_Mo_cell_15 : decode c_Mo_cell 15 = .ok (.iload_n 2, 1) := by decide +kernel
theorem d_Mo_cell_16 : decode c_Mo_cell 16 = .ok (.iconst 0, 1) := by decide +kernel
theorem d_Mo_cell_17 : decode c_Mo_cell 17 = .ok (.aload_n 0, 1) := by decide +kernel
theorem d_Mo_cell_18 : decode c_Mo_cell 18 = .ok (.getfield 364, 3) := by decide +kernel
theorem d_Mo_cell_21 : decode c_Mo_cell 21 = .ok (.iconst 1, 1) := by decide +kernel
theorem d_Mo_cell_22 : decode c_Mo_cell 22 = .ok (.isub, 1) := by decide +kernel
theorem d_Mo_cell_23 : decode c_Mo_cell 23 = .ok (.invokestatic 94, 3) := by decide +kernel
theorem d_Mo_cell_26 : decode c_Mo_cell 26 = .ok (.ifCond .eq 7, 3) := by decide +kernel
theorem d_Mo_cell_29 : decode c_Mo_cell 29 = .ok (.iconst 1, 1) := by decide +kernel
theorem d_Mo_cell_30 : decode c_Mo_cell 30 = .ok (.goto 4, 3) := by decide +kernel
theorem d_Mo_cell_33 : decode c_Mo_cell 33 = .ok (.iconst 0, 1) := by decide +kernel
theorem d_Mo_cell_34 : decode c_Mo_cell 34 = .ok (.iconst 1, 1) := by decide +kernel
theorem d_Mo_cell_35 : decode c_Mo_cell 35 = .ok (.invokevirtual 109, 3) := by decide +kernel
theorem d_Mo_cell_38 : decode c_Mo_cell 38 = .ok (.ifCond .ne 5, 3) := by decide +kernel
theorem d_Mo_cell_41 : decode c_Mo_cell 41 = .ok (.lconst 0, 1) := by decide +kernel
theorem d_Mo_cell_42 : decode c_Mo_cell 42 = .ok (.lreturn, 1) := by decide +kernel
theorem d_Mo_cell_43 : decode c_Mo_cell 43 = .ok (.aload_n 0, 1) := by decide +kernel
theorem d_Mo_cell_44 : decode c_Mo_cell 44 = .ok (.getfield 88, 3) := by decide +kernel
theorem d_Mo_cell_47 : decode c_Mo_cell 47 = .ok (.iload_n 2, 1) := by decide +kernel
theorem d_Mo_cell_48 : decode c_Mo_cell 48 = .ok (.iaload, 1) := by decide +kernel
theorem d_Mo_cell_49 : decode c_Mo_cell 49 = .ok (.istore_n 3, 1) := by decide +kernel
theorem d_Mo_cell_50 : decode c_Mo_cell 50 = .ok (.aload_n 0, 1) := by decide +kernel
theorem d_Mo_cell_51 : decode c_Mo_cell 51 = .ok (.aload_n 0, 1) := by decide +kernel
theorem d_Mo_cell_52 : decode c_Mo_cell 52 = .ok (.getfield 82, 3) := by decide +kernel
theorem d_Mo_cell_55 : decode c_Mo_cell 55 = .ok (.iload_n 1, 1) := by decide +kernel
theorem d_Mo_cell_56 : decode c_Mo_cell 56 = .ok (.iaload, 1) := by decide +kernel
theorem d_Mo_cell_57 : decode c_Mo_cell 57 = .ok (.iload_n 3, 1) := by decide +kernel
theorem d_Mo_cell_58 : decode c_Mo_cell 58 = .ok (.ishr, 1) := by decide +kernel
theorem d_Mo_cell_59 : decode c_Mo_cell 59 = .ok (.iconst 1, 1) := by decide +kernel
theorem d_Mo_cell_60 : decode c_Mo_cell 60 = .ok (.iand, 1) := by decide +kernel
theorem d_Mo_cell_61 : decode c_Mo_cell 61 = .ok (.iconst 1, 1) := by decide +kernel
theorem d_Mo_cell_62 : decode c_Mo_cell 62 = .ok (.if_icmp .ne 7, 3) := by decide +kernel
theorem d_Mo_cell_65 : decode c_Mo_cell 65 = .ok (.iconst 1, 1) := by decide +kernel
theorem d_Mo_cell_66 : decode c_Mo_cell 66 = .ok (.goto 4, 3) := by decide +kernel
theorem d_Mo_cell_69 : decode c_Mo_cell 69 = .ok (.iconst 0, 1) := by decide +kernel
theorem d_Mo_cell_70 : decode c_Mo_cell 70 = .ok (.iconst 2, 1) := by decide +kernel
theorem d_Mo_cell_71 : decode c_Mo_cell 71 = .ok (.invokevirtual 109, 3) := by decide +kernel
theorem d_Mo_cell_74 : decode c_Mo_cell 74 = .ok (.ifCond .eq 17, 3) := by decide +kernel
theorem d_Mo_cell_77 : decode c_Mo_cell 77 = .ok (.aload_n 0, 1) := by decide +kernel
theorem d_Mo_cell_78 : decode c_Mo_cell 78 = .ok (.getfield 79, 3) := by decide +kernel
theorem d_Mo_cell_81 : decode c_Mo_cell 81 = .ok (.bipush 6, 2) := by decide +kernel
theorem d_Mo_cell_83 : decode c_Mo_cell 83 = .ok (.iload_n 1, 1) := by decide +kernel
theorem d_Mo_cell_84 : decode c_Mo_cell 84 = .ok (.imul, 1) := by decide +kernel
theorem d_Mo_cell_85 : decode c_Mo_cell 85 = .ok (.iload_n 3, 1) := by decide +kernel
theorem d_Mo_cell_86 : decode c_Mo_cell 86 = .ok (.iadd, 1) := by decide +kernel
theorem d_Mo_cell_87 : decode c_Mo_cell 87 = .ok (.laload, 1) := by decide +kernel
theorem d_Mo_cell_88 : decode c_Mo_cell 88 = .ok (.goto 4, 3) := by decide +kernel
theorem d_Mo_cell_91 : decode c_Mo_cell 91 = .ok (.lconst 0, 1) := by decide +kernel
theorem d_Mo_cell_92 : decode c_Mo_cell 92 = .ok (.lreturn, 1) := by decide +kernel
theorem d_Mo_count_0 : decode c_Mo_count 0 = .ok (.aload_n 0, 1) := by decide +kernel
theorem d_Mo_count_1 : decode c_Mo_count 1 = .ok (.iload_n 1, 1) := by decide +kernel
theorem d_Mo_count_2 : decode c_Mo_count 2 = .ok (.iconst 0, 1) := by decide +kernel
theorem d_Mo_count_3 : decode c_Mo_count 3 = .ok (.bipush 6, 2) := by decide +kernel
theorem d_Mo_count_5 : decode c_Mo_count 5 = .ok (.invokestatic 94, 3) := by decide +kernel
theorem d_Mo_count_8 : decode c_Mo_count 8 = .ok (.iconst 1, 1) := by decide +kernel
theorem d_Mo_count_9 : decode c_Mo_count 9 = .ok (.invokevirtual 109, 3) := by decide +kernel
theorem d_Mo_count_12 : decode c_Mo_count 12 = .ok (.ifCond .ne 5, 3) := by decide +kernel
theorem d_Mo_count_15 : decode c_Mo_count 15 = .ok (.iconst 0, 1) := by decide +kernel
theorem d_Mo_count_16 : decode c_Mo_count 16 = .ok (.ireturn, 1) := by decide +kernel
theorem d_Mo_count_17 : decode c_Mo_count 17 = .ok (.iload_n 1, 1) := by decide +kernel
theorem d_Mo_count_18 : decode c_Mo_count 18 = .ok (.iconst 3, 1) := by decide +kernel
theorem d_Mo_count_19 : decode c_Mo_count 19 = .ok (.if_icmp .ge 31, 3) := by decide +kernel
theorem d_Mo_count_22 : decode c_Mo_count 22 = .ok (.iload_n 1, 1) := by decide +kernel
theorem d_Mo_count_23 : decode c_Mo_count 23 = .ok (.ifCond .ne 10, 3) := by decide +kernel
theorem d_Mo_count_26 : decode c_Mo_count 26 = .ok (.aload_n 0, 1) := by decide +kernel
theorem d_Mo_count_27 : decode c_Mo_count 27 = .ok (.getfield 102, 3) := by decide +kernel
theorem d_Mo_count_30 : decode c_Mo_count 30 = .ok (.goto 19, 3) := by decide +kernel
theorem d_Mo_count_33 : decode c_Mo_count 33 = .ok (.iload_n 1, 1) := by decide +kernel
theorem d_Mo_count_34 : decode c_Mo_count 34 = .ok (.iconst 1, 1) := by decide +kernel
theorem d_Mo_count_35 : decode c_Mo_count 35 = .ok (.if_icmp .ne 10, 3) := by decide +kernel
theorem d_Mo_count_38 : decode c_Mo_count 38 = .ok (.aload_n 0, 1) := by decide +kernel
theorem d_Mo_count_39 : decode c_Mo_count 39 = .ok (.getfield 364, 3) := by decide +kernel
theorem d_Mo_count_42 : decode c_Mo_count 42 = .ok (.goto 7, 3) := by decide +kernel
theorem d_Mo_count_45 : decode c_Mo_count 45 = .ok (.aload_n 0, 1) := by decide +kernel
theorem d_Mo_count_46 : decode c_Mo_count 46 = .ok (.getfield 358, 3) := by decide +kernel
theorem d_Mo_count_49 : decode c_Mo_count 49 = .ok (.ireturn, 1) := by decide +kernel
theorem d_Mo_count_50 : decode c_Mo_count 50 = .ok (.iload_n 1, 1) := by decide +kernel
theorem d_Mo_count_51 : decode c_Mo_count 51 = .ok (.iconst 3, 1) := by decide +kernel
theorem d_Mo_count_52 : decode c_Mo_count 52 = .ok (.if_icmp .ne 10, 3) := by decide +kernel
theorem d_Mo_count_55 : decode c_Mo_count 55 = .ok (.aload_n 0, 1) := by decide +kernel
theorem d_Mo_count_56 : decode c_Mo_count 56 = .ok (.getfield 130, 3) := by decide +kernel
theorem d_Mo_count_59 : decode c_Mo_count 59 = .ok (.goto 47, 3) := by decide +kernel
theorem d_Mo_count_62 : decode c_Mo_count 62 = .ok (.iload_n 1, 1) := by decide +kernel
theorem d_Mo_count_63 : decode c_Mo_count 63 = .ok (.iconst 4, 1) := by decide +kernel
theorem d_Mo_count_64 : decode c_Mo_count 64 = .ok (.if_icmp .ne 10, 3) := by decide +kernel
theorem d_Mo_count_67 : decode c_Mo_count 67 = .ok (.aload_n 0, 1) := by decide +kernel
theorem d_Mo_count_68 : decode c_Mo_count 68 = .ok (.getfield 120, 3) := by decide +kernel
theorem d_Mo_count_71 : decode c_Mo_count 71 = .ok (.goto 35, 3) := by decide +kernel
theorem d_Mo_count_74 : decode c_Mo_count 74 = .ok (.iload_n 1, 1) := by decide +kernel
theorem d_Mo_count_75 : decode c_Mo_count 75 = .ok (.iconst 5, 1) := by decide +kernel
theorem d_Mo_count_76 : decode c_Mo_count 76 = .ok (.if_icmp .ne 26, 3) := by decide +kernel
theorem d_Mo_count_79 : decode c_Mo_count 79 = .ok (.aload_n 0, 1) := by decide +kernel
theorem d_Mo_count_80 : decode c_Mo_count 80 = .ok (.getfield 123, 3) := by decide +kernel
theorem d_Mo_count_83 : decode c_Mo_count 83 = .ok (.ifCond .eq 15, 3) := by decide +kernel
theorem d_Mo_count_86 : decode c_Mo_count 86 = .ok (.aload_n 0, 1) := by decide +kernel
theorem d_Mo_count_87 : decode c_Mo_count 87 = .ok (.getfield 117, 3) := by decide +kernel
theorem d_Mo_count_90 : decode c_Mo_count 90 = .ok (.aload_n 0, 1) := by decide +kernel
theorem d_Mo_count_91 : decode c_Mo_count 91 = .ok (.getfield 148, 3) := by decide +kernel
theorem d_Mo_count_94 : decode c_Mo_count 94 = .ok (.isub, 1) := by decide +kernel
theorem d_Mo_count_95 : decode c_Mo_count 95 = .ok (.goto 11, 3) := by decide +kernel
theorem d_Mo_count_98 : decode c_Mo_count 98 = .ok (.iconst 0, 1) := by decide +kernel
theorem d_Mo_count_99 : decode c_Mo_count 99 = .ok (.goto 7, 3) := by decide +kernel
theorem d_Mo_count_102 : decode c_Mo_count 102 = .ok (.aload_n 0, 1) := by decide +kernel
theorem d_Mo_count_103 : decode c_Mo_count 103 = .ok (.getfield 161, 3) := by decide +kernel
theorem d_Mo_count_106 : decode c_Mo_count 106 = .ok (.ireturn, 1) := by decide +kernel
