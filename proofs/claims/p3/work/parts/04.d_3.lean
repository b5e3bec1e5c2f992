theorem dR_holds_92 : decode bR_holds 92 = .ok (.iconst 1, 1) := by decide +kernel
theorem dR_holds_93 : decode bR_holds 93 = .ok (.istore 8, 2) := by decide +kernel
theorem dR_holds_95 : decode bR_holds 95 = .ok (.iload 8, 2) := by decide +kernel
theorem dR_holds_97 : decode bR_holds 97 = .ok (.iconst 4, 1) := by decide +kernel
theorem dR_holds_98 : decode bR_holds 98 = .ok (.if_icmp .ge 44, 3) := by decide +kernel
theorem dR_holds_101 : decode bR_holds 101 = .ok (.aload_n 0, 1) := by decide +kernel
theorem dR_holds_102 : decode bR_holds 102 = .ok (.iload_n 1, 1) := by decide +kernel
theorem dR_holds_103 : decode bR_holds 103 = .ok (.iload 8, 2) := by decide +kernel
theorem dR_holds_105 : decode bR_holds 105 = .ok (.iload_n 2, 1) := by decide +kernel
theorem dR_holds_106 : decode bR_holds 106 = .ok (.i2l, 1) := by decide +kernel
theorem dR_holds_107 : decode bR_holds 107 = .ok (.iload_n 3, 1) := by decide +kernel
theorem dR_holds_108 : decode bR_holds 108 = .ok (.i2l, 1) := by decide +kernel
theorem dR_holds_109 : decode bR_holds 109 = .ok (.invokevirtual 109, 3) := by decide +kernel
theorem dR_holds_112 : decode bR_holds 112 = .ok (.aload_n 0, 1) := by decide +kernel
theorem dR_holds_113 : decode bR_holds 113 = .ok (.iload_n 1, 1) := by decide +kernel
theorem dR_holds_114 : decode bR_holds 114 = .ok (.iload 7, 2) := by decide +kernel
theorem dR_holds_116 : decode bR_holds 116 = .ok (.iload_n 2, 1) := by decide +kernel
theorem dR_holds_117 : decode bR_holds 117 = .ok (.i2l, 1) := by decide +kernel
theorem dR_holds_118 : decode bR_holds 118 = .ok (.iload_n 3, 1) := by decide +kernel
theorem dR_holds_119 : decode bR_holds 119 = .ok (.i2l, 1) := by decide +kernel
theorem dR_holds_120 : decode bR_holds 120 = .ok (.invokevirtual 109, 3) := by decide +kernel
theorem dR_holds_123 : decode bR_holds 123 = .ok (.lcmp, 1) := by decide +kernel
theorem dR_holds_124 : decode bR_holds 124 = .ok (.ifCond .ge 8, 3) := by decide +kernel
theorem dR_holds_127 : decode bR_holds 127 = .ok (.iload 8, 2) := by decide +kernel
theorem dR_holds_129 : decode bR_holds 129 = .ok (.goto 5, 3) := by decide +kernel
theorem dR_holds_132 : decode bR_holds 132 = .ok (.iload 7, 2) := by decide +kernel
theorem dR_holds_134 : decode bR_holds 134 = .ok (.istore 7, 2) := by decide +kernel
theorem dR_holds_136 : decode bR_holds 136 = .ok (.iinc 8 1, 3) := by decide +kernel
theorem dR_holds_139 : decode bR_holds 139 = .ok (.goto (-44), 3) := by decide +kernel
theorem dR_holds_142 : decode bR_holds 142 = .ok (.iload 5, 2) := by decide +kernel
theorem dR_holds_144 : decode bR_holds 144 = .ok (.iconst 1, 1) := by decide +kernel
theorem dR_holds_145 : decode bR_holds 145 = .ok (.if_icmp .ne 9, 3) := by decide +kernel
theorem dR_holds_148 : decode bR_holds 148 = .ok (.iload 7, 2) := by decide +kernel
theorem dR_holds_150 : decode bR_holds 150 = .ok (.i2l, 1) := by decide +kernel
theorem dR_holds_151 : decode bR_holds 151 = .ok (.goto 35, 3) := by decide +kernel
theorem dR_holds_154 : decode bR_holds 154 = .ok (.aload_n 0, 1) := by decide +kernel
theorem dR_holds_155 : decode bR_holds 155 = .ok (.iload_n 1, 1) := by decide +kernel
theorem dR_holds_156 : decode bR_holds 156 = .ok (.iload 7, 2) := by decide +kernel
theorem dR_holds_158 : decode bR_holds 158 = .ok (.iload_n 2, 1) := by decide +kernel
theorem dR_holds_159 : decode bR_holds 159 = .ok (.i2l, 1) := by decide +kernel
theorem dR_holds_160 : decode bR_holds 160 = .ok (.iload_n 3, 1) := by decide +kernel
theorem dR_holds_161 : decode bR_holds 161 = .ok (.i2l, 1) := by decide +kernel
theorem dR_holds_162 : decode bR_holds 162 = .ok (.invokevirtual 109, 3) := by decide +kernel
theorem dR_holds_165 : decode bR_holds 165 = .ok (.ldc2_w 113, 3) := by decide +kernel
theorem dR_holds_168 : decode bR_holds 168 = .ok (.iload 4, 2) := by decide +kernel
theorem dR_holds_170 : decode bR_holds 170 = .ok (.i2l, 1) := by decide +kernel
theorem dR_holds_171 : decode bR_holds 171 = .ok (.lsub, 1) := by decide +kernel
theorem dR_holds_172 : decode bR_holds 172 = .ok (.lmul, 1) := by decide +kernel
theorem dR_holds_173 : decode bR_holds 173 = .ok (.ldc2_w 113, 3) := by decide +kernel
theorem dR_holds_176 : decode bR_holds 176 = .ok (.ldiv, 1) := by decide +kernel
theorem dR_holds_177 : decode bR_holds 177 = .ok (.aload_n 0, 1) := by decide +kernel
theorem dR_holds_178 : decode bR_holds 178 = .ok (.getfield 24, 3) := by decide +kernel
theorem dR_holds_181 : decode bR_holds 181 = .ok (.lmul, 1) := by decide +kernel
theorem dR_holds_182 : decode bR_holds 182 = .ok (.ldc2_w 22, 3) := by decide +kernel
theorem dR_holds_185 : decode bR_holds 185 = .ok (.ldiv, 1) := by decide +kernel
theorem dR_holds_186 : decode bR_holds 186 = .ok (.lreturn, 1) := by decide +kernel
theorem dR_all_0 : decode bR_all 0 = .ok (.ldc2_w 22, 3) := by decide +kernel
theorem dR_all_3 : decode bR_all 3 = .ok (.aload_n 0, 1) := by decide +kernel
theorem dR_all_4 : decode bR_all 4 = .ok (.getfield 30, 3) := by decide +kernel
theorem dR_all_7 : decode bR_all 7 = .ok (.lload_n 1, 1) := by decide +kernel
theorem dR_all_8 : decode bR_all 8 = .ok (.lconst 1, 1) := by decide +kernel
theorem dR_all_9 : decode bR_all 9 = .ok (.lsub, 1) := by decide +kernel
theorem dR_all_10 : decode bR_all 10 = .ok (.lmul, 1) := by decide +kernel
theorem dR_all_11 : decode bR_all 11 = .ok (.lsub, 1) := by decide +kernel
theorem dR_all_12 : decode bR_all 12 = .ok (.lstore 5, 2) := by decide +kernel
theorem dR_all_14 : decode bR_all 14 = .ok (.lload 5, 2) := by decide +kernel
theorem dR_all_16 : decode bR_all 16 = .ok (.ldc2_w 115, 3) := by decide +kernel
theorem dR_all_19 : decode bR_all 19 = .ok (.lcmp, 1) := by decide +kernel
theorem dR_all_20 : decode bR_all 20 = .ok (.ifCond .ge 9, 3) := by decide +kernel
theorem dR_all_23 : decode bR_all 23 = .ok (.ldc2_w 115, 3) := by decide +kernel
theorem dR_all_26 : decode bR_all 26 = .ok (.goto 5, 3) := by decide +kernel
theorem dR_all_29 : decode bR_all 29 = .ok (.lload 5, 2) := by decide +kernel
theorem dR_all_31 : decode bR_all 31 = .ok (.lstore 5, 2) := by decide +kernel
theorem dR_all_33 : decode bR_all 33 = .ok (.lload_n 1, 1) := by decide +kernel
theorem dR_all_34 : decode bR_all 34 = .ok (.lload_n 3, 1) := by decide +kernel
theorem dR_all_35 : decode bR_all 35 = .ok (.lmul, 1) := by decide +kernel
theorem dR_all_36 : decode bR_all 36 = .ok (.lload 5, 2) := by decide +kernel
theorem dR_all_38 : decode bR_all 38 = .ok (.lmul, 1) := by decide +kernel
theorem dR_all_39 : decode bR_all 39 = .ok (.ldc2_w 22, 3) := by decide +kernel
theorem dR_all_42 : decode bR_all 42 = .ok (.ldiv, 1) := by decide +kernel
theorem dR_all_43 : decode bR_all 43 = .ok (.lreturn, 1) := by decide +kernel
theorem dR_together_0 : decode bR_together 0 = .ok (.aload_n 0, 1) := by decide +kernel
theorem dR_together_1 : decode bR_together 1 = .ok (.iload_n 1, 1) := by decide +kernel
theorem dR_together_2 : decode bR_together 2 = .ok (.i2l, 1) := by decide +kernel
theorem dR_together_3 : decode bR_together 3 = .ok (.lconst 0, 1) := by decide +kernel
theorem dR_together_4 : decode bR_together 4 = .ok (.ldc2_w 105, 3) := by decide +kernel
theorem dR_together_7 : decode bR_together 7 = .ok (.invokestatic 99, 3) := by decide +kernel
theorem dR_together_10 : decode bR_together 10 = .ok (.ifCond .eq 18, 3) := by decide +kernel
theorem dR_together_13 : decode bR_together 13 = .ok (.lload_n 2, 1) := by decide +kernel
theorem dR_together_14 : decode bR_together 14 = .ok (.lconst 0, 1) := by decide +kernel
theorem dR_together_15 : decode bR_together 15 = .ok (.ldc2_w 117, 3) := by decide +kernel
theorem dR_together_18 : decode bR_together 18 = .ok (.invokestatic 99, 3) := by decide +kernel
theorem dR_together_21 : decode bR_together 21 = .ok (.ifCond .eq 7, 3) := by decide +kernel
theorem dR_together_24 : decode bR_together 24 = .ok (.iconst 0, 1) := by decide +kernel
theorem dR_together_25 : decode bR_together 25 = .ok (.goto 4, 3) := by decide +kernel
theorem dR_together_28 : decode bR_together 28 = .ok (.iconst 1, 1) := by decide +kernel
theorem dR_together_29 : decode bR_together 29 = .ok (.putfield 52, 3) := by decide +kernel
theorem dR_together_32 : decode bR_together 32 = .ok (.aload_n 0, 1) := by decide +kernel
theorem dR_together_33 : decode bR_together 33 = .ok (.getfield 52, 3) := by decide +kernel
theorem dR_together_36 : decode bR_together 36 = .ok (.ifCond .le 7, 3) := by decide +kernel
theorem dR_together_39 : decode bR_together 39 = .ok (.lconst 0, 1) := by decide +kernel
theorem dR_together_40 : decode bR_together 40 = .ok (.goto 10, 3) := by decide +kernel
theorem dR_together_43 : decode bR_together 43 = .ok (.aload_n 0, 1) := by decide +kernel
theorem dR_together_44 : decode bR_together 44 = .ok (.iload_n 1, 1) := by decide +kernel
theorem dR_together_45 : decode bR_together 45 = .ok (.i2l, 1) := by decide +kernel
theorem dR_together_46 : decode bR_together 46 = .ok (.lload_n 2, 1) := by decide +kernel
theorem dR_together_47 : decode bR_together 47 = .ok (.invokevirtual 119, 3) := by decide +kernel
theorem dR_together_50 : decode bR_together 50 = .ok (.lreturn, 1) := by decide +kernel
theorem dR_count_0 : decode bR_count 0 = .ok (.aload_n 0, 1) := by decide +kernel
theorem dR_count_1 : decode bR_count 1 = .ok (.lload_n 1, 1) := by decide +kernel
theorem dR_count_2 : decode bR_count 2 = .ok (.lconst 0, 1) := by decide +kernel
theorem dR_count_3 : decode bR_count 3 = .ok (.ldc2_w 117, 3) := by decide +kernel
theorem dR_count_6 : decode bR_count 6 = .ok (.invokestatic 99, 3) := by decide +kernel
theorem dR_count_9 : decode bR_count 9 = .ok (.ifCond .eq 18, 3) := by decide +kernel
theorem dR_count_12 : decode bR_count 12 = .ok (.lload_n 3, 1) := by decide +kernel
theorem dR_count_13 : decode bR_count 13 = .ok (.lconst 0, 1) := by decide +kernel
theorem dR_count_14 : decode bR_count 14 = .ok (.ldc2_w 117, 3) := by decide +kernel
theorem dR_count_17 : decode bR_count 17 = .ok (.invokestatic 99, 3) := by decide +kernel
theorem dR_count_20 : decode bR_count 20 = .ok (.ifCond .eq 7, 3) := by decide +kernel
theorem dR_count_23 : decode bR_count 23 = .ok (.iconst 0, 1) := by decide +kernel
theorem dR_count_24 : decode bR_count 24 = .ok (.goto 4, 3) := by decide +kernel
theorem dR_count_27 : decode bR_count 27 = .ok (.iconst 1, 1) := by decide +kernel
theorem dR_count_28 : decode bR_count 28 = .ok (.putfield 52, 3) := by decide +kernel
theorem dR_count_31 : decode bR_count 31 = .ok (.iconst 1, 1) := by decide +kernel
theorem dR_count_32 : decode bR_count 32 = .ok (.istore 5, 2) := by decide +kernel
theorem dR_count_34 : decode bR_count 34 = .ok (.aload_n 0, 1) := by decide +kernel
theorem dR_count_35 : decode bR_count 35 = .ok (.getfield 52, 3) := by decide +kernel
theorem dR_count_38 : decode bR_count 38 = .ok (.ifCond .ne 29, 3) := by decide +kernel
theorem dR_count_41 : decode bR_count 41 = .ok (.iload 5, 2) := by decide +kernel
theorem dR_count_43 : decode bR_count 43 = .ok (.bipush 100, 2) := by decide +kernel
theorem dR_count_45 : decode bR_count 45 = .ok (.if_icmp .gt 22, 3) := by decide +kernel
theorem dR_count_48 : decode bR_count 48 = .ok (.aload_n 0, 1) := by decide +kernel
theorem dR_count_49 : decode bR_count 49 = .ok (.iload 5, 2) := by decide +kernel
theorem dR_count_51 : decode bR_count 51 = .ok (.i2l, 1) := by decide +kernel
theorem dR_count_52 : decode bR_count 52 = .ok (.lload_n 3, 1) := by decide +kernel
theorem dR_count_53 : decode bR_count 53 = .ok (.invokevirtual 119, 3) := by decide +kernel
theorem dR_count_56 : decode bR_count 56 = .ok (.lload_n 1, 1) := by decide +kernel
theorem dR_count_57 : decode bR_count 57 = .ok (.lcmp, 1) := by decide +kernel
theorem dR_count_58 : decode bR_count 58 = .ok (.ifCond .ge 9, 3) := by decide +kernel
theorem dR_count_61 : decode bR_count 61 = .ok (.iinc 5 1, 3) := by decide +kernel
theorem dR_count_64 : decode bR_count 64 = .ok (.goto (-30), 3) := by decide +kernel
theorem dR_count_67 : decode bR_count 67 = .ok (.aload_n 0, 1) := by decide +kernel
theorem dR_count_68 : decode bR_count 68 = .ok (.getfield 52, 3) := by decide +kernel
theorem dR_count_71 : decode bR_count 71 = .ok (.ifCond .le 7, 3) := by decide +kernel
theorem dR_count_74 : decode bR_count 74 = .ok (.iconst 0, 1) := by decide +kernel
theorem dR_count_75 : decode bR_count 75 = .ok (.goto 16, 3) := by decide +kernel
theorem dR_count_78 : decode bR_count 78 = .ok (.iload 5, 2) := by decide +kernel
theorem dR_count_80 : decode bR_count 80 = .ok (.bipush 100, 2) := by decide +kernel
theorem dR_count_82 : decode bR_count 82 = .ok (.if_icmp .le 7, 3) := by decide +kernel
theorem dR_count_85 : decode bR_count 85 = .ok (.iconst (-1), 1) := by decide +kernel
theorem dR_count_86 : decode bR_count 86 = .ok (.goto 5, 3) := by decide +kernel
theorem dR_count_89 : decode bR_count 89 = .ok (.iload 5, 2) := by decide +kernel
theorem dR_count_91 : decode bR_count 91 = .ok (.ireturn, 1) := by decide +kernel
theorem dR_space_0 : decode bR_space 0 = .ok (.aload_n 0, 1) := by decide +kernel
theorem dR_space_1 : decode bR_space 1 = .ok (.getfield 16, 3) := by decide +kernel
theorem dR_space_4 : decode bR_space 4 = .ok (.bipush 7, 2) := by decide +kernel
theorem dR_space_6 : decode bR_space 6 = .ok (.iload_n 1, 1) := by decide +kernel
theorem dR_space_7 : decode bR_space 7 = .ok (.imul, 1) := by decide +kernel
theorem dR_space_8 : decode bR_space 8 = .ok (.iload_n 2, 1) := by decide +kernel
theorem dR_space_9 : decode bR_space 9 = .ok (.iadd, 1) := by decide +kernel
theorem dR_space_10 : decode bR_space 10 = .ok (.iaload, 1) := by decide +kernel
theorem dR_space_11 : decode bR_space 11 = .ok (.i2l, 1) := by decide +kernel
theorem dR_space_12 : decode bR_space 12 = .ok (.aload_n 0, 1) := by decide +kernel
theorem dR_space_13 : decode bR_space 13 = .ok (.getfield 16, 3) := by decide +kernel
theorem dR_space_16 : decode bR_space 16 = .ok (.bipush 7, 2) := by decide +kernel
theorem dR_space_18 : decode bR_space 18 = .ok (.iload_n 1, 1) := by decide +kernel
theorem dR_space_19 : decode bR_space 19 = .ok (.imul, 1) := by decide +kernel
theorem dR_space_20 : decode bR_space 20 = .ok (.iaload, 1) := by decide +kernel
theorem dR_space_21 : decode bR_space 21 = .ok (.i2l, 1) := by decide +kernel
theorem dR_space_22 : decode bR_space 22 = .ok (.lmul, 1) := by decide +kernel
theorem dR_space_23 : decode bR_space 23 = .ok (.lreturn, 1) := by decide +kernel
theorem dR_fits_0 : decode bR_fits 0 = .ok (.lload_n 0, 1) := by decide +kernel
theorem dR_fits_1 : decode bR_fits 1 = .ok (.ldc2_w 28, 3) := by decide +kernel
theorem dR_fits_4 : decode bR_fits 4 = .ok (.lload_n 2, 1) := by decide +kernel
theorem dR_fits_5 : decode bR_fits 5 = .ok (.lmul, 1) := by decide +kernel
theorem dR_fits_6 : decode bR_fits 6 = .ok (.lsub, 1) := by decide +kernel
theorem dR_fits_7 : decode bR_fits 7 = .ok (.lstore 6, 2) := by decide +kernel
theorem dR_fits_9 : decode bR_fits 9 = .ok (.lload 6, 2) := by decide +kernel
theorem dR_fits_11 : decode bR_fits 11 = .ok (.lconst 0, 1) := by decide +kernel
theorem dR_fits_12 : decode bR_fits 12 = .ok (.lcmp, 1) := by decide +kernel
theorem dR_fits_13 : decode bR_fits 13 = .ok (.ifCond .ge 7, 3) := by decide +kernel
theorem dR_fits_16 : decode bR_fits 16 = .ok (.lconst 0, 1) := by decide +kernel
theorem dR_fits_17 : decode bR_fits 17 = .ok (.goto 10, 3) := by decide +kernel
theorem dR_fits_20 : decode bR_fits 20 = .ok (.lload 6, 2) := by decide +kernel
theorem dR_fits_22 : decode bR_fits 22 = .ok (.lload 4, 2) := by decide +kernel
theorem dR_fits_24 : decode bR_fits 24 = .ok (.ldiv, 1) := by decide +kernel
theorem dR_fits_25 : decode bR_fits 25 = .ok (.lconst 1, 1) := by decide +kernel
theorem dR_fits_26 : decode bR_fits 26 = .ok (.ladd, 1) := by decide +kernel
theorem dR_fits_27 : decode bR_fits 27 = .ok (.lreturn, 1) := by decide +kernel
theorem dR_pattern_0 : decode bR_pattern 0 = .ok (.iload_n 2, 1) := by decide +kernel
theorem dR_pattern_1 : decode bR_pattern 1 = .ok (.i2l, 1) := by decide +kernel
theorem dR_pattern_2 : decode bR_pattern 2 = .ok (.lconst 1, 1) := by decide +kernel
theorem dR_pattern_3 : decode bR_pattern 3 = .ok (.ldc2_w 123, 3) := by decide +kernel
theorem dR_pattern_6 : decode bR_pattern 6 = .ok (.invokestatic 99, 3) := by decide +kernel
theorem dR_pattern_9 : decode bR_pattern 9 = .ok (.ifCond .eq 32, 3) := by decide +kernel
theorem dR_pattern_12 : decode bR_pattern 12 = .ok (.iload_n 3, 1) := by decide +kernel
theorem dR_pattern_13 : decode bR_pattern 13 = .ok (.i2l, 1) := by decide +kernel
theorem dR_pattern_14 : decode bR_pattern 14 = .ok (.lconst 1, 1) := by decide +kernel
theorem dR_pattern_15 : decode bR_pattern 15 = .ok (.ldc2_w 123, 3) := by decide +kernel
theorem dR_pattern_18 : decode bR_pattern 18 = .ok (.invokestatic 99, 3) := by decide +kernel
theorem dR_pattern_21 : decode bR_pattern 21 = .ok (.ifCond .eq 20, 3) := by decide +kernel
theorem dR_pattern_24 : decode bR_pattern 24 = .ok (.iload 4, 2) := by decide +kernel
theorem dR_pattern_26 : decode bR_pattern 26 = .ok (.i2l, 1) := by decide +kernel
theorem dR_pattern_27 : decode bR_pattern 27 = .ok (.lconst 1, 1) := by decide +kernel
theorem dR_pattern_28 : decode bR_pattern 28 = .ok (.ldc2_w 22, 3) := by decide +kernel
theorem dR_pattern_31 : decode bR_pattern 31 = .ok (.invokestatic 99, 3) := by decide +kernel
theorem dR_pattern_34 : decode bR_pattern 34 = .ok (.ifCond .eq 7, 3) := by decide +kernel
theorem dR_pattern_37 : decode bR_pattern 37 = .ok (.iconst 1, 1) := by decide +kernel
theorem dR_pattern_38 : decode bR_pattern 38 = .ok (.goto 4, 3) := by decide +kernel
theorem dR_pattern_41 : decode bR_pattern 41 = .ok (.iconst 0, 1) := by decide +kernel
theorem dR_pattern_42 : decode bR_pattern 42 = .ok (.istore 5, 2) := by decide +kernel
theorem dR_pattern_44 : decode bR_pattern 44 = .ok (.aload_n 0, 1) := by decide +kernel
theorem dR_pattern_45 : decode bR_pattern 45 = .ok (.iload_n 1, 1) := by decide +kernel
theorem dR_pattern_46 : decode bR_pattern 46 = .ok (.invokestatic 93, 3) := by decide +kernel
theorem dR_pattern_49 : decode bR_pattern 49 = .ok (.ifCond .ne 7, 3) := by decide +kernel
theorem dR_pattern_52 : decode bR_pattern 52 = .ok (.iconst 1, 1) := by decide +kernel
theorem dR_pattern_53 : decode bR_pattern 53 = .ok (.goto 13, 3) := by decide +kernel
theorem dR_pattern_56 : decode bR_pattern 56 = .ok (.iload 5, 2) := by decide +kernel
theorem dR_pattern_58 : decode bR_pattern 58 = .ok (.ifCond .eq 7, 3) := by decide +kernel
theorem dR_pattern_61 : decode bR_pattern 61 = .ok (.iconst 0, 1) := by decide +kernel
theorem dR_pattern_62 : decode bR_pattern 62 = .ok (.goto 4, 3) := by decide +kernel
theorem dR_pattern_65 : decode bR_pattern 65 = .ok (.iconst 2, 1) := by decide +kernel
theorem dR_pattern_66 : decode bR_pattern 66 = .ok (.putfield 52, 3) := by decide +kernel
theorem dR_pattern_69 : decode bR_pattern 69 = .ok (.aload_n 0, 1) := by decide +kernel
theorem dR_pattern_70 : decode bR_pattern 70 = .ok (.getfield 52, 3) := by decide +kernel
theorem dR_pattern_73 : decode bR_pattern 73 = .ok (.ifCond .le 5, 3) := by decide +kernel
theorem dR_pattern_76 : decode bR_pattern 76 = .ok (.iconst 0, 1) := by decide +kernel
theorem dR_pattern_77 : decode bR_pattern 77 = .ok (.ireturn, 1) := by decide +kernel
theorem dR_pattern_78 : decode bR_pattern 78 = .ok (.iload_n 2, 1) := by decide +kernel
theorem dR_pattern_79 : decode bR_pattern 79 = .ok (.i2l, 1) := by decide +kernel
theorem dR_pattern_80 : decode bR_pattern 80 = .ok (.aload_n 0, 1) := by decide +kernel
theorem dR_pattern_81 : decode bR_pattern 81 = .ok (.iload_n 1, 1) := by decide +kernel
theorem dR_pattern_82 : decode bR_pattern 82 = .ok (.iconst 3, 1) := by decide +kernel
theorem dR_pattern_83 : decode bR_pattern 83 = .ok (.invokevirtual 125, 3) := by decide +kernel
theorem dR_pattern_86 : decode bR_pattern 86 = .ok (.aload_n 0, 1) := by decide +kernel
theorem dR_pattern_87 : decode bR_pattern 87 = .ok (.iload_n 1, 1) := by decide +kernel
theorem dR_pattern_88 : decode bR_pattern 88 = .ok (.iconst 4, 1) := by decide +kernel
theorem dR_pattern_89 : decode bR_pattern 89 = .ok (.invokevirtual 125, 3) := by decide +kernel
theorem dR_pattern_92 : decode bR_pattern 92 = .ok (.invokestatic 129, 3) := by decide +kernel
theorem dR_pattern_95 : decode bR_pattern 95 = .ok (.lstore 6, 2) := by decide +kernel
theorem dR_pattern_97 : decode bR_pattern 97 = .ok (.iload_n 3, 1) := by decide +kernel
theorem dR_pattern_98 : decode bR_pattern 98 = .ok (.i2l, 1) := by decide +kernel
theorem dR_pattern_99 : decode bR_pattern 99 = .ok (.aload_n 0, 1) := by decide +kernel
theorem dR_pattern_100 : decode bR_pattern 100 = .ok (.iload_n 1, 1) := by decide +kernel
theorem dR_pattern_101 : decode bR_pattern 101 = .ok (.iconst 2, 1) := by decide +kernel
theorem dR_pattern_102 : decode bR_pattern 102 = .ok (.invokevirtual 125, 3) := by decide +kernel
theorem dR_pattern_105 : decode bR_pattern 105 = .ok (.aload_n 0, 1) := by decide +kernel
theorem dR_pattern_106 : decode bR_pattern 106 = .ok (.iload_n 1, 1) := by decide +kernel
theorem dR_pattern_107 : decode bR_pattern 107 = .ok (.iconst 5, 1) := by decide +kernel
theorem dR_pattern_108 : decode bR_pattern 108 = .ok (.invokevirtual 125, 3) := by decide +kernel
theorem dR_pattern_111 : decode bR_pattern 111 = .ok (.invokestatic 129, 3) := by decide +kernel
theorem dR_pattern_114 : decode bR_pattern 114 = .ok (.lstore 8, 2) := by decide +kernel
theorem dR_pattern_116 : decode bR_pattern 116 = .ok (.lload 6, 2) := by decide +kernel
theorem dR_pattern_118 : decode bR_pattern 118 = .ok (.lload 8, 2) := by decide +kernel
theorem dR_pattern_120 : decode bR_pattern 120 = .ok (.lmul, 1) := by decide +kernel
theorem dR_pattern_121 : decode bR_pattern 121 = .ok (.iload 4, 2) := by decide +kernel
theorem dR_pattern_123 : decode bR_pattern 123 = .ok (.i2l, 1) := by decide +kernel
theorem dR_pattern_124 : decode bR_pattern 124 = .ok (.lcmp, 1) := by decide +kernel
theorem dR_pattern_125 : decode bR_pattern 125 = .ok (.ifCond .ge 5, 3) := by decide +kernel
theorem dR_pattern_128 : decode bR_pattern 128 = .ok (.iconst 0, 1) := by decide +kernel
theorem dR_pattern_129 : decode bR_pattern 129 = .ok (.ireturn, 1) := by decide +kernel
theorem dR_pattern_130 : decode bR_pattern 130 = .ok (.aload_n 0, 1) := by decide +kernel
theorem dR_pattern_131 : decode bR_pattern 131 = .ok (.iload_n 1, 1) := by decide +kernel
theorem dR_pattern_132 : decode bR_pattern 132 = .ok (.putfield 33, 3) := by decide +kernel
theorem dR_pattern_135 : decode bR_pattern 135 = .ok (.aload_n 0, 1) := by decide +kernel
theorem dR_pattern_136 : decode bR_pattern 136 = .ok (.iload 4, 2) := by decide +kernel
theorem dR_pattern_138 : decode bR_pattern 138 = .ok (.putfield 133, 3) := by decide +kernel
theorem dR_pattern_141 : decode bR_pattern 141 = .ok (.aload_n 0, 1) := by decide +kernel
theorem dR_pattern_142 : decode bR_pattern 142 = .ok (.lload 6, 2) := by decide +kernel
theorem dR_pattern_144 : decode bR_pattern 144 = .ok (.l2i, 1) := by decide +kernel
theorem dR_pattern_145 : decode bR_pattern 145 = .ok (.putfield 136, 3) := by decide +kernel
theorem dR_pattern_148 : decode bR_pattern 148 = .ok (.aload_n 0, 1) := by decide +kernel
theorem dR_pattern_149 : decode bR_pattern 149 = .ok (.getfield 37, 3) := by decide +kernel
theorem dR_pattern_152 : decode bR_pattern 152 = .ok (.iconst 0, 1) := by decide +kernel
theorem dR_pattern_153 : decode bR_pattern 153 = .ok (.aload_n 0, 1) := by decide +kernel
theorem dR_pattern_154 : decode bR_pattern 154 = .ok (.iload_n 1, 1) := by decide +kernel
theorem dR_pattern_155 : decode bR_pattern 155 = .ok (.iconst 3, 1) := by decide +kernel
theorem dR_pattern_156 : decode bR_pattern 156 = .ok (.invokevirtual 125, 3) := by decide +kernel
theorem dR_pattern_159 : decode bR_pattern 159 = .ok (.l2i, 1) := by decide +kernel
theorem dR_pattern_160 : decode bR_pattern 160 = .ok (.iastore, 1) := by decide +kernel
theorem dR_pattern_161 : decode bR_pattern 161 = .ok (.aload_n 0, 1) := by decide +kernel
theorem dR_pattern_162 : decode bR_pattern 162 = .ok (.getfield 37, 3) := by decide +kernel
theorem dR_pattern_165 : decode bR_pattern 165 = .ok (.iconst 1, 1) := by decide +kernel
theorem dR_pattern_166 : decode bR_pattern 166 = .ok (.aload_n 0, 1) := by decide +kernel
theorem dR_pattern_167 : decode bR_pattern 167 = .ok (.iload_n 1, 1) := by decide +kernel
theorem dR_pattern_168 : decode bR_pattern 168 = .ok (.iconst 4, 1) := by decide +kernel
theorem dR_pattern_169 : decode bR_pattern 169 = .ok (.invokevirtual 125, 3) := by decide +kernel
theorem dR_pattern_172 : decode bR_pattern 172 = .ok (.l2i, 1) := by decide +kernel
theorem dR_pattern_173 : decode bR_pattern 173 = .ok (.iastore, 1) := by decide +kernel
theorem dR_pattern_174 : decode bR_pattern 174 = .ok (.aload_n 0, 1) := by decide +kernel
theorem dR_pattern_175 : decode bR_pattern 175 = .ok (.getfield 37, 3) := by decide +kernel
theorem dR_pattern_178 : decode bR_pattern 178 = .ok (.iconst 2, 1) := by decide +kernel
theorem dR_pattern_179 : decode bR_pattern 179 = .ok (.aload_n 0, 1) := by decide +kernel
theorem dR_pattern_180 : decode bR_pattern 180 = .ok (.iload_n 1, 1) := by decide +kernel
theorem dR_pattern_181 : decode bR_pattern 181 = .ok (.iconst 2, 1) := by decide +kernel
theorem dR_pattern_182 : decode bR_pattern 182 = .ok (.invokevirtual 125, 3) := by decide +kernel
theorem dR_pattern_185 : decode bR_pattern 185 = .ok (.l2i, 1) := by decide +kernel
theorem dR_pattern_186 : decode bR_pattern 186 = .ok (.iastore, 1) := by decide +kernel
theorem dR_pattern_187 : decode bR_pattern 187 = .ok (.aload_n 0, 1) := by decide +kernel
theorem dR_pattern_188 : decode bR_pattern 188 = .ok (.getfield 37, 3) := by decide +kernel
theorem dR_pattern_191 : decode bR_pattern 191 = .ok (.iconst 3, 1) := by decide +kernel
theorem dR_pattern_192 : decode bR_pattern 192 = .ok (.aload_n 0, 1) := by decide +kernel
theorem dR_pattern_193 : decode bR_pattern 193 = .ok (.iload_n 1, 1) := by decide +kernel
theorem dR_pattern_194 : decode bR_pattern 194 = .ok (.iconst 5, 1) := by decide +kernel
theorem dR_pattern_195 : decode bR_pattern 195 = .ok (.invokevirtual 125, 3) := by decide +kernel
theorem dR_pattern_198 : decode bR_pattern 198 = .ok (.l2i, 1) := by decide +kernel
theorem dR_pattern_199 : decode bR_pattern 199 = .ok (.iastore, 1) := by decide +kernel
theorem dR_pattern_200 : decode bR_pattern 200 = .ok (.iconst 1, 1) := by decide +kernel
theorem dR_pattern_201 : decode bR_pattern 201 = .ok (.ireturn, 1) := by decide +kernel
theorem dR_at_0 : decode bR_at 0 = .ok (.aload_n 0, 1) := by decide +kernel
theorem dR_at_1 : decode bR_at 1 = .ok (.aload_n 0, 1) := by decide +kernel
theorem dR_at_2 : decode bR_at 2 = .ok (.getfield 33, 3) := by decide +kernel
theorem dR_at_5 : decode bR_at 5 = .ok (.iconst (-1), 1) := by decide +kernel
theorem dR_at_6 : decode bR_at 6 = .ok (.if_icmp .ne 7, 3) := by decide +kernel
theorem dR_at_9 : decode bR_at 9 = .ok (.iconst 1, 1) := by decide +kernel
theorem dR_at_10 : decode bR_at 10 = .ok (.goto 33, 3) := by decide +kernel
theorem dR_at_13 : decode bR_at 13 = .ok (.iload_n 1, 1) := by decide +kernel
theorem dR_at_14 : decode bR_at 14 = .ok (.i2l, 1) := by decide +kernel
theorem dR_at_15 : decode bR_at 15 = .ok (.lconst 0, 1) := by decide +kernel
theorem dR_at_16 : decode bR_at 16 = .ok (.aload_n 0, 1) := by decide +kernel
theorem dR_at_17 : decode bR_at 17 = .ok (.getfield 133, 3) := by decide +kernel
theorem dR_at_20 : decode bR_at 20 = .ok (.i2l, 1) := by decide +kernel
theorem dR_at_21 : decode bR_at 21 = .ok (.lconst 1, 1) := by decide +kernel
theorem dR_at_22 : decode bR_at 22 = .ok (.lsub, 1) := by decide +kernel
theorem dR_at_23 : decode bR_at 23 = .ok (.invokestatic 99, 3) := by decide +kernel
theorem dR_at_26 : decode bR_at 26 = .ok (.ifCond .eq 16, 3) := by decide +kernel
theorem dR_at_29 : decode bR_at 29 = .ok (.iload_n 2, 1) := by decide +kernel
theorem dR_at_30 : decode bR_at 30 = .ok (.ifCond .eq 8, 3) := by decide +kernel
theorem dR_at_33 : decode bR_at 33 = .ok (.iload_n 2, 1) := by decide +kernel
theorem dR_at_34 : decode bR_at 34 = .ok (.iconst 1, 1) := by decide +kernel
theorem dR_at_35 : decode bR_at 35 = .ok (.if_icmp .ne 7, 3) := by decide +kernel
theorem dR_at_38 : decode bR_at 38 = .ok (.iconst 0, 1) := by decide +kernel
theorem dR_at_39 : decode bR_at 39 = .ok (.goto 4, 3) := by decide +kernel
theorem dR_at_42 : decode bR_at 42 = .ok (.iconst 2, 1) := by decide +kernel
theorem dR_at_43 : decode bR_at 43 = .ok (.putfield 52, 3) := by decide +kernel
theorem dR_at_46 : decode bR_at 46 = .ok (.aload_n 0, 1) := by decide +kernel
theorem dR_at_47 : decode bR_at 47 = .ok (.getfield 52, 3) := by decide +kernel
theorem dR_at_50 : decode bR_at 50 = .ok (.ifCond .le 5, 3) := by decide +kernel
theorem dR_at_53 : decode bR_at 53 = .ok (.iconst 0, 1) := by decide +kernel
theorem dR_at_54 : decode bR_at 54 = .ok (.ireturn, 1) := by decide +kernel
theorem dR_at_55 : decode bR_at 55 = .ok (.iload_n 2, 1) := by decide +kernel
theorem dR_at_56 : decode bR_at 56 = .ok (.ifCond .ne 26, 3) := by decide +kernel
theorem dR_at_59 : decode bR_at 59 = .ok (.aload_n 0, 1) := by decide +kernel
theorem dR_at_60 : decode bR_at 60 = .ok (.getfield 37, 3) := by decide +kernel
theorem dR_at_63 : decode bR_at 63 = .ok (.iconst 0, 1) := by decide +kernel
theorem dR_at_64 : decode bR_at 64 = .ok (.iaload, 1) := by decide +kernel
theorem dR_at_65 : decode bR_at 65 = .ok (.iload_n 1, 1) := by decide +kernel
theorem dR_at_66 : decode bR_at 66 = .ok (.aload_n 0, 1) := by decide +kernel
theorem dR_at_67 : decode bR_at 67 = .ok (.getfield 136, 3) := by decide +kernel
theorem dR_at_70 : decode bR_at 70 = .ok (.irem, 1) := by decide +kernel
theorem dR_at_71 : decode bR_at 71 = .ok (.aload_n 0, 1) := by decide +kernel
theorem dR_at_72 : decode bR_at 72 = .ok (.getfield 37, 3) := by decide +kernel
theorem dR_at_75 : decode bR_at 75 = .ok (.iconst 1, 1) := by decide +kernel
theorem dR_at_76 : decode bR_at 76 = .ok (.iaload, 1) := by decide +kernel
theorem dR_at_77 : decode bR_at 77 = .ok (.imul, 1) := by decide +kernel
theorem dR_at_78 : decode bR_at 78 = .ok (.iadd, 1) := by decide +kernel
theorem dR_at_79 : decode bR_at 79 = .ok (.goto 23, 3) := by decide +kernel
theorem dR_at_82 : decode bR_at 82 = .ok (.aload_n 0, 1) := by decide +kernel
theorem dR_at_83 : decode bR_at 83 = .ok (.getfield 37, 3) := by decide +kernel
theorem dR_at_86 : decode bR_at 86 = .ok (.iconst 2, 1) := by decide +kernel
theorem dR_at_87 : decode bR_at 87 = .ok (.iaload, 1) := by decide +kernel
theorem dR_at_88 : decode bR_at 88 = .ok (.iload_n 1, 1) := by decide +kernel
theorem dR_at_89 : decode bR_at 89 = .ok (.aload_n 0, 1) := by decide +kernel
theorem dR_at_90 : decode bR_at 90 = .ok (.getfield 136, 3) := by decide +kernel
theorem dR_at_93 : decode bR_at 93 = .ok (.idiv, 1) := by decide +kernel
theorem dR_at_94 : decode bR_at 94 = .ok (.aload_n 0, 1) := by decide +kernel
theorem dR_at_95 : decode bR_at 95 = .ok (.getfield 37, 3) := by decide +kernel
theorem dR_at_98 : decode bR_at 98 = .ok (.iconst 3, 1) := by decide +kernel
theorem dR_at_99 : decode bR_at 99 = .ok (.iaload, 1) := by decide +kernel
theorem dR_at_100 : decode bR_at 100 = .ok (.imul, 1) := by decide +kernel
theorem dR_at_101 : decode bR_at 101 = .ok (.iadd, 1) := by decide +kernel
theorem dR_at_102 : decode bR_at 102 = .ok (.ireturn, 1) := by decide +kernel
theorem dR_place_0 : decode bR_place 0 = .ok (.aload_n 0, 1) := by decide +kernel
theorem dR_place_1 : decode bR_place 1 = .ok (.iload_n 1, 1) := by decide +kernel
theorem dR_place_2 : decode bR_place 2 = .ok (.i2l, 1) := by decide +kernel
theorem dR_place_3 : decode bR_place 3 = .ok (.lconst 0, 1) := by decide +kernel
theorem dR_place_4 : decode bR_place 4 = .ok (.ldc2_w 123, 3) := by decide +kernel
theorem dR_place_7 : decode bR_place 7 = .ok (.invokestatic 99, 3) := by decide +kernel
theorem dR_place_10 : decode bR_place 10 = .ok (.ifCond .eq 15, 3) := by decide +kernel
theorem dR_place_13 : decode bR_place 13 = .ok (.iload_n 2, 1) := by decide +kernel
theorem dR_place_14 : decode bR_place 14 = .ok (.i2l, 1) := by decide +kernel
theorem dR_place_15 : decode bR_place 15 = .ok (.lconst 0, 1) := by decide +kernel
theorem dR_place_16 : decode bR_place 16 = .ok (.ldc2_w 123, 3) := by decide +kernel
theorem dR_place_19 : decode bR_place 19 = .ok (.invokestatic 99, 3) := by decide +kernel
theorem dR_place_22 : decode bR_place 22 = .ok (.ifCond .ne 7, 3) := by decide +kernel
theorem dR_place_25 : decode bR_place 25 = .ok (.iconst 1, 1) := by decide +kernel
theorem dR_place_26 : decode bR_place 26 = .ok (.goto 17, 3) := by decide +kernel
theorem dR_place_29 : decode bR_place 29 = .ok (.aload_n 0, 1) := by decide +kernel
theorem dR_place_30 : decode bR_place 30 = .ok (.getfield 139, 3) := by decide +kernel
theorem dR_place_33 : decode bR_place 33 = .ok (.bipush 32, 2) := by decide +kernel
theorem dR_place_35 : decode bR_place 35 = .ok (.if_icmp .ne 7, 3) := by decide +kernel
theorem dR_place_38 : decode bR_place 38 = .ok (.iconst 2, 1) := by decide +kernel
theorem dR_place_39 : decode bR_place 39 = .ok (.goto 4, 3) := by decide +kernel
theorem dR_place_42 : decode bR_place 42 = .ok (.iconst 0, 1) := by decide +kernel
theorem dR_place_43 : decode bR_place 43 = .ok (.putfield 52, 3) := by decide +kernel
theorem dR_place_46 : decode bR_place 46 = .ok (.aload_n 0, 1) := by decide +kernel
theorem dR_place_47 : decode bR_place 47 = .ok (.getfield 52, 3) := by decide +kernel
theorem dR_place_50 : decode bR_place 50 = .ok (.ifCond .le 5, 3) := by decide +kernel
theorem dR_place_53 : decode bR_place 53 = .ok (.iconst 0, 1) := by decide +kernel
theorem dR_place_54 : decode bR_place 54 = .ok (.ireturn, 1) := by decide +kernel
theorem dR_place_55 : decode bR_place 55 = .ok (.aload_n 0, 1) := by decide +kernel
theorem dR_place_56 : decode bR_place 56 = .ok (.getfield 40, 3) := by decide +kernel
theorem dR_place_59 : decode bR_place 59 = .ok (.aload_n 0, 1) := by decide +kernel
theorem dR_place_60 : decode bR_place 60 = .ok (.getfield 139, 3) := by decide +kernel
theorem dR_place_63 : decode bR_place 63 = .ok (.iload_n 1, 1) := by decide +kernel
theorem dR_place_64 : decode bR_place 64 = .ok (.iastore, 1) := by decide +kernel
theorem dR_place_65 : decode bR_place 65 = .ok (.aload_n 0, 1) := by decide +kernel
theorem dR_place_66 : decode bR_place 66 = .ok (.getfield 43, 3) := by decide +kernel
theorem dR_place_69 : decode bR_place 69 = .ok (.aload_n 0, 1) := by decide +kernel
theorem dR_place_70 : decode bR_place 70 = .ok (.getfield 139, 3) := by decide +kernel
theorem dR_place_73 : decode bR_place 73 = .ok (.iload_n 2, 1) := by decide +kernel
theorem dR_place_74 : decode bR_place 74 = .ok (.iastore, 1) := by decide +kernel
theorem dR_place_75 : decode bR_place 75 = .ok (.aload_n 0, 1) := by decide +kernel
theorem dR_place_76 : decode bR_place 76 = .ok (.dup, 1) := by decide +kernel
theorem dR_place_77 : decode bR_place 77 = .ok (.getfield 139, 3) := by decide +kernel
theorem dR_place_80 : decode bR_place 80 = .ok (.iconst 1, 1) := by decide +kernel
theorem dR_place_81 : decode bR_place 81 = .ok (.iadd, 1) := by decide +kernel
theorem dR_place_82 : decode bR_place 82 = .ok (.putfield 139, 3) := by decide +kernel
theorem dR_place_85 : decode bR_place 85 = .ok (.aload_n 0, 1) := by decide +kernel
theorem dR_place_86 : decode bR_place 86 = .ok (.getfield 139, 3) := by decide +kernel
theorem dR_place_89 : decode bR_place 89 = .ok (.ireturn, 1) := by decide +kernel
theorem dR_clear_0 : decode bR_clear 0 = .ok (.aload_n 0, 1) := by decide +kernel
theorem dR_clear_1 : decode bR_clear 1 = .ok (.iconst 0, 1) := by decide +kernel
theorem dR_clear_2 : decode bR_clear 2 = .ok (.putfield 52, 3) := by decide +kernel
theorem dR_clear_5 : decode bR_clear 5 = .ok (.aload_n 0, 1) := by decide +kernel
theorem dR_clear_6 : decode bR_clear 6 = .ok (.iconst 0, 1) := by decide +kernel
theorem dR_clear_7 : decode bR_clear 7 = .ok (.putfield 139, 3) := by decide +kernel
theorem dR_clear_10 : decode bR_clear 10 = .ok (.return_, 1) := by decide +kernel
theorem dR_keeps_0 : decode bR_keeps 0 = .ok (.aload_n 0, 1) := by decide +kernel
theorem dR_keeps_1 : decode bR_keeps 1 = .ok (.iload_n 1, 1) := by decide +kernel
theorem dR_keeps_2 : decode bR_keeps 2 = .ok (.invokestatic 93, 3) := by decide +kernel
theorem dR_keeps_5 : decode bR_keeps 5 = .ok (.ifCond .ne 7, 3) := by decide +kernel
theorem dR_keeps_8 : decode bR_keeps 8 = .ok (.iconst 1, 1) := by decide +kernel
theorem dR_keeps_9 : decode bR_keeps 9 = .ok (.goto 32, 3) := by decide +kernel
theorem dR_keeps_12 : decode bR_keeps 12 = .ok (.iload_n 2, 1) := by decide +kernel
theorem dR_keeps_13 : decode bR_keeps 13 = .ok (.i2l, 1) := by decide +kernel
theorem dR_keeps_14 : decode bR_keeps 14 = .ok (.lconst 1, 1) := by decide +kernel
theorem dR_keeps_15 : decode bR_keeps 15 = .ok (.ldc2_w 123, 3) := by decide +kernel
theorem dR_keeps_18 : decode bR_keeps 18 = .ok (.invokestatic 99, 3) := by decide +kernel
theorem dR_keeps_21 : decode bR_keeps 21 = .ok (.ifCond .eq 19, 3) := by decide +kernel
theorem dR_keeps_24 : decode bR_keeps 24 = .ok (.iload_n 3, 1) := by decide +kernel
theorem dR_keeps_25 : decode bR_keeps 25 = .ok (.i2l, 1) := by decide +kernel
theorem dR_keeps_26 : decode bR_keeps 26 = .ok (.lconst 1, 1) := by decide +kernel
theorem dR_keeps_27 : decode bR_keeps 27 = .ok (.ldc2_w 123, 3) := by decide +kernel
theorem dR_keeps_30 : decode bR_keeps 30 = .ok (.invokestatic 99, 3) := by decide +kernel
theorem dR_keeps_33 : decode bR_keeps 33 = .ok (.ifCond .eq 7, 3) := by decide +kernel
theorem dR_keeps_36 : decode bR_keeps 36 = .ok (.iconst 0, 1) := by decide +kernel
theorem dR_keeps_37 : decode bR_keeps 37 = .ok (.goto 4, 3) := by decide +kernel
theorem dR_keeps_40 : decode bR_keeps 40 = .ok (.iconst 2, 1) := by decide +kernel
theorem dR_keeps_41 : decode bR_keeps 41 = .ok (.putfield 52, 3) := by decide +kernel
theorem dR_keeps_44 : decode bR_keeps 44 = .ok (.aload_n 0, 1) := by decide +kernel
theorem dR_keeps_45 : decode bR_keeps 45 = .ok (.getfield 52, 3) := by decide +kernel
theorem dR_keeps_48 : decode bR_keeps 48 = .ok (.ifCond .le 5, 3) := by decide +kernel
theorem dR_keeps_51 : decode bR_keeps 51 = .ok (.iconst 0, 1) := by decide +kernel
theorem dR_keeps_52 : decode bR_keeps 52 = .ok (.ireturn, 1) := by decide +kernel
theorem dR_keeps_53 : decode bR_keeps 53 = .ok (.aload_n 0, 1) := by decide +kernel
theorem dR_keeps_54 : decode bR_keeps 54 = .ok (.iload_n 1, 1) := by decide +kernel
theorem dR_keeps_55 : decode bR_keeps 55 = .ok (.iconst 3, 1) := by decide +kernel
theorem dR_keeps_56 : decode bR_keeps 56 = .ok (.invokevirtual 125, 3) := by decide +kernel
theorem dR_keeps_59 : decode bR_keeps 59 = .ok (.lstore 4, 2) := by decide +kernel
theorem dR_keeps_61 : decode bR_keeps 61 = .ok (.aload_n 0, 1) := by decide +kernel
theorem dR_keeps_62 : decode bR_keeps 62 = .ok (.iload_n 1, 1) := by decide +kernel
theorem dR_keeps_63 : decode bR_keeps 63 = .ok (.iconst 2, 1) := by decide +kernel
theorem dR_keeps_64 : decode bR_keeps 64 = .ok (.invokevirtual 125, 3) := by decide +kernel
theorem dR_keeps_67 : decode bR_keeps 67 = .ok (.lstore 6, 2) := by decide +kernel
theorem dR_keeps_69 : decode bR_keeps 69 = .ok (.aload_n 0, 1) := by decide +kernel
theorem dR_keeps_70 : decode bR_keeps 70 = .ok (.iload_n 1, 1) := by decide +kernel
theorem dR_keeps_71 : decode bR_keeps 71 = .ok (.iconst 4, 1) := by decide +kernel
theorem dR_keeps_72 : decode bR_keeps 72 = .ok (.invokevirtual 125, 3) := by decide +kernel
theorem dR_keeps_75 : decode bR_keeps 75 = .ok (.lstore 8, 2) := by decide +kernel
theorem dR_keeps_77 : decode bR_keeps 77 = .ok (.iconst 0, 1) := by decide +kernel
theorem dR_keeps_78 : decode bR_keeps 78 = .ok (.istore 10, 2) := by decide +kernel
theorem dR_keeps_80 : decode bR_keeps 80 = .ok (.iload 10, 2) := by decide +kernel
theorem dR_keeps_82 : decode bR_keeps 82 = .ok (.aload_n 0, 1) := by decide +kernel
theorem dR_keeps_83 : decode bR_keeps 83 = .ok (.getfield 139, 3) := by decide +kernel
theorem dR_keeps_86 : decode bR_keeps 86 = .ok (.if_icmp .ge 76, 3) := by decide +kernel
theorem dR_keeps_89 : decode bR_keeps 89 = .ok (.aload_n 0, 1) := by decide +kernel
theorem dR_keeps_90 : decode bR_keeps 90 = .ok (.getfield 40, 3) := by decide +kernel
theorem dR_keeps_93 : decode bR_keeps 93 = .ok (.iload 10, 2) := by decide +kernel
theorem dR_keeps_95 : decode bR_keeps 95 = .ok (.iaload, 1) := by decide +kernel
theorem dR_keeps_96 : decode bR_keeps 96 = .ok (.i2l, 1) := by decide +kernel
theorem dR_keeps_97 : decode bR_keeps 97 = .ok (.lload 4, 2) := by decide +kernel
theorem dR_keeps_99 : decode bR_keeps 99 = .ok (.lcmp, 1) := by decide +kernel
theorem dR_keeps_100 : decode bR_keeps 100 = .ok (.ifCond .lt 51, 3) := by decide +kernel
theorem dR_keeps_103 : decode bR_keeps 103 = .ok (.aload_n 0, 1) := by decide +kernel
theorem dR_keeps_104 : decode bR_keeps 104 = .ok (.getfield 40, 3) := by decide +kernel
theorem dR_keeps_107 : decode bR_keeps 107 = .ok (.iload 10, 2) := by decide +kernel
theorem dR_keeps_109 : decode bR_keeps 109 = .ok (.iaload, 1) := by decide +kernel
theorem dR_keeps_110 : decode bR_keeps 110 = .ok (.i2l, 1) := by decide +kernel
theorem dR_keeps_111 : decode bR_keeps 111 = .ok (.iload_n 2, 1) := by decide +kernel
theorem dR_keeps_112 : decode bR_keeps 112 = .ok (.i2l, 1) := by decide +kernel
theorem dR_keeps_113 : decode bR_keeps 113 = .ok (.lload 4, 2) := by decide +kernel
theorem dR_keeps_115 : decode bR_keeps 115 = .ok (.lsub, 1) := by decide +kernel
theorem dR_keeps_116 : decode bR_keeps 116 = .ok (.lcmp, 1) := by decide +kernel
theorem dR_keeps_117 : decode bR_keeps 117 = .ok (.ifCond .gt 34, 3) := by decide +kernel
theorem dR_keeps_120 : decode bR_keeps 120 = .ok (.aload_n 0, 1) := by decide +kernel
theorem dR_keeps_121 : decode bR_keeps 121 = .ok (.getfield 43, 3) := by decide +kernel
theorem dR_keeps_124 : decode bR_keeps 124 = .ok (.iload 10, 2) := by decide +kernel
theorem dR_keeps_126 : decode bR_keeps 126 = .ok (.iaload, 1) := by decide +kernel
theorem dR_keeps_127 : decode bR_keeps 127 = .ok (.i2l, 1) := by decide +kernel
theorem dR_keeps_128 : decode bR_keeps 128 = .ok (.lload 6, 2) := by decide +kernel
theorem dR_keeps_130 : decode bR_keeps 130 = .ok (.lcmp, 1) := by decide +kernel
theorem dR_keeps_131 : decode bR_keeps 131 = .ok (.ifCond .lt 20, 3) := by decide +kernel
theorem dR_keeps_134 : decode bR_keeps 134 = .ok (.aload_n 0, 1) := by decide +kernel
theorem dR_keeps_135 : decode bR_keeps 135 = .ok (.getfield 43, 3) := by decide +kernel
theorem dR_keeps_138 : decode bR_keeps 138 = .ok (.iload 10, 2) := by decide +kernel
theorem dR_keeps_140 : decode bR_keeps 140 = .ok (.iaload, 1) := by decide +kernel
theorem dR_keeps_141 : decode bR_keeps 141 = .ok (.i2l, 1) := by decide +kernel
theorem dR_keeps_142 : decode bR_keeps 142 = .ok (.iload_n 3, 1) := by decide +kernel
theorem dR_keeps_143 : decode bR_keeps 143 = .ok (.i2l, 1) := by decide +kernel
theorem dR_keeps_144 : decode bR_keeps 144 = .ok (.lload 6, 2) := by decide +kernel
theorem dR_keeps_146 : decode bR_keeps 146 = .ok (.lsub, 1) := by decide +kernel
theorem dR_keeps_147 : decode bR_keeps 147 = .ok (.lcmp, 1) := by decide +kernel
theorem dR_keeps_148 : decode bR_keeps 148 = .ok (.ifCond .le 8, 3) := by decide +kernel
theorem dR_keeps_151 : decode bR_keeps 151 = .ok (.iconst 1, 1) := by decide +kernel
theorem dR_keeps_152 : decode bR_keeps 152 = .ok (.iload 10, 2) := by decide +kernel
theorem dR_keeps_154 : decode bR_keeps 154 = .ok (.iadd, 1) := by decide +kernel
theorem dR_keeps_155 : decode bR_keeps 155 = .ok (.ireturn, 1) := by decide +kernel
theorem dR_keeps_156 : decode bR_keeps 156 = .ok (.iinc 10 1, 3) := by decide +kernel
theorem dR_keeps_159 : decode bR_keeps 159 = .ok (.goto (-79), 3) := by decide +kernel
theorem dR_keeps_162 : decode bR_keeps 162 = .ok (.iconst 0, 1) := by decide +kernel
theorem dR_keeps_163 : decode bR_keeps 163 = .ok (.istore 10, 2) := by decide +kernel
theorem dR_keeps_165 : decode bR_keeps 165 = .ok (.iload 10, 2) := by decide +kernel
theorem dR_keeps_167 : decode bR_keeps 167 = .ok (.aload_n 0, 1) := by decide +kernel
theorem dR_keeps_168 : decode bR_keeps 168 = .ok (.getfield 139, 3) := by decide +kernel
theorem dR_keeps_171 : decode bR_keeps 171 = .ok (.if_icmp .ge 98, 3) := by decide +kernel
theorem dR_keeps_174 : decode bR_keeps 174 = .ok (.iload 10, 2) := by decide +kernel
theorem dR_keeps_176 : decode bR_keeps 176 = .ok (.iconst 1, 1) := by decide +kernel
theorem dR_keeps_177 : decode bR_keeps 177 = .ok (.iadd, 1) := by decide +kernel
theorem dR_keeps_178 : decode bR_keeps 178 = .ok (.istore 11, 2) := by decide +kernel
theorem dR_keeps_180 : decode bR_keeps 180 = .ok (.iload 11, 2) := by decide +kernel
theorem dR_keeps_182 : decode bR_keeps 182 = .ok (.aload_n 0, 1) := by decide +kernel
theorem dR_keeps_183 : decode bR_keeps 183 = .ok (.getfield 139, 3) := by decide +kernel
theorem dR_keeps_186 : decode bR_keeps 186 = .ok (.if_icmp .ge 77, 3) := by decide +kernel
theorem dR_keeps_189 : decode bR_keeps 189 = .ok (.aload_n 0, 1) := by decide +kernel
theorem dR_keeps_190 : decode bR_keeps 190 = .ok (.getfield 40, 3) := by decide +kernel
theorem dR_keeps_193 : decode bR_keeps 193 = .ok (.iload 10, 2) := by decide +kernel
theorem dR_keeps_195 : decode bR_keeps 195 = .ok (.iaload, 1) := by decide +kernel
theorem dR_keeps_196 : decode bR_keeps 196 = .ok (.aload_n 0, 1) := by decide +kernel
theorem dR_keeps_197 : decode bR_keeps 197 = .ok (.getfield 40, 3) := by decide +kernel
theorem dR_keeps_200 : decode bR_keeps 200 = .ok (.iload 11, 2) := by decide +kernel
theorem dR_keeps_202 : decode bR_keeps 202 = .ok (.iaload, 1) := by decide +kernel
theorem dR_keeps_203 : decode bR_keeps 203 = .ok (.isub, 1) := by decide +kernel
theorem dR_keeps_204 : decode bR_keeps 204 = .ok (.i2l, 1) := by decide +kernel
theorem dR_keeps_205 : decode bR_keeps 205 = .ok (.lstore 12, 2) := by decide +kernel
theorem dR_keeps_207 : decode bR_keeps 207 = .ok (.aload_n 0, 1) := by decide +kernel
theorem dR_keeps_208 : decode bR_keeps 208 = .ok (.getfield 43, 3) := by decide +kernel
theorem dR_keeps_211 : decode bR_keeps 211 = .ok (.iload 10, 2) := by decide +kernel
theorem dR_keeps_213 : decode bR_keeps 213 = .ok (.iaload, 1) := by decide +kernel
theorem dR_keeps_214 : decode bR_keeps 214 = .ok (.aload_n 0, 1) := by decide +kernel
theorem dR_keeps_215 : decode bR_keeps 215 = .ok (.getfield 43, 3) := by decide +kernel
theorem dR_keeps_218 : decode bR_keeps 218 = .ok (.iload 11, 2) := by decide +kernel
theorem dR_keeps_220 : decode bR_keeps 220 = .ok (.iaload, 1) := by decide +kernel
theorem dR_keeps_221 : decode bR_keeps 221 = .ok (.isub, 1) := by decide +kernel
theorem dR_keeps_222 : decode bR_keeps 222 = .ok (.i2l, 1) := by decide +kernel
theorem dR_keeps_223 : decode bR_keeps 223 = .ok (.lstore 14, 2) := by decide +kernel
theorem dR_keeps_225 : decode bR_keeps 225 = .ok (.lload 12, 2) := by decide +kernel
theorem dR_keeps_227 : decode bR_keeps 227 = .ok (.lload 12, 2) := by decide +kernel
theorem dR_keeps_229 : decode bR_keeps 229 = .ok (.lmul, 1) := by decide +kernel
theorem dR_keeps_230 : decode bR_keeps 230 = .ok (.lload 14, 2) := by decide +kernel
theorem dR_keeps_232 : decode bR_keeps 232 = .ok (.lload 14, 2) := by decide +kernel
theorem dR_keeps_234 : decode bR_keeps 234 = .ok (.lmul, 1) := by decide +kernel
theorem dR_keeps_235 : decode bR_keeps 235 = .ok (.ladd, 1) := by decide +kernel
theorem dR_keeps_236 : decode bR_keeps 236 = .ok (.lload 8, 2) := by decide +kernel
theorem dR_keeps_238 : decode bR_keeps 238 = .ok (.lload 8, 2) := by decide +kernel
theorem dR_keeps_240 : decode bR_keeps 240 = .ok (.lmul, 1) := by decide +kernel
theorem dR_keeps_241 : decode bR_keeps 241 = .ok (.lcmp, 1) := by decide +kernel
theorem dR_keeps_242 : decode bR_keeps 242 = .ok (.ifCond .ge 15, 3) := by decide +kernel
theorem dR_keeps_245 : decode bR_keeps 245 = .ok (.bipush 100, 2) := by decide +kernel
theorem dR_keeps_247 : decode bR_keeps 247 = .ok (.bipush 32, 2) := by decide +kernel
theorem dR_keeps_249 : decode bR_keeps 249 = .ok (.iload 10, 2) := by decide +kernel
theorem dR_keeps_251 : decode bR_keeps 251 = .ok (.imul, 1) := by decide +kernel
theorem dR_keeps_252 : decode bR_keeps 252 = .ok (.iadd, 1) := by decide +kernel
theorem dR_keeps_253 : decode bR_keeps 253 = .ok (.iload 11, 2) := by decide +kernel
theorem dR_keeps_255 : decode bR_keeps 255 = .ok (.iadd, 1) := by decide +kernel
theorem dR_keeps_256 : decode bR_keeps 256 = .ok (.ireturn, 1) := by decide +kernel
theorem dR_keeps_257 : decode bR_keeps 257 = .ok (.iinc 11 1, 3) := by decide +kernel
theorem dR_keeps_260 : decode bR_keeps 260 = .ok (.goto (-80), 3) := by decide +kernel
theorem dR_keeps_263 : decode bR_keeps 263 = .ok (.iinc 10 1, 3) := by decide +kernel
theorem dR_keeps_266 : decode bR_keeps 266 = .ok (.goto (-101), 3) := by decide +kernel
theorem dR_keeps_269 : decode bR_keeps 269 = .ok (.iconst 0, 1) := by decide +kernel
theorem dR_keeps_270 : decode bR_keeps 270 = .ok (.ireturn, 1) := by decide +kernel
theorem dR_isPlace_0 : decode bR_isPlace 0 = .ok (.iload_n 0, 1) := by decide +kernel
theorem dR_isPlace_1 : decode bR_isPlace 1 = .ok (.i2l, 1) := by decide +kernel
theorem dR_isPlace_2 : decode bR_isPlace 2 = .ok (.ldc2_w 142, 3) := by decide +kernel
theorem dR_isPlace_5 : decode bR_isPlace 5 = .ok (.ldc2_w 144, 3) := by decide +kernel
theorem dR_isPlace_8 : decode bR_isPlace 8 = .ok (.invokestatic 99, 3) := by decide +kernel
theorem dR_isPlace_11 : decode bR_isPlace 11 = .ok (.ireturn, 1) := by decide +kernel
theorem dR_member_0 : decode bR_member 0 = .ok (.iload_n 1, 1) := by decide +kernel
theorem dR_member_1 : decode bR_member 1 = .ok (.invokestatic 146, 3) := by decide +kernel
theorem dR_member_4 : decode bR_member 4 = .ok (.ifCond .eq 53, 3) := by decide +kernel
theorem dR_member_7 : decode bR_member 7 = .ok (.iload_n 2, 1) := by decide +kernel
theorem dR_member_8 : decode bR_member 8 = .ok (.invokestatic 146, 3) := by decide +kernel
theorem dR_member_11 : decode bR_member 11 = .ok (.ifCond .eq 46, 3) := by decide +kernel
theorem dR_member_14 : decode bR_member 14 = .ok (.iload_n 3, 1) := by decide +kernel
theorem dR_member_15 : decode bR_member 15 = .ok (.invokestatic 146, 3) := by decide +kernel
theorem dR_member_18 : decode bR_member 18 = .ok (.ifCond .eq 39, 3) := by decide +kernel
theorem dR_member_21 : decode bR_member 21 = .ok (.iload 4, 2) := by decide +kernel
theorem dR_member_23 : decode bR_member 23 = .ok (.invokestatic 146, 3) := by decide +kernel
theorem dR_member_26 : decode bR_member 26 = .ok (.ifCond .eq 31, 3) := by decide +kernel
theorem dR_member_29 : decode bR_member 29 = .ok (.iload_n 1, 1) := by decide +kernel
theorem dR_member_30 : decode bR_member 30 = .ok (.iload_n 3, 1) := by decide +kernel
theorem dR_member_31 : decode bR_member 31 = .ok (.if_icmp .ne 9, 3) := by decide +kernel
theorem dR_member_34 : decode bR_member 34 = .ok (.iload_n 2, 1) := by decide +kernel
theorem dR_member_35 : decode bR_member 35 = .ok (.iload 4, 2) := by decide +kernel
theorem dR_member_37 : decode bR_member 37 = .ok (.if_icmp .eq 20, 3) := by decide +kernel
theorem dR_member_40 : decode bR_member 40 = .ok (.iload 5, 2) := by decide +kernel
theorem dR_member_42 : decode bR_member 42 = .ok (.i2l, 1) := by decide +kernel
theorem dR_member_43 : decode bR_member 43 = .ok (.lconst 1, 1) := by decide +kernel
theorem dR_member_44 : decode bR_member 44 = .ok (.ldc2_w 144, 3) := by decide +kernel
theorem dR_member_47 : decode bR_member 47 = .ok (.invokestatic 99, 3) := by decide +kernel
theorem dR_member_50 : decode bR_member 50 = .ok (.ifCond .eq 7, 3) := by decide +kernel
theorem dR_member_53 : decode bR_member 53 = .ok (.iconst 1, 1) := by decide +kernel
theorem dR_member_54 : decode bR_member 54 = .ok (.goto 4, 3) := by decide +kernel
theorem dR_member_57 : decode bR_member 57 = .ok (.iconst 0, 1) := by decide +kernel
theorem dR_member_58 : decode bR_member 58 = .ok (.istore 6, 2) := by decide +kernel
theorem dR_member_60 : decode bR_member 60 = .ok (.aload_n 0, 1) := by decide +kernel
theorem dR_member_61 : decode bR_member 61 = .ok (.iload 6, 2) := by decide +kernel
theorem dR_member_63 : decode bR_member 63 = .ok (.ifCond .ne 7, 3) := by decide +kernel
theorem dR_member_66 : decode bR_member 66 = .ok (.iconst 1, 1) := by decide +kernel
theorem dR_member_67 : decode bR_member 67 = .ok (.goto 17, 3) := by decide +kernel
theorem dR_member_70 : decode bR_member 70 = .ok (.aload_n 0, 1) := by decide +kernel
theorem dR_member_71 : decode bR_member 71 = .ok (.getfield 149, 3) := by decide +kernel
theorem dR_member_74 : decode bR_member 74 = .ok (.bipush 6, 2) := by decide +kernel
theorem dR_member_76 : decode bR_member 76 = .ok (.if_icmp .ne 7, 3) := by decide +kernel
theorem dR_member_79 : decode bR_member 79 = .ok (.iconst 2, 1) := by decide +kernel
theorem dR_member_80 : decode bR_member 80 = .ok (.goto 4, 3) := by decide +kernel
theorem dR_member_83 : decode bR_member 83 = .ok (.iconst 0, 1) := by decide +kernel
theorem dR_member_84 : decode bR_member 84 = .ok (.putfield 52, 3) := by decide +kernel
theorem dR_member_87 : decode bR_member 87 = .ok (.aload_n 0, 1) := by decide +kernel
theorem dR_member_88 : decode bR_member 88 = .ok (.getfield 52, 3) := by decide +kernel
theorem dR_member_91 : decode bR_member 91 = .ok (.ifCond .le 5, 3) := by decide +kernel
theorem dR_member_94 : decode bR_member 94 = .ok (.iconst 0, 1) := by decide +kernel
theorem dR_member_95 : decode bR_member 95 = .ok (.ireturn, 1) := by decide +kernel
theorem dR_member_96 : decode bR_member 96 = .ok (.aload_n 0, 1) := by decide +kernel
theorem dR_member_97 : decode bR_member 97 = .ok (.getfield 46, 3) := by decide +kernel
theorem dR_member_100 : decode bR_member 100 = .ok (.iconst 4, 1) := by decide +kernel
theorem dR_member_101 : decode bR_member 101 = .ok (.aload_n 0, 1) := by decide +kernel
theorem dR_member_102 : decode bR_member 102 = .ok (.getfield 149, 3) := by decide +kernel
theorem dR_member_105 : decode bR_member 105 = .ok (.imul, 1) := by decide +kernel
theorem dR_member_106 : decode bR_member 106 = .ok (.iload_n 1, 1) := by decide +kernel
theorem dR_member_107 : decode bR_member 107 = .ok (.iastore, 1) := by decide +kernel
theorem dR_member_108 : decode bR_member 108 = .ok (.aload_n 0, 1) := by decide +kernel
theorem dR_member_109 : decode bR_member 109 = .ok (.getfield 46, 3) := by decide +kernel
theorem dR_member_112 : decode bR_member 112 = .ok (.iconst 4, 1) := by decide +kernel
theorem dR_member_113 : decode bR_member 113 = .ok (.aload_n 0, 1) := by decide +kernel
theorem dR_member_114 : decode bR_member 114 = .ok (.getfield 149, 3) := by decide +kernel
theorem dR_member_117 : decode bR_member 117 = .ok (.imul, 1) := by decide +kernel
theorem dR_member_118 : decode bR_member 118 = .ok (.iconst 1, 1) := by decide +kernel
theorem dR_member_119 : decode bR_member 119 = .ok (.iadd, 1) := by decide +kernel
theorem dR_member_120 : decode bR_member 120 = .ok (.iload_n 2, 1) := by decide +kernel
theorem dR_member_121 : decode bR_member 121 = .ok (.iastore, 1) := by decide +kernel
theorem dR_member_122 : decode bR_member 122 = .ok (.aload_n 0, 1) := by decide +kernel
theorem dR_member_123 : decode bR_member 123 = .ok (.getfield 46, 3) := by decide +kernel
theorem dR_member_126 : decode bR_member 126 = .ok (.iconst 4, 1) := by decide +kernel
theorem dR_member_127 : decode bR_member 127 = .ok (.aload_n 0, 1) := by decide +kernel
theorem dR_member_128 : decode bR_member 128 = .ok (.getfield 149, 3) := by decide +kernel
theorem dR_member_131 : decode bR_member 131 = .ok (.imul, 1) := by decide +kernel
theorem dR_member_132 : decode bR_member 132 = .ok (.iconst 2, 1) := by decide +kernel
theorem dR_member_133 : decode bR_member 133 = .ok (.iadd, 1) := by decide +kernel
theorem dR_member_134 : decode bR_member 134 = .ok (.iload_n 3, 1) := by decide +kernel
theorem dR_member_135 : decode bR_member 135 = .ok (.iastore, 1) := by decide +kernel
theorem dR_member_136 : decode bR_member 136 = .ok (.aload_n 0, 1) := by decide +kernel
theorem dR_member_137 : decode bR_member 137 = .ok (.getfield 46, 3) := by decide +kernel
theorem dR_member_140 : decode bR_member 140 = .ok (.iconst 4, 1) := by decide +kernel
theorem dR_member_141 : decode bR_member 141 = .ok (.aload_n 0, 1) := by decide +kernel
theorem dR_member_142 : decode bR_member 142 = .ok (.getfield 149, 3) := by decide +kernel
theorem dR_member_145 : decode bR_member 145 = .ok (.imul, 1) := by decide +kernel
theorem dR_member_146 : decode bR_member 146 = .ok (.iconst 3, 1) := by decide +kernel
theorem dR_member_147 : decode bR_member 147 = .ok (.iadd, 1) := by decide +kernel
theorem dR_member_148 : decode bR_member 148 = .ok (.iload 4, 2) := by decide +kernel
theorem dR_member_150 : decode bR_member 150 = .ok (.iastore, 1) := by decide +kernel
theorem dR_member_151 : decode bR_member 151 = .ok (.aload_n 0, 1) := by decide +kernel
theorem dR_member_152 : decode bR_member 152 = .ok (.getfield 49, 3) := by decide +kernel
theorem dR_member_155 : decode bR_member 155 = .ok (.aload_n 0, 1) := by decide +kernel
theorem dR_member_156 : decode bR_member 156 = .ok (.getfield 149, 3) := by decide +kernel
theorem dR_member_159 : decode bR_member 159 = .ok (.iload 5, 2) := by decide +kernel
theorem dR_member_161 : decode bR_member 161 = .ok (.iastore, 1) := by decide +kernel
theorem dR_member_162 : decode bR_member 162 = .ok (.aload_n 0, 1) := by decide +kernel
theorem dR_member_163 : decode bR_member 163 = .ok (.dup, 1) := by decide +kernel
theorem dR_member_164 : decode bR_member 164 = .ok (.getfield 149, 3) := by decide +kernel
theorem dR_member_167 : decode bR_member 167 = .ok (.iconst 1, 1) := by decide +kernel
theorem dR_member_168 : decode bR_member 168 = .ok (.iadd, 1) := by decide +kernel
theorem dR_member_169 : decode bR_member 169 = .ok (.putfield 149, 3) := by decide +kernel
theorem dR_member_172 : decode bR_member 172 = .ok (.aload_n 0, 1) := by decide +kernel
theorem dR_member_173 : decode bR_member 173 = .ok (.getfield 149, 3) := by decide +kernel
theorem dR_member_176 : decode bR_member 176 = .ok (.iconst 1, 1) := by decide +kernel
theorem dR_member_177 : decode bR_member 177 = .ok (.isub, 1) := by decide +kernel
theorem dR_member_178 : decode bR_member 178 = .ok (.ireturn, 1) := by decide +kernel
theorem dR_isWithin_0 : decode bR_isWithin 0 = .ok (.aload_n 0, 1) := by decide +kernel
theorem dR_isWithin_1 : decode bR_isWithin 1 = .ok (.getfield 46, 3) := by decide +kernel
theorem dR_isWithin_4 : decode bR_isWithin 4 = .ok (.iconst 4, 1) := by decide +kernel
theorem dR_isWithin_5 : decode bR_isWithin 5 = .ok (.iload_n 1, 1) := by decide +kernel
theorem dR_isWithin_6 : decode bR_isWithin 6 = .ok (.imul, 1) := by decide +kernel
theorem dR_isWithin_7 : decode bR_isWithin 7 = .ok (.iconst 2, 1) := by decide +kernel
theorem dR_isWithin_8 : decode bR_isWithin 8 = .ok (.iadd, 1) := by decide +kernel
theorem dR_isWithin_9 : decode bR_isWithin 9 = .ok (.iaload, 1) := by decide +kernel
theorem dR_isWithin_10 : decode bR_isWithin 10 = .ok (.aload_n 0, 1) := by decide +kernel
theorem dR_isWithin_11 : decode bR_isWithin 11 = .ok (.getfield 46, 3) := by decide +kernel
theorem dR_isWithin_14 : decode bR_isWithin 14 = .ok (.iconst 4, 1) := by decide +kernel
theorem dR_isWithin_15 : decode bR_isWithin 15 = .ok (.iload_n 1, 1) := by decide +kernel
theorem dR_isWithin_16 : decode bR_isWithin 16 = .ok (.imul, 1) := by decide +kernel
theorem dR_isWithin_17 : decode bR_isWithin 17 = .ok (.iaload, 1) := by decide +kernel
theorem dR_isWithin_18 : decode bR_isWithin 18 = .ok (.isub, 1) := by decide +kernel
theorem dR_isWithin_19 : decode bR_isWithin 19 = .ok (.i2l, 1) := by decide +kernel
theorem dR_isWithin_20 : decode bR_isWithin 20 = .ok (.lstore 6, 2) := by decide +kernel
theorem dR_isWithin_22 : decode bR_isWithin 22 = .ok (.aload_n 0, 1) := by decide +kernel
theorem dR_isWithin_23 : decode bR_isWithin 23 = .ok (.getfield 46, 3) := by decide +kernel
theorem dR_isWithin_26 : decode bR_isWithin 26 = .ok (.iconst 4, 1) := by decide +kernel
theorem dR_isWithin_27 : decode bR_isWithin 27 = .ok (.iload_n 1, 1) := by decide +kernel
theorem dR_isWithin_28 : decode bR_isWithin 28 = .ok (.imul, 1) := by decide +kernel
theorem dR_isWithin_29 : decode bR_isWithin 29 = .ok (.iconst 3, 1) := by decide +kernel
theorem dR_isWithin_30 : decode bR_isWithin 30 = .ok (.iadd, 1) := by decide +kernel
theorem dR_isWithin_31 : decode bR_isWithin 31 = .ok (.iaload, 1) := by decide +kernel
theorem dR_isWithin_32 : decode bR_isWithin 32 = .ok (.aload_n 0, 1) := by decide +kernel
theorem dR_isWithin_33 : decode bR_isWithin 33 = .ok (.getfield 46, 3) := by decide +kernel
theorem dR_isWithin_36 : decode bR_isWithin 36 = .ok (.iconst 4, 1) := by decide +kernel
theorem dR_isWithin_37 : decode bR_isWithin 37 = .ok (.iload_n 1, 1) := by decide +kernel
theorem dR_isWithin_38 : decode bR_isWithin 38 = .ok (.imul, 1) := by decide +kernel
theorem dR_isWithin_39 : decode bR_isWithin 39 = .ok (.iconst 1, 1) := by decide +kernel
theorem dR_isWithin_40 : decode bR_isWithin 40 = .ok (.iadd, 1) := by decide +kernel
theorem dR_isWithin_41 : decode bR_isWithin 41 = .ok (.iaload, 1) := by decide +kernel
theorem dR_isWithin_42 : decode bR_isWithin 42 = .ok (.isub, 1) := by decide +kernel
theorem dR_isWithin_43 : decode bR_isWithin 43 = .ok (.i2l, 1) := by decide +kernel
theorem dR_isWithin_44 : decode bR_isWithin 44 = .ok (.lstore 8, 2) := by decide +kernel
theorem dR_isWithin_46 : decode bR_isWithin 46 = .ok (.lload_n 2, 1) := by decide +kernel
theorem dR_isWithin_47 : decode bR_isWithin 47 = .ok (.aload_n 0, 1) := by decide +kernel
theorem dR_isWithin_48 : decode bR_isWithin 48 = .ok (.getfield 46, 3) := by decide +kernel
theorem dR_isWithin_51 : decode bR_isWithin 51 = .ok (.iconst 4, 1) := by decide +kernel
theorem dR_isWithin_52 : decode bR_isWithin 52 = .ok (.iload_n 1, 1) := by decide +kernel
theorem dR_isWithin_53 : decode bR_isWithin 53 = .ok (.imul, 1) := by decide +kernel
theorem dR_isWithin_54 : decode bR_isWithin 54 = .ok (.iaload, 1) := by decide +kernel
theorem dR_isWithin_55 : decode bR_isWithin 55 = .ok (.i2l, 1) := by decide +kernel
theorem dR_isWithin_56 : decode bR_isWithin 56 = .ok (.lsub, 1) := by decide +kernel
theorem dR_isWithin_57 : decode bR_isWithin 57 = .ok (.lstore 10, 2) := by decide +kernel
theorem dR_isWithin_59 : decode bR_isWithin 59 = .ok (.lload 4, 2) := by decide +kernel
theorem dR_isWithin_61 : decode bR_isWithin 61 = .ok (.aload_n 0, 1) := by decide +kernel
theorem dR_isWithin_62 : decode bR_isWithin 62 = .ok (.getfield 46, 3) := by decide +kernel
theorem dR_isWithin_65 : decode bR_isWithin 65 = .ok (.iconst 4, 1) := by decide +kernel
theorem dR_isWithin_66 : decode bR_isWithin 66 = .ok (.iload_n 1, 1) := by decide +kernel
theorem dR_isWithin_67 : decode bR_isWithin 67 = .ok (.imul, 1) := by decide +kernel
theorem dR_isWithin_68 : decode bR_isWithin 68 = .ok (.iconst 1, 1) := by decide +kernel
theorem dR_isWithin_69 : decode bR_isWithin 69 = .ok (.iadd, 1) := by decide +kernel
theorem dR_isWithin_70 : decode bR_isWithin 70 = .ok (.iaload, 1) := by decide +kernel
theorem dR_isWithin_71 : decode bR_isWithin 71 = .ok (.i2l, 1) := by decide +kernel
theorem dR_isWithin_72 : decode bR_isWithin 72 = .ok (.lsub, 1) := by decide +kernel
theorem dR_isWithin_73 : decode bR_isWithin 73 = .ok (.lstore 12, 2) := by decide +kernel
theorem dR_isWithin_75 : decode bR_isWithin 75 = .ok (.lload 6, 2) := by decide +kernel
theorem dR_isWithin_77 : decode bR_isWithin 77 = .ok (.lload 6, 2) := by decide +kernel
theorem dR_isWithin_79 : decode bR_isWithin 79 = .ok (.lmul, 1) := by decide +kernel
theorem dR_isWithin_80 : decode bR_isWithin 80 = .ok (.lload 8, 2) := by decide +kernel
theorem dR_isWithin_82 : decode bR_isWithin 82 = .ok (.lload 8, 2) := by decide +kernel
theorem dR_isWithin_84 : decode bR_isWithin 84 = .ok (.lmul, 1) := by decide +kernel
theorem dR_isWithin_85 : decode bR_isWithin 85 = .ok (.ladd, 1) := by decide +kernel
theorem dR_isWithin_86 : decode bR_isWithin 86 = .ok (.lstore 14, 2) := by decide +kernel
theorem dR_isWithin_88 : decode bR_isWithin 88 = .ok (.lload 6, 2) := by decide +kernel
theorem dR_isWithin_90 : decode bR_isWithin 90 = .ok (.lload 10, 2) := by decide +kernel
theorem dR_isWithin_92 : decode bR_isWithin 92 = .ok (.lmul, 1) := by decide +kernel
theorem dR_isWithin_93 : decode bR_isWithin 93 = .ok (.lload 8, 2) := by decide +kernel
theorem dR_isWithin_95 : decode bR_isWithin 95 = .ok (.lload 12, 2) := by decide +kernel
theorem dR_isWithin_97 : decode bR_isWithin 97 = .ok (.lmul, 1) := by decide +kernel
theorem dR_isWithin_98 : decode bR_isWithin 98 = .ok (.ladd, 1) := by decide +kernel
theorem dR_isWithin_99 : decode bR_isWithin 99 = .ok (.lstore 16, 2) := by decide +kernel
theorem dR_isWithin_101 : decode bR_isWithin 101 = .ok (.lload 6, 2) := by decide +kernel
theorem dR_isWithin_103 : decode bR_isWithin 103 = .ok (.lload 12, 2) := by decide +kernel
theorem dR_isWithin_105 : decode bR_isWithin 105 = .ok (.lmul, 1) := by decide +kernel
theorem dR_isWithin_106 : decode bR_isWithin 106 = .ok (.lload 8, 2) := by decide +kernel
theorem dR_isWithin_108 : decode bR_isWithin 108 = .ok (.lload 10, 2) := by decide +kernel
theorem dR_isWithin_110 : decode bR_isWithin 110 = .ok (.lmul, 1) := by decide +kernel
theorem dR_isWithin_111 : decode bR_isWithin 111 = .ok (.lsub, 1) := by decide +kernel
theorem dR_isWithin_112 : decode bR_isWithin 112 = .ok (.lstore 18, 2) := by decide +kernel
theorem dR_isWithin_114 : decode bR_isWithin 114 = .ok (.lload 16, 2) := by decide +kernel
theorem dR_isWithin_116 : decode bR_isWithin 116 = .ok (.lconst 0, 1) := by decide +kernel
theorem dR_isWithin_117 : decode bR_isWithin 117 = .ok (.lcmp, 1) := by decide +kernel
theorem dR_isWithin_118 : decode bR_isWithin 118 = .ok (.ifCond .lt 46, 3) := by decide +kernel
theorem dR_isWithin_121 : decode bR_isWithin 121 = .ok (.lload 16, 2) := by decide +kernel
theorem dR_isWithin_123 : decode bR_isWithin 123 = .ok (.lload 14, 2) := by decide +kernel
theorem dR_isWithin_125 : decode bR_isWithin 125 = .ok (.lcmp, 1) := by decide +kernel
theorem dR_isWithin_126 : decode bR_isWithin 126 = .ok (.ifCond .gt 38, 3) := by decide +kernel
theorem dR_isWithin_129 : decode bR_isWithin 129 = .ok (.ldc2_w 103, 3) := by decide +kernel
theorem dR_isWithin_132 : decode bR_isWithin 132 = .ok (.lload 18, 2) := by decide +kernel
theorem dR_isWithin_134 : decode bR_isWithin 134 = .ok (.lmul, 1) := by decide +kernel
theorem dR_isWithin_135 : decode bR_isWithin 135 = .ok (.lload 18, 2) := by decide +kernel
theorem dR_isWithin_137 : decode bR_isWithin 137 = .ok (.lmul, 1) := by decide +kernel
theorem dR_isWithin_138 : decode bR_isWithin 138 = .ok (.aload_n 0, 1) := by decide +kernel
theorem dR_isWithin_139 : decode bR_isWithin 139 = .ok (.getfield 49, 3) := by decide +kernel
theorem dR_isWithin_142 : decode bR_isWithin 142 = .ok (.iload_n 1, 1) := by decide +kernel
theorem dR_isWithin_143 : decode bR_isWithin 143 = .ok (.iaload, 1) := by decide +kernel
theorem dR_isWithin_144 : decode bR_isWithin 144 = .ok (.i2l, 1) := by decide +kernel
theorem dR_isWithin_145 : decode bR_isWithin 145 = .ok (.aload_n 0, 1) := by decide +kernel
theorem dR_isWithin_146 : decode bR_isWithin 146 = .ok (.getfield 49, 3) := by decide +kernel
theorem dR_isWithin_149 : decode bR_isWithin 149 = .ok (.iload_n 1, 1) := by decide +kernel
theorem dR_isWithin_150 : decode bR_isWithin 150 = .ok (.iaload, 1) := by decide +kernel
theorem dR_isWithin_151 : decode bR_isWithin 151 = .ok (.i2l, 1) := by decide +kernel
theorem dR_isWithin_152 : decode bR_isWithin 152 = .ok (.lmul, 1) := by decide +kernel
theorem dR_isWithin_153 : decode bR_isWithin 153 = .ok (.lload 14, 2) := by decide +kernel
theorem dR_isWithin_155 : decode bR_isWithin 155 = .ok (.lmul, 1) := by decide +kernel
theorem dR_isWithin_156 : decode bR_isWithin 156 = .ok (.lcmp, 1) := by decide +kernel
theorem dR_isWithin_157 : decode bR_isWithin 157 = .ok (.ifCond .gt 7, 3) := by decide +kernel
theorem dR_isWithin_160 : decode bR_isWithin 160 = .ok (.iconst 1, 1) := by decide +kernel
theorem dR_isWithin_161 : decode bR_isWithin 161 = .ok (.goto 4, 3) := by decide +kernel
theorem dR_isWithin_164 : decode bR_isWithin 164 = .ok (.iconst 0, 1) := by decide +kernel
theorem dR_isWithin_165 : decode bR_isWithin 165 = .ok (.ireturn, 1) := by decide +kernel
theorem dR_noMember_0 : decode bR_noMember 0 = .ok (.iload_n 1, 1) := by decide +kernel
theorem dR_noMember_1 : decode bR_noMember 1 = .ok (.ifCond .lt 11, 3) := by decide +kernel
theorem dR_noMember_4 : decode bR_noMember 4 = .ok (.iload_n 1, 1) := by decide +kernel
theorem dR_noMember_5 : decode bR_noMember 5 = .ok (.aload_n 0, 1) := by decide +kernel
theorem dR_noMember_6 : decode bR_noMember 6 = .ok (.getfield 149, 3) := by decide +kernel
theorem dR_noMember_9 : decode bR_noMember 9 = .ok (.if_icmp .lt 7, 3) := by decide +kernel
theorem dR_noMember_12 : decode bR_noMember 12 = .ok (.iconst 1, 1) := by decide +kernel
theorem dR_noMember_13 : decode bR_noMember 13 = .ok (.goto 4, 3) := by decide +kernel
theorem dR_noMember_16 : decode bR_noMember 16 = .ok (.iconst 0, 1) := by decide +kernel
theorem dR_noMember_17 : decode bR_noMember 17 = .ok (.ireturn, 1) := by decide +kernel
theorem dR_in_0 : decode bR_in 0 = .ok (.aload_n 0, 1) := by decide +kernel
theorem dR_in_1 : decode bR_in 1 = .ok (.aload_n 0, 1) := by decide +kernel
theorem dR_in_2 : decode bR_in 2 = .ok (.iload_n 1, 1) := by decide +kernel
theorem dR_in_3 : decode bR_in 3 = .ok (.invokevirtual 152, 3) := by decide +kernel
theorem dR_in_6 : decode bR_in 6 = .ok (.ifCond .eq 7, 3) := by decide +kernel
theorem dR_in_9 : decode bR_in 9 = .ok (.iconst 1, 1) := by decide +kernel
theorem dR_in_10 : decode bR_in 10 = .ok (.goto 22, 3) := by decide +kernel
theorem dR_in_13 : decode bR_in 13 = .ok (.iload_n 2, 1) := by decide +kernel
theorem dR_in_14 : decode bR_in 14 = .ok (.invokestatic 146, 3) := by decide +kernel
theorem dR_in_17 : decode bR_in 17 = .ok (.ifCond .eq 14, 3) := by decide +kernel
theorem dR_in_20 : decode bR_in 20 = .ok (.iload_n 3, 1) := by decide +kernel
theorem dR_in_21 : decode bR_in 21 = .ok (.invokestatic 146, 3) := by decide +kernel
theorem dR_in_24 : decode bR_in 24 = .ok (.ifCond .eq 7, 3) := by decide +kernel
theorem dR_in_27 : decode bR_in 27 = .ok (.iconst 0, 1) := by decide +kernel
theorem dR_in_28 : decode bR_in 28 = .ok (.goto 4, 3) := by decide +kernel
theorem dR_in_31 : decode bR_in 31 = .ok (.iconst 2, 1) := by decide +kernel
theorem dR_in_32 : decode bR_in 32 = .ok (.putfield 52, 3) := by decide +kernel
theorem dR_in_35 : decode bR_in 35 = .ok (.aload_n 0, 1) := by decide +kernel
theorem dR_in_36 : decode bR_in 36 = .ok (.getfield 52, 3) := by decide +kernel
theorem dR_in_39 : decode bR_in 39 = .ok (.ifCond .ne 19, 3) := by decide +kernel
theorem dR_in_42 : decode bR_in 42 = .ok (.aload_n 0, 1) := by decide +kernel
theorem dR_in_43 : decode bR_in 43 = .ok (.iload_n 1, 1) := by decide +kernel
theorem dR_in_44 : decode bR_in 44 = .ok (.iload_n 2, 1) := by decide +kernel
theorem dR_in_45 : decode bR_in 45 = .ok (.i2l, 1) := by decide +kernel
theorem dR_in_46 : decode bR_in 46 = .ok (.iload_n 3, 1) := by decide +kernel
theorem dR_in_47 : decode bR_in 47 = .ok (.i2l, 1) := by decide +kernel
theorem dR_in_48 : decode bR_in 48 = .ok (.invokevirtual 155, 3) := by decide +kernel
theorem dR_in_51 : decode bR_in 51 = .ok (.ifCond .eq 7, 3) := by decide +kernel
theorem dR_in_54 : decode bR_in 54 = .ok (.iconst 1, 1) := by decide +kernel
theorem dR_in_55 : decode bR_in 55 = .ok (.goto 4, 3) := by decide +kernel
theorem dR_in_58 : decode bR_in 58 = .ok (.iconst 0, 1) := by decide +kernel
theorem dR_in_59 : decode bR_in 59 = .ok (.ireturn, 1) := by decide +kernel
theorem dR_teeth_0 : decode bR_teeth 0 = .ok (.iload_n 2, 1) := by decide +kernel
theorem dR_teeth_1 : decode bR_teeth 1 = .ok (.invokestatic 146, 3) := by decide +kernel
theorem dR_teeth_4 : decode bR_teeth 4 = .ok (.ifCond .eq 55, 3) := by decide +kernel
theorem dR_teeth_7 : decode bR_teeth 7 = .ok (.iload_n 3, 1) := by decide +kernel
theorem dR_teeth_8 : decode bR_teeth 8 = .ok (.invokestatic 146, 3) := by decide +kernel
theorem dR_teeth_11 : decode bR_teeth 11 = .ok (.ifCond .eq 48, 3) := by decide +kernel
theorem dR_teeth_14 : decode bR_teeth 14 = .ok (.iload 4, 2) := by decide +kernel
theorem dR_teeth_16 : decode bR_teeth 16 = .ok (.i2l, 1) := by decide +kernel
theorem dR_teeth_17 : decode bR_teeth 17 = .ok (.lconst 0, 1) := by decide +kernel
theorem dR_teeth_18 : decode bR_teeth 18 = .ok (.ldc2_w 105, 3) := by decide +kernel
theorem dR_teeth_21 : decode bR_teeth 21 = .ok (.invokestatic 99, 3) := by decide +kernel
theorem dR_teeth_24 : decode bR_teeth 24 = .ok (.ifCond .eq 35, 3) := by decide +kernel
theorem dR_teeth_27 : decode bR_teeth 27 = .ok (.iload 5, 2) := by decide +kernel
theorem dR_teeth_29 : decode bR_teeth 29 = .ok (.i2l, 1) := by decide +kernel
theorem dR_teeth_30 : decode bR_teeth 30 = .ok (.lconst 0, 1) := by decide +kernel
theorem dR_teeth_31 : decode bR_teeth 31 = .ok (.ldc2_w 105, 3) := by decide +kernel
theorem dR_teeth_34 : decode bR_teeth 34 = .ok (.invokestatic 99, 3) := by decide +kernel
theorem dR_teeth_37 : decode bR_teeth 37 = .ok (.ifCond .eq 22, 3) := by decide +kernel
theorem dR_teeth_40 : decode bR_teeth 40 = .ok (.iload 6, 2) := by decide +kernel
theorem dR_teeth_42 : decode bR_teeth 42 = .ok (.i2l, 1) := by decide +kernel
theorem dR_teeth_43 : decode bR_teeth 43 = .ok (.ldc2_w 159, 3) := by decide +kernel
theorem dR_teeth_46 : decode bR_teeth 46 = .ok (.ldc2_w 105, 3) := by decide +kernel
theorem dR_teeth_49 : decode bR_teeth 49 = .ok (.invokestatic 99, 3) := by decide +kernel
theorem dR_teeth_52 : decode bR_teeth 52 = .ok (.ifCond .eq 7, 3) := by decide +kernel
theorem dR_teeth_55 : decode bR_teeth 55 = .ok (.iconst 1, 1) := by decide +kernel
theorem dR_teeth_56 : decode bR_teeth 56 = .ok (.goto 4, 3) := by decide +kernel
theorem dR_teeth_59 : decode bR_teeth 59 = .ok (.iconst 0, 1) := by decide +kernel
theorem dR_teeth_60 : decode bR_teeth 60 = .ok (.istore 7, 2) := by decide +kernel
theorem dR_teeth_62 : decode bR_teeth 62 = .ok (.aload_n 0, 1) := by decide +kernel
theorem dR_teeth_63 : decode bR_teeth 63 = .ok (.aload_n 0, 1) := by decide +kernel
theorem dR_teeth_64 : decode bR_teeth 64 = .ok (.iload_n 1, 1) := by decide +kernel
theorem dR_teeth_65 : decode bR_teeth 65 = .ok (.invokevirtual 152, 3) := by decide +kernel
theorem dR_teeth_68 : decode bR_teeth 68 = .ok (.ifCond .eq 7, 3) := by decide +kernel
theorem dR_teeth_71 : decode bR_teeth 71 = .ok (.iconst 1, 1) := by decide +kernel
theorem dR_teeth_72 : decode bR_teeth 72 = .ok (.goto 13, 3) := by decide +kernel
theorem dR_teeth_75 : decode bR_teeth 75 = .ok (.iload 7, 2) := by decide +kernel
theorem dR_teeth_77 : decode bR_teeth 77 = .ok (.ifCond .eq 7, 3) := by decide +kernel
theorem dR_teeth_80 : decode bR_teeth 80 = .ok (.iconst 0, 1) := by decide +kernel
theorem dR_teeth_81 : decode bR_teeth 81 = .ok (.goto 4, 3) := by decide +kernel
theorem dR_teeth_84 : decode bR_teeth 84 = .ok (.iconst 2, 1) := by decide +kernel
theorem dR_teeth_85 : decode bR_teeth 85 = .ok (.putfield 52, 3) := by decide +kernel
theorem dR_teeth_88 : decode bR_teeth 88 = .ok (.iconst 0, 1) := by decide +kernel
theorem dR_teeth_89 : decode bR_teeth 89 = .ok (.istore 8, 2) := by decide +kernel
theorem dR_teeth_91 : decode bR_teeth 91 = .ok (.iconst 0, 1) := by decide +kernel
theorem dR_teeth_92 : decode bR_teeth 92 = .ok (.istore 9, 2) := by decide +kernel
theorem dR_teeth_94 : decode bR_teeth 94 = .ok (.aload_n 0, 1) := by decide +kernel
theorem dR_teeth_95 : decode bR_teeth 95 = .ok (.getfield 52, 3) := by decide +kernel
theorem dR_teeth_98 : decode bR_teeth 98 = .ok (.ifCond .ne 69, 3) := by decide +kernel
theorem dR_teeth_101 : decode bR_teeth 101 = .ok (.iload 9, 2) := by decide +kernel
theorem dR_teeth_103 : decode bR_teeth 103 = .ok (.iload 4, 2) := by decide +kernel
theorem dR_teeth_105 : decode bR_teeth 105 = .ok (.if_icmp .gt 62, 3) := by decide +kernel
theorem dR_teeth_108 : decode bR_teeth 108 = .ok (.iconst 0, 1) := by decide +kernel
theorem dR_teeth_109 : decode bR_teeth 109 = .ok (.istore 10, 2) := by decide +kernel
theorem dR_teeth_111 : decode bR_teeth 111 = .ok (.iload 10, 2) := by decide +kernel
theorem dR_teeth_113 : decode bR_teeth 113 = .ok (.iload 5, 2) := by decide +kernel
theorem dR_teeth_115 : decode bR_teeth 115 = .ok (.if_icmp .gt 42, 3) := by decide +kernel
theorem dR_teeth_118 : decode bR_teeth 118 = .ok (.aload_n 0, 1) := by decide +kernel
theorem dR_teeth_119 : decode bR_teeth 119 = .ok (.iload_n 1, 1) := by decide +kernel
theorem dR_teeth_120 : decode bR_teeth 120 = .ok (.iload_n 2, 1) := by decide +kernel
theorem dR_teeth_121 : decode bR_teeth 121 = .ok (.iload 9, 2) := by decide +kernel
theorem dR_teeth_123 : decode bR_teeth 123 = .ok (.iadd, 1) := by decide +kernel
theorem dR_teeth_124 : decode bR_teeth 124 = .ok (.i2l, 1) := by decide +kernel
theorem dR_teeth_125 : decode bR_teeth 125 = .ok (.iload_n 3, 1) := by decide +kernel
theorem dR_teeth_126 : decode bR_teeth 126 = .ok (.iload 10, 2) := by decide +kernel
theorem dR_teeth_128 : decode bR_teeth 128 = .ok (.iadd, 1) := by decide +kernel
theorem dR_teeth_129 : decode bR_teeth 129 = .ok (.i2l, 1) := by decide +kernel
theorem dR_teeth_130 : decode bR_teeth 130 = .ok (.invokevirtual 155, 3) := by decide +kernel
theorem dR_teeth_133 : decode bR_teeth 133 = .ok (.ifCond .eq 10, 3) := by decide +kernel
theorem dR_teeth_136 : decode bR_teeth 136 = .ok (.iload 8, 2) := by decide +kernel
theorem dR_teeth_138 : decode bR_teeth 138 = .ok (.iconst 1, 1) := by decide +kernel
theorem dR_teeth_139 : decode bR_teeth 139 = .ok (.iadd, 1) := by decide +kernel
theorem dR_teeth_140 : decode bR_teeth 140 = .ok (.goto 5, 3) := by decide +kernel
theorem dR_teeth_143 : decode bR_teeth 143 = .ok (.iload 8, 2) := by decide +kernel
theorem dR_teeth_145 : decode bR_teeth 145 = .ok (.istore 8, 2) := by decide +kernel
theorem dR_teeth_147 : decode bR_teeth 147 = .ok (.iload 10, 2) := by decide +kernel
theorem dR_teeth_149 : decode bR_teeth 149 = .ok (.iload 6, 2) := by decide +kernel
theorem dR_teeth_151 : decode bR_teeth 151 = .ok (.iadd, 1) := by decide +kernel
theorem dR_teeth_152 : decode bR_teeth 152 = .ok (.istore 10, 2) := by decide +kernel
theorem dR_teeth_154 : decode bR_teeth 154 = .ok (.goto (-43), 3) := by decide +kernel
theorem dR_teeth_157 : decode bR_teeth 157 = .ok (.iload 9, 2) := by decide +kernel
theorem dR_teeth_159 : decode bR_teeth 159 = .ok (.iload 6, 2) := by decide +kernel
theorem dR_teeth_161 : decode bR_teeth 161 = .ok (.iadd, 1) := by decide +kernel
theorem dR_teeth_162 : decode bR_teeth 162 = .ok (.istore 9, 2) := by decide +kernel
theorem dR_teeth_164 : decode bR_teeth 164 = .ok (.goto (-70), 3) := by decide +kernel
theorem dR_teeth_167 : decode bR_teeth 167 = .ok (.iload 8, 2) := by decide +kernel
theorem dR_teeth_169 : decode bR_teeth 169 = .ok (.ireturn, 1) := by decide +kernel
theorem dR_thick_0 : decode bR_thick 0 = .ok (.aload_n 0, 1) := by decide +kernel
theorem dR_thick_1 : decode bR_thick 1 = .ok (.iload_n 1, 1) := by decide +kernel
theorem dR_thick_2 : decode bR_thick 2 = .ok (.invokestatic 93, 3) := by decide +kernel
theorem dR_thick_5 : decode bR_thick 5 = .ok (.ifCond .ne 7, 3) := by decide +kernel
theorem dR_thick_8 : decode bR_thick 8 = .ok (.iconst 1, 1) := by decide +kernel
theorem dR_thick_9 : decode bR_thick 9 = .ok (.goto 12, 3) := by decide +kernel
theorem dR_thick_12 : decode bR_thick 12 = .ok (.iload_n 2, 1) := by decide +kernel
theorem dR_thick_13 : decode bR_thick 13 = .ok (.ifCond .ge 7, 3) := by decide +kernel
theorem dR_thick_16 : decode bR_thick 16 = .ok (.iconst 2, 1) := by decide +kernel
theorem dR_thick_17 : decode bR_thick 17 = .ok (.goto 4, 3) := by decide +kernel
theorem dR_thick_20 : decode bR_thick 20 = .ok (.iconst 0, 1) := by decide +kernel
theorem dR_thick_21 : decode bR_thick 21 = .ok (.putfield 52, 3) := by decide +kernel
theorem dR_thick_24 : decode bR_thick 24 = .ok (.aload_n 0, 1) := by decide +kernel
theorem dR_thick_25 : decode bR_thick 25 = .ok (.getfield 52, 3) := by decide +kernel
theorem dR_thick_28 : decode bR_thick 28 = .ok (.ifCond .ne 20, 3) := by decide +kernel
theorem dR_thick_31 : decode bR_thick 31 = .ok (.iload_n 2, 1) := by decide +kernel
theorem dR_thick_32 : decode bR_thick 32 = .ok (.i2l, 1) := by decide +kernel
theorem dR_thick_33 : decode bR_thick 33 = .ok (.aload_n 0, 1) := by decide +kernel
theorem dR_thick_34 : decode bR_thick 34 = .ok (.iload_n 1, 1) := by decide +kernel
theorem dR_thick_35 : decode bR_thick 35 = .ok (.bipush 6, 2) := by decide +kernel
theorem dR_thick_37 : decode bR_thick 37 = .ok (.invokevirtual 125, 3) := by decide +kernel
theorem dR_thick_40 : decode bR_thick 40 = .ok (.lcmp, 1) := by decide +kernel
theorem dR_thick_41 : decode bR_thick 41 = .ok (.ifCond .lt 7, 3) := by decide +kernel
theorem dR_thick_44 : decode bR_thick 44 = .ok (.iconst 1, 1) := by decide +kernel
theorem dR_thick_45 : decode bR_thick 45 = .ok (.goto 4, 3) := by decide +kernel
theorem dR_thick_48 : decode bR_thick 48 = .ok (.iconst 0, 1) := by decide +kernel
theorem dR_thick_49 : decode bR_thick 49 = .ok (.ireturn, 1) := by decide +kernel
theorem dR_hole_0 : decode bR_hole 0 = .ok (.aload_n 0, 1) := by decide +kernel
theorem dR_hole_1 : decode bR_hole 1 = .ok (.iload_n 1, 1) := by decide +kernel
theorem dR_hole_2 : decode bR_hole 2 = .ok (.invokestatic 93, 3) := by decide +kernel
theorem dR_hole_5 : decode bR_hole 5 = .ok (.ifCond .eq 7, 3) := by decide +kernel
theorem dR_hole_8 : decode bR_hole 8 = .ok (.iconst 0, 1) := by decide +kernel
theorem dR_hole_9 : decode bR_hole 9 = .ok (.goto 4, 3) := by decide +kernel
theorem dR_hole_12 : decode bR_hole 12 = .ok (.iconst 1, 1) := by decide +kernel
theorem dR_hole_13 : decode bR_hole 13 = .ok (.putfield 52, 3) := by decide +kernel
theorem dR_hole_16 : decode bR_hole 16 = .ok (.aload_n 0, 1) := by decide +kernel
theorem dR_hole_17 : decode bR_hole 17 = .ok (.getfield 52, 3) := by decide +kernel
theorem dR_hole_20 : decode bR_hole 20 = .ok (.ifCond .le 5, 3) := by decide +kernel
theorem dR_hole_23 : decode bR_hole 23 = .ok (.iconst 0, 1) := by decide +kernel
theorem dR_hole_24 : decode bR_hole 24 = .ok (.ireturn, 1) := by decide +kernel
theorem dR_hole_25 : decode bR_hole 25 = .ok (.aload_n 0, 1) := by decide +kernel
theorem dR_hole_26 : decode bR_hole 26 = .ok (.getfield 16, 3) := by decide +kernel
theorem dR_hole_29 : decode bR_hole 29 = .ok (.bipush 7, 2) := by decide +kernel
theorem dR_hole_31 : decode bR_hole 31 = .ok (.iload_n 1, 1) := by decide +kernel
theorem dR_hole_32 : decode bR_hole 32 = .ok (.imul, 1) := by decide +kernel
theorem dR_hole_33 : decode bR_hole 33 = .ok (.iaload, 1) := by decide +kernel
theorem dR_hole_34 : decode bR_hole 34 = .ok (.istore_n 2, 1) := by decide +kernel
theorem dR_hole_35 : decode bR_hole 35 = .ok (.iload_n 1, 1) := by decide +kernel
theorem dR_hole_36 : decode bR_hole 36 = .ok (.iconst 3, 1) := by decide +kernel
theorem dR_hole_37 : decode bR_hole 37 = .ok (.if_icmp .ne 7, 3) := by decide +kernel
theorem dR_hole_40 : decode bR_hole 40 = .ok (.iload_n 2, 1) := by decide +kernel
theorem dR_hole_41 : decode bR_hole 41 = .ok (.goto 37, 3) := by decide +kernel
theorem dR_hole_44 : decode bR_hole 44 = .ok (.iload_n 1, 1) := by decide +kernel
theorem dR_hole_45 : decode bR_hole 45 = .ok (.iconst 2, 1) := by decide +kernel
theorem dR_hole_46 : decode bR_hole 46 = .ok (.if_icmp .ne 10, 3) := by decide +kernel
theorem dR_hole_49 : decode bR_hole 49 = .ok (.iload_n 2, 1) := by decide +kernel
theorem dR_hole_50 : decode bR_hole 50 = .ok (.bipush 10, 2) := by decide +kernel
theorem dR_hole_52 : decode bR_hole 52 = .ok (.iadd, 1) := by decide +kernel
theorem dR_hole_53 : decode bR_hole 53 = .ok (.goto 25, 3) := by decide +kernel
theorem dR_hole_56 : decode bR_hole 56 = .ok (.iload_n 1, 1) := by decide +kernel
theorem dR_hole_57 : decode bR_hole 57 = .ok (.iconst 1, 1) := by decide +kernel
theorem dR_hole_58 : decode bR_hole 58 = .ok (.if_icmp .eq 9, 3) := by decide +kernel
theorem dR_hole_61 : decode bR_hole 61 = .ok (.iload_n 2, 1) := by decide +kernel
theorem dR_hole_62 : decode bR_hole 62 = .ok (.bipush 50, 2) := by decide +kernel
theorem dR_hole_64 : decode bR_hole 64 = .ok (.if_icmp .le 13, 3) := by decide +kernel
theorem dR_hole_67 : decode bR_hole 67 = .ok (.iload_n 2, 1) := by decide +kernel
theorem dR_hole_68 : decode bR_hole 68 = .ok (.bipush 7, 2) := by decide +kernel
theorem dR_hole_70 : decode bR_hole 70 = .ok (.imul, 1) := by decide +kernel
theorem dR_hole_71 : decode bR_hole 71 = .ok (.bipush 10, 2) := by decide +kernel
theorem dR_hole_73 : decode bR_hole 73 = .ok (.idiv, 1) := by decide +kernel
theorem dR_hole_74 : decode bR_hole 74 = .ok (.goto 4, 3) := by decide +kernel
theorem dR_hole_77 : decode bR_hole 77 = .ok (.iconst 0, 1) := by decide +kernel
theorem dR_hole_78 : decode bR_hole 78 = .ok (.ireturn, 1) := by decide +kernel
