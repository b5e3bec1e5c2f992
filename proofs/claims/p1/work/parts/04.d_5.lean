theorem dL_rule_0 : decode bL_rule 0 = .ok (.aload_n 3, 1) := by decide +kernel
theorem dL_rule_1 : decode bL_rule 1 = .ok (.iconst 0, 1) := by decide +kernel
theorem dL_rule_2 : decode bL_rule 2 = .ok (.aload_n 0, 1) := by decide +kernel
theorem dL_rule_3 : decode bL_rule 3 = .ok (.iload_n 1, 1) := by decide +kernel
theorem dL_rule_4 : decode bL_rule 4 = .ok (.iload_n 2, 1) := by decide +kernel
theorem dL_rule_5 : decode bL_rule 5 = .ok (.invokevirtual 7, 3) := by decide +kernel
theorem dL_rule_8 : decode bL_rule 8 = .ok (.i2l, 1) := by decide +kernel
theorem dL_rule_9 : decode bL_rule 9 = .ok (.lastore, 1) := by decide +kernel
theorem dL_rule_10 : decode bL_rule 10 = .ok (.goto 7, 3) := by decide +kernel
theorem dL_rule_13 : decode bL_rule 13 = .ok (.astore 4, 2) := by decide +kernel
theorem dL_rule_15 : decode bL_rule 15 = .ok (.iconst 1, 1) := by decide +kernel
theorem dL_rule_16 : decode bL_rule 16 = .ok (.ireturn, 1) := by decide +kernel
theorem dL_rule_17 : decode bL_rule 17 = .ok (.iconst 0, 1) := by decide +kernel
theorem dL_rule_18 : decode bL_rule 18 = .ok (.ireturn, 1) := by decide +kernel
theorem dL_set_0 : decode bL_set 0 = .ok (.aload_n 0, 1) := by decide +kernel
theorem dL_set_1 : decode bL_set 1 = .ok (.iload_n 1, 1) := by decide +kernel
theorem dL_set_2 : decode bL_set 2 = .ok (.iload_n 2, 1) := by decide +kernel
theorem dL_set_3 : decode bL_set 3 = .ok (.invokevirtual 15, 3) := by decide +kernel
theorem dL_set_6 : decode bL_set 6 = .ok (.goto 9, 3) := by decide +kernel
theorem dL_set_9 : decode bL_set 9 = .ok (.astore_n 3, 1) := by decide +kernel
theorem dL_set_10 : decode bL_set 10 = .ok (.iconst 1, 1) := by decide +kernel
theorem dL_set_11 : decode bL_set 11 = .ok (.ireturn, 1) := by decide +kernel
theorem dL_set_12 : decode bL_set 12 = .ok (.astore_n 3, 1) := by decide +kernel
theorem dL_set_13 : decode bL_set 13 = .ok (.iconst 2, 1) := by decide +kernel
theorem dL_set_14 : decode bL_set 14 = .ok (.ireturn, 1) := by decide +kernel
theorem dL_set_15 : decode bL_set 15 = .ok (.iconst 0, 1) := by decide +kernel
theorem dL_set_16 : decode bL_set 16 = .ok (.ireturn, 1) := by decide +kernel
theorem dL_holds_0 : decode bL_holds 0 = .ok (.aload 6, 2) := by decide +kernel
theorem dL_holds_2 : decode bL_holds 2 = .ok (.iconst 0, 1) := by decide +kernel
theorem dL_holds_3 : decode bL_holds 3 = .ok (.aload_n 0, 1) := by decide +kernel
theorem dL_holds_4 : decode bL_holds 4 = .ok (.iload_n 1, 1) := by decide +kernel
theorem dL_holds_5 : decode bL_holds 5 = .ok (.iload_n 2, 1) := by decide +kernel
theorem dL_holds_6 : decode bL_holds 6 = .ok (.iload_n 3, 1) := by decide +kernel
theorem dL_holds_7 : decode bL_holds 7 = .ok (.iload 4, 2) := by decide +kernel
theorem dL_holds_9 : decode bL_holds 9 = .ok (.iload 5, 2) := by decide +kernel
theorem dL_holds_11 : decode bL_holds 11 = .ok (.invokevirtual 21, 3) := by decide +kernel
theorem dL_holds_14 : decode bL_holds 14 = .ok (.lastore, 1) := by decide +kernel
theorem dL_holds_15 : decode bL_holds 15 = .ok (.goto 11, 3) := by decide +kernel
theorem dL_holds_18 : decode bL_holds 18 = .ok (.astore 7, 2) := by decide +kernel
theorem dL_holds_20 : decode bL_holds 20 = .ok (.iconst 1, 1) := by decide +kernel
theorem dL_holds_21 : decode bL_holds 21 = .ok (.ireturn, 1) := by decide +kernel
theorem dL_holds_22 : decode bL_holds 22 = .ok (.astore 7, 2) := by decide +kernel
theorem dL_holds_24 : decode bL_holds 24 = .ok (.iconst 2, 1) := by decide +kernel
theorem dL_holds_25 : decode bL_holds 25 = .ok (.ireturn, 1) := by decide +kernel
theorem dL_holds_26 : decode bL_holds 26 = .ok (.iconst 0, 1) := by decide +kernel
theorem dL_holds_27 : decode bL_holds 27 = .ok (.ireturn, 1) := by decide +kernel
theorem dL_together_0 : decode bL_together 0 = .ok (.aload 4, 2) := by decide +kernel
theorem dL_together_2 : decode bL_together 2 = .ok (.iconst 0, 1) := by decide +kernel
theorem dL_together_3 : decode bL_together 3 = .ok (.aload_n 0, 1) := by decide +kernel
theorem dL_together_4 : decode bL_together 4 = .ok (.iload_n 1, 1) := by decide +kernel
theorem dL_together_5 : decode bL_together 5 = .ok (.lload_n 2, 1) := by decide +kernel
theorem dL_together_6 : decode bL_together 6 = .ok (.invokevirtual 25, 3) := by decide +kernel
theorem dL_together_9 : decode bL_together 9 = .ok (.lastore, 1) := by decide +kernel
theorem dL_together_10 : decode bL_together 10 = .ok (.goto 7, 3) := by decide +kernel
theorem dL_together_13 : decode bL_together 13 = .ok (.astore 5, 2) := by decide +kernel
theorem dL_together_15 : decode bL_together 15 = .ok (.iconst 1, 1) := by decide +kernel
theorem dL_together_16 : decode bL_together 16 = .ok (.ireturn, 1) := by decide +kernel
theorem dL_together_17 : decode bL_together 17 = .ok (.iconst 0, 1) := by decide +kernel
theorem dL_together_18 : decode bL_together 18 = .ok (.ireturn, 1) := by decide +kernel
theorem dL_count_0 : decode bL_count 0 = .ok (.aload 5, 2) := by decide +kernel
theorem dL_count_2 : decode bL_count 2 = .ok (.iconst 0, 1) := by decide +kernel
theorem dL_count_3 : decode bL_count 3 = .ok (.aload_n 0, 1) := by decide +kernel
theorem dL_count_4 : decode bL_count 4 = .ok (.lload_n 1, 1) := by decide +kernel
theorem dL_count_5 : decode bL_count 5 = .ok (.lload_n 3, 1) := by decide +kernel
theorem dL_count_6 : decode bL_count 6 = .ok (.invokevirtual 29, 3) := by decide +kernel
theorem dL_count_9 : decode bL_count 9 = .ok (.i2l, 1) := by decide +kernel
theorem dL_count_10 : decode bL_count 10 = .ok (.lastore, 1) := by decide +kernel
theorem dL_count_11 : decode bL_count 11 = .ok (.goto 7, 3) := by decide +kernel
theorem dL_count_14 : decode bL_count 14 = .ok (.astore 6, 2) := by decide +kernel
theorem dL_count_16 : decode bL_count 16 = .ok (.iconst 1, 1) := by decide +kernel
theorem dL_count_17 : decode bL_count 17 = .ok (.ireturn, 1) := by decide +kernel
theorem dL_count_18 : decode bL_count 18 = .ok (.iconst 0, 1) := by decide +kernel
theorem dL_count_19 : decode bL_count 19 = .ok (.ireturn, 1) := by decide +kernel
theorem dL_pattern_0 : decode bL_pattern 0 = .ok (.aload 5, 2) := by decide +kernel
theorem dL_pattern_2 : decode bL_pattern 2 = .ok (.iconst 0, 1) := by decide +kernel
theorem dL_pattern_3 : decode bL_pattern 3 = .ok (.aload_n 0, 1) := by decide +kernel
theorem dL_pattern_4 : decode bL_pattern 4 = .ok (.iload_n 1, 1) := by decide +kernel
theorem dL_pattern_5 : decode bL_pattern 5 = .ok (.iload_n 2, 1) := by decide +kernel
theorem dL_pattern_6 : decode bL_pattern 6 = .ok (.iload_n 3, 1) := by decide +kernel
theorem dL_pattern_7 : decode bL_pattern 7 = .ok (.iload 4, 2) := by decide +kernel
theorem dL_pattern_9 : decode bL_pattern 9 = .ok (.invokevirtual 33, 3) := by decide +kernel
theorem dL_pattern_12 : decode bL_pattern 12 = .ok (.ifCond .eq 7, 3) := by decide +kernel
theorem dL_pattern_15 : decode bL_pattern 15 = .ok (.lconst 1, 1) := by decide +kernel
theorem dL_pattern_16 : decode bL_pattern 16 = .ok (.goto 4, 3) := by decide +kernel
theorem dL_pattern_19 : decode bL_pattern 19 = .ok (.lconst 0, 1) := by decide +kernel
theorem dL_pattern_20 : decode bL_pattern 20 = .ok (.lastore, 1) := by decide +kernel
theorem dL_pattern_21 : decode bL_pattern 21 = .ok (.goto 11, 3) := by decide +kernel
theorem dL_pattern_24 : decode bL_pattern 24 = .ok (.astore 6, 2) := by decide +kernel
theorem dL_pattern_26 : decode bL_pattern 26 = .ok (.iconst 1, 1) := by decide +kernel
theorem dL_pattern_27 : decode bL_pattern 27 = .ok (.ireturn, 1) := by decide +kernel
theorem dL_pattern_28 : decode bL_pattern 28 = .ok (.astore 6, 2) := by decide +kernel
theorem dL_pattern_30 : decode bL_pattern 30 = .ok (.iconst 2, 1) := by decide +kernel
theorem dL_pattern_31 : decode bL_pattern 31 = .ok (.ireturn, 1) := by decide +kernel
theorem dL_pattern_32 : decode bL_pattern 32 = .ok (.iconst 0, 1) := by decide +kernel
theorem dL_pattern_33 : decode bL_pattern 33 = .ok (.ireturn, 1) := by decide +kernel
theorem dL_at_0 : decode bL_at 0 = .ok (.aload_n 3, 1) := by decide +kernel
theorem dL_at_1 : decode bL_at 1 = .ok (.iconst 0, 1) := by decide +kernel
theorem dL_at_2 : decode bL_at 2 = .ok (.aload_n 0, 1) := by decide +kernel
theorem dL_at_3 : decode bL_at 3 = .ok (.iload_n 1, 1) := by decide +kernel
theorem dL_at_4 : decode bL_at 4 = .ok (.iload_n 2, 1) := by decide +kernel
theorem dL_at_5 : decode bL_at 5 = .ok (.invokevirtual 37, 3) := by decide +kernel
theorem dL_at_8 : decode bL_at 8 = .ok (.i2l, 1) := by decide +kernel
theorem dL_at_9 : decode bL_at 9 = .ok (.lastore, 1) := by decide +kernel
theorem dL_at_10 : decode bL_at 10 = .ok (.goto 11, 3) := by decide +kernel
theorem dL_at_13 : decode bL_at 13 = .ok (.astore 4, 2) := by decide +kernel
theorem dL_at_15 : decode bL_at 15 = .ok (.iconst 1, 1) := by decide +kernel
theorem dL_at_16 : decode bL_at 16 = .ok (.ireturn, 1) := by decide +kernel
theorem dL_at_17 : decode bL_at 17 = .ok (.astore 4, 2) := by decide +kernel
theorem dL_at_19 : decode bL_at 19 = .ok (.iconst 2, 1) := by decide +kernel
theorem dL_at_20 : decode bL_at 20 = .ok (.ireturn, 1) := by decide +kernel
theorem dL_at_21 : decode bL_at 21 = .ok (.iconst 0, 1) := by decide +kernel
theorem dL_at_22 : decode bL_at 22 = .ok (.ireturn, 1) := by decide +kernel
theorem dL_place_0 : decode bL_place 0 = .ok (.aload_n 3, 1) := by decide +kernel
theorem dL_place_1 : decode bL_place 1 = .ok (.iconst 0, 1) := by decide +kernel
theorem dL_place_2 : decode bL_place 2 = .ok (.aload_n 0, 1) := by decide +kernel
theorem dL_place_3 : decode bL_place 3 = .ok (.iload_n 1, 1) := by decide +kernel
theorem dL_place_4 : decode bL_place 4 = .ok (.iload_n 2, 1) := by decide +kernel
theorem dL_place_5 : decode bL_place 5 = .ok (.invokevirtual 42, 3) := by decide +kernel
theorem dL_place_8 : decode bL_place 8 = .ok (.i2l, 1) := by decide +kernel
theorem dL_place_9 : decode bL_place 9 = .ok (.lastore, 1) := by decide +kernel
theorem dL_place_10 : decode bL_place 10 = .ok (.goto 11, 3) := by decide +kernel
theorem dL_place_13 : decode bL_place 13 = .ok (.astore 4, 2) := by decide +kernel
theorem dL_place_15 : decode bL_place 15 = .ok (.iconst 1, 1) := by decide +kernel
theorem dL_place_16 : decode bL_place 16 = .ok (.ireturn, 1) := by decide +kernel
theorem dL_place_17 : decode bL_place 17 = .ok (.astore 4, 2) := by decide +kernel
theorem dL_place_19 : decode bL_place 19 = .ok (.iconst 2, 1) := by decide +kernel
theorem dL_place_20 : decode bL_place 20 = .ok (.ireturn, 1) := by decide +kernel
theorem dL_place_21 : decode bL_place 21 = .ok (.iconst 0, 1) := by decide +kernel
theorem dL_place_22 : decode bL_place 22 = .ok (.ireturn, 1) := by decide +kernel
theorem dL_keeps_0 : decode bL_keeps 0 = .ok (.aload 4, 2) := by decide +kernel
theorem dL_keeps_2 : decode bL_keeps 2 = .ok (.iconst 0, 1) := by decide +kernel
theorem dL_keeps_3 : decode bL_keeps 3 = .ok (.aload_n 0, 1) := by decide +kernel
theorem dL_keeps_4 : decode bL_keeps 4 = .ok (.iload_n 1, 1) := by decide +kernel
theorem dL_keeps_5 : decode bL_keeps 5 = .ok (.iload_n 2, 1) := by decide +kernel
theorem dL_keeps_6 : decode bL_keeps 6 = .ok (.iload_n 3, 1) := by decide +kernel
theorem dL_keeps_7 : decode bL_keeps 7 = .ok (.invokevirtual 45, 3) := by decide +kernel
theorem dL_keeps_10 : decode bL_keeps 10 = .ok (.i2l, 1) := by decide +kernel
theorem dL_keeps_11 : decode bL_keeps 11 = .ok (.lastore, 1) := by decide +kernel
theorem dL_keeps_12 : decode bL_keeps 12 = .ok (.goto 11, 3) := by decide +kernel
theorem dL_keeps_15 : decode bL_keeps 15 = .ok (.astore 5, 2) := by decide +kernel
theorem dL_keeps_17 : decode bL_keeps 17 = .ok (.iconst 1, 1) := by decide +kernel
theorem dL_keeps_18 : decode bL_keeps 18 = .ok (.ireturn, 1) := by decide +kernel
theorem dL_keeps_19 : decode bL_keeps 19 = .ok (.astore 5, 2) := by decide +kernel
theorem dL_keeps_21 : decode bL_keeps 21 = .ok (.iconst 2, 1) := by decide +kernel
theorem dL_keeps_22 : decode bL_keeps 22 = .ok (.ireturn, 1) := by decide +kernel
theorem dL_keeps_23 : decode bL_keeps 23 = .ok (.iconst 0, 1) := by decide +kernel
theorem dL_keeps_24 : decode bL_keeps 24 = .ok (.ireturn, 1) := by decide +kernel
theorem dL_member_0 : decode bL_member 0 = .ok (.aload 6, 2) := by decide +kernel
theorem dL_member_2 : decode bL_member 2 = .ok (.iconst 0, 1) := by decide +kernel
theorem dL_member_3 : decode bL_member 3 = .ok (.aload_n 0, 1) := by decide +kernel
theorem dL_member_4 : decode bL_member 4 = .ok (.iload_n 1, 1) := by decide +kernel
theorem dL_member_5 : decode bL_member 5 = .ok (.iload_n 2, 1) := by decide +kernel
theorem dL_member_6 : decode bL_member 6 = .ok (.iload_n 3, 1) := by decide +kernel
theorem dL_member_7 : decode bL_member 7 = .ok (.iload 4, 2) := by decide +kernel
theorem dL_member_9 : decode bL_member 9 = .ok (.iload 5, 2) := by decide +kernel
theorem dL_member_11 : decode bL_member 11 = .ok (.invokevirtual 49, 3) := by decide +kernel
theorem dL_member_14 : decode bL_member 14 = .ok (.i2l, 1) := by decide +kernel
theorem dL_member_15 : decode bL_member 15 = .ok (.lastore, 1) := by decide +kernel
theorem dL_member_16 : decode bL_member 16 = .ok (.goto 11, 3) := by decide +kernel
theorem dL_member_19 : decode bL_member 19 = .ok (.astore 7, 2) := by decide +kernel
theorem dL_member_21 : decode bL_member 21 = .ok (.iconst 1, 1) := by decide +kernel
theorem dL_member_22 : decode bL_member 22 = .ok (.ireturn, 1) := by decide +kernel
theorem dL_member_23 : decode bL_member 23 = .ok (.astore 7, 2) := by decide +kernel
theorem dL_member_25 : decode bL_member 25 = .ok (.iconst 2, 1) := by decide +kernel
theorem dL_member_26 : decode bL_member 26 = .ok (.ireturn, 1) := by decide +kernel
theorem dL_member_27 : decode bL_member 27 = .ok (.iconst 0, 1) := by decide +kernel
theorem dL_member_28 : decode bL_member 28 = .ok (.ireturn, 1) := by decide +kernel
theorem dL_in_0 : decode bL_in 0 = .ok (.aload 4, 2) := by decide +kernel
theorem dL_in_2 : decode bL_in 2 = .ok (.iconst 0, 1) := by decide +kernel
theorem dL_in_3 : decode bL_in 3 = .ok (.aload_n 0, 1) := by decide +kernel
theorem dL_in_4 : decode bL_in 4 = .ok (.iload_n 1, 1) := by decide +kernel
theorem dL_in_5 : decode bL_in 5 = .ok (.iload_n 2, 1) := by decide +kernel
theorem dL_in_6 : decode bL_in 6 = .ok (.iload_n 3, 1) := by decide +kernel
theorem dL_in_7 : decode bL_in 7 = .ok (.invokevirtual 53, 3) := by decide +kernel
theorem dL_in_10 : decode bL_in 10 = .ok (.ifCond .eq 7, 3) := by decide +kernel
theorem dL_in_13 : decode bL_in 13 = .ok (.lconst 1, 1) := by decide +kernel
theorem dL_in_14 : decode bL_in 14 = .ok (.goto 4, 3) := by decide +kernel
theorem dL_in_17 : decode bL_in 17 = .ok (.lconst 0, 1) := by decide +kernel
theorem dL_in_18 : decode bL_in 18 = .ok (.lastore, 1) := by decide +kernel
theorem dL_in_19 : decode bL_in 19 = .ok (.goto 11, 3) := by decide +kernel
theorem dL_in_22 : decode bL_in 22 = .ok (.astore 5, 2) := by decide +kernel
theorem dL_in_24 : decode bL_in 24 = .ok (.iconst 1, 1) := by decide +kernel
theorem dL_in_25 : decode bL_in 25 = .ok (.ireturn, 1) := by decide +kernel
theorem dL_in_26 : decode bL_in 26 = .ok (.astore 5, 2) := by decide +kernel
theorem dL_in_28 : decode bL_in 28 = .ok (.iconst 2, 1) := by decide +kernel
theorem dL_in_29 : decode bL_in 29 = .ok (.ireturn, 1) := by decide +kernel
theorem dL_in_30 : decode bL_in 30 = .ok (.iconst 0, 1) := by decide +kernel
theorem dL_in_31 : decode bL_in 31 = .ok (.ireturn, 1) := by decide +kernel
theorem dL_teeth_0 : decode bL_teeth 0 = .ok (.aload 7, 2) := by decide +kernel
theorem dL_teeth_2 : decode bL_teeth 2 = .ok (.iconst 0, 1) := by decide +kernel
theorem dL_teeth_3 : decode bL_teeth 3 = .ok (.aload_n 0, 1) := by decide +kernel
theorem dL_teeth_4 : decode bL_teeth 4 = .ok (.iload_n 1, 1) := by decide +kernel
theorem dL_teeth_5 : decode bL_teeth 5 = .ok (.iload_n 2, 1) := by decide +kernel
theorem dL_teeth_6 : decode bL_teeth 6 = .ok (.iload_n 3, 1) := by decide +kernel
theorem dL_teeth_7 : decode bL_teeth 7 = .ok (.iload 4, 2) := by decide +kernel
theorem dL_teeth_9 : decode bL_teeth 9 = .ok (.iload 5, 2) := by decide +kernel
theorem dL_teeth_11 : decode bL_teeth 11 = .ok (.iload 6, 2) := by decide +kernel
theorem dL_teeth_13 : decode bL_teeth 13 = .ok (.invokevirtual 57, 3) := by decide +kernel
theorem dL_teeth_16 : decode bL_teeth 16 = .ok (.i2l, 1) := by decide +kernel
theorem dL_teeth_17 : decode bL_teeth 17 = .ok (.lastore, 1) := by decide +kernel
theorem dL_teeth_18 : decode bL_teeth 18 = .ok (.goto 11, 3) := by decide +kernel
theorem dL_teeth_21 : decode bL_teeth 21 = .ok (.astore 8, 2) := by decide +kernel
theorem dL_teeth_23 : decode bL_teeth 23 = .ok (.iconst 1, 1) := by decide +kernel
theorem dL_teeth_24 : decode bL_teeth 24 = .ok (.ireturn, 1) := by decide +kernel
theorem dL_teeth_25 : decode bL_teeth 25 = .ok (.astore 8, 2) := by decide +kernel
theorem dL_teeth_27 : decode bL_teeth 27 = .ok (.iconst 2, 1) := by decide +kernel
theorem dL_teeth_28 : decode bL_teeth 28 = .ok (.ireturn, 1) := by decide +kernel
theorem dL_teeth_29 : decode bL_teeth 29 = .ok (.iconst 0, 1) := by decide +kernel
theorem dL_teeth_30 : decode bL_teeth 30 = .ok (.ireturn, 1) := by decide +kernel
theorem dL_thick_0 : decode bL_thick 0 = .ok (.aload_n 3, 1) := by decide +kernel
theorem dL_thick_1 : decode bL_thick 1 = .ok (.iconst 0, 1) := by decide +kernel
theorem dL_thick_2 : decode bL_thick 2 = .ok (.aload_n 0, 1) := by decide +kernel
theorem dL_thick_3 : decode bL_thick 3 = .ok (.iload_n 1, 1) := by decide +kernel
theorem dL_thick_4 : decode bL_thick 4 = .ok (.iload_n 2, 1) := by decide +kernel
theorem dL_thick_5 : decode bL_thick 5 = .ok (.invokevirtual 61, 3) := by decide +kernel
theorem dL_thick_8 : decode bL_thick 8 = .ok (.ifCond .eq 7, 3) := by decide +kernel
theorem dL_thick_11 : decode bL_thick 11 = .ok (.lconst 1, 1) := by decide +kernel
theorem dL_thick_12 : decode bL_thick 12 = .ok (.goto 4, 3) := by decide +kernel
theorem dL_thick_15 : decode bL_thick 15 = .ok (.lconst 0, 1) := by decide +kernel
theorem dL_thick_16 : decode bL_thick 16 = .ok (.lastore, 1) := by decide +kernel
theorem dL_thick_17 : decode bL_thick 17 = .ok (.goto 11, 3) := by decide +kernel
theorem dL_thick_20 : decode bL_thick 20 = .ok (.astore 4, 2) := by decide +kernel
theorem dL_thick_22 : decode bL_thick 22 = .ok (.iconst 1, 1) := by decide +kernel
theorem dL_thick_23 : decode bL_thick 23 = .ok (.ireturn, 1) := by decide +kernel
theorem dL_thick_24 : decode bL_thick 24 = .ok (.astore 4, 2) := by decide +kernel
theorem dL_thick_26 : decode bL_thick 26 = .ok (.iconst 2, 1) := by decide +kernel
theorem dL_thick_27 : decode bL_thick 27 = .ok (.ireturn, 1) := by decide +kernel
theorem dL_thick_28 : decode bL_thick 28 = .ok (.iconst 0, 1) := by decide +kernel
theorem dL_thick_29 : decode bL_thick 29 = .ok (.ireturn, 1) := by decide +kernel
theorem dL_hole_0 : decode bL_hole 0 = .ok (.aload_n 2, 1) := by decide +kernel
theorem dL_hole_1 : decode bL_hole 1 = .ok (.iconst 0, 1) := by decide +kernel
theorem dL_hole_2 : decode bL_hole 2 = .ok (.aload_n 0, 1) := by decide +kernel
theorem dL_hole_3 : decode bL_hole 3 = .ok (.iload_n 1, 1) := by decide +kernel
theorem dL_hole_4 : decode bL_hole 4 = .ok (.invokevirtual 65, 3) := by decide +kernel
theorem dL_hole_7 : decode bL_hole 7 = .ok (.i2l, 1) := by decide +kernel
theorem dL_hole_8 : decode bL_hole 8 = .ok (.lastore, 1) := by decide +kernel
theorem dL_hole_9 : decode bL_hole 9 = .ok (.goto 6, 3) := by decide +kernel
theorem dL_hole_12 : decode bL_hole 12 = .ok (.astore_n 3, 1) := by decide +kernel
theorem dL_hole_13 : decode bL_hole 13 = .ok (.iconst 1, 1) := by decide +kernel
theorem dL_hole_14 : decode bL_hole 14 = .ok (.ireturn, 1) := by decide +kernel
theorem dL_hole_15 : decode bL_hole 15 = .ok (.iconst 0, 1) := by decide +kernel
theorem dL_hole_16 : decode bL_hole 16 = .ok (.ireturn, 1) := by decide +kernel
theorem dL_law_0 : decode code 0 = .ok (.new 8, 3) := by decide +kernel
theorem dL_law_3 : decode code 3 = .ok (.dup, 1) := by decide +kernel
theorem dL_law_4 : decode code 4 = .ok (.invokespecial 69, 3) := by decide +kernel
theorem dL_law_7 : decode code 7 = .ok (.astore_n 1, 1) := by decide +kernel
theorem dL_law_8 : decode code 8 = .ok (.new 70, 3) := by decide +kernel
theorem dL_law_11 : decode code 11 = .ok (.dup, 1) := by decide +kernel
theorem dL_law_12 : decode code 12 = .ok (.invokespecial 72, 3) := by decide +kernel
theorem dL_law_15 : decode code 15 = .ok (.astore_n 2, 1) := by decide +kernel
theorem dL_law_16 : decode code 16 = .ok (.iconst 1, 1) := by decide +kernel
theorem dL_law_17 : decode code 17 = .ok (.newarray .long, 2) := by decide +kernel
theorem dL_law_19 : decode code 19 = .ok (.astore_n 3, 1) := by decide +kernel
theorem dL_law_20 : decode code 20 = .ok (.iconst 0, 1) := by decide +kernel
theorem dL_law_21 : decode code 21 = .ok (.istore 4, 2) := by decide +kernel
theorem dL_law_23 : decode code 23 = .ok (.iload 4, 2) := by decide +kernel
theorem dL_law_25 : decode code 25 = .ok (.aload_n 0, 1) := by decide +kernel
theorem dL_law_26 : decode code 26 = .ok (.arraylength, 1) := by decide +kernel
theorem dL_law_27 : decode code 27 = .ok (.bipush 7, 2) := by decide +kernel
theorem dL_law_29 : decode code 29 = .ok (.isub, 1) := by decide +kernel
theorem dL_law_30 : decode code 30 = .ok (.if_icmp .gt 1354, 3) := by decide +kernel
theorem dL_law_33 : decode code 33 = .ok (.aload_n 0, 1) := by decide +kernel
theorem dL_law_34 : decode code 34 = .ok (.iload 4, 2) := by decide +kernel
theorem dL_law_36 : decode code 36 = .ok (.iaload, 1) := by decide +kernel
theorem dL_law_37 : decode code 37 = .ok (.bipush 31, 2) := by decide +kernel
theorem dL_law_39 : decode code 39 = .ok (.iand, 1) := by decide +kernel
theorem dL_law_40 : decode code 40 = .ok (.tableswitch 1338 0 16 #[84, 109, 122, 190, 238, 341, 440, 572, 671, 739, 807, 818, 898, 1002, 1089, 1207, 1282], 84) := by decide +kernel
theorem dL_law_124 : decode code 124 = .ok (.aload_n 1, 1) := by decide +kernel
theorem dL_law_125 : decode code 125 = .ok (.aload_n 0, 1) := by decide +kernel
theorem dL_law_126 : decode code 126 = .ok (.iload 4, 2) := by decide +kernel
theorem dL_law_128 : decode code 128 = .ok (.iconst 1, 1) := by decide +kernel
theorem dL_law_129 : decode code 129 = .ok (.iadd, 1) := by decide +kernel
theorem dL_law_130 : decode code 130 = .ok (.iaload, 1) := by decide +kernel
theorem dL_law_131 : decode code 131 = .ok (.invokevirtual 73, 3) := by decide +kernel
theorem dL_law_134 : decode code 134 = .ok (.aload_n 2, 1) := by decide +kernel
theorem dL_law_135 : decode code 135 = .ok (.aload_n 0, 1) := by decide +kernel
theorem dL_law_136 : decode code 136 = .ok (.iload 4, 2) := by decide +kernel
theorem dL_law_138 : decode code 138 = .ok (.iconst 1, 1) := by decide +kernel
theorem dL_law_139 : decode code 139 = .ok (.iadd, 1) := by decide +kernel
theorem dL_law_140 : decode code 140 = .ok (.iaload, 1) := by decide +kernel
theorem dL_law_141 : decode code 141 = .ok (.invokevirtual 77, 3) := by decide +kernel
theorem dL_law_144 : decode code 144 = .ok (.if_icmp .eq 1234, 3) := by decide +kernel
theorem dL_law_147 : decode code 147 = .ok (.iconst 0, 1) := by decide +kernel
theorem dL_law_148 : decode code 148 = .ok (.ireturn, 1) := by decide +kernel
theorem dL_law_149 : decode code 149 = .ok (.aload_n 1, 1) := by decide +kernel
theorem dL_law_150 : decode code 150 = .ok (.invokevirtual 78, 3) := by decide +kernel
theorem dL_law_153 : decode code 153 = .ok (.aload_n 2, 1) := by decide +kernel
theorem dL_law_154 : decode code 154 = .ok (.invokevirtual 82, 3) := by decide +kernel
theorem dL_law_157 : decode code 157 = .ok (.if_icmp .eq 1221, 3) := by decide +kernel
theorem dL_law_160 : decode code 160 = .ok (.iconst 0, 1) := by decide +kernel
theorem dL_law_161 : decode code 161 = .ok (.ireturn, 1) := by decide +kernel
theorem dL_law_162 : decode code 162 = .ok (.aload_n 1, 1) := by decide +kernel
theorem dL_law_163 : decode code 163 = .ok (.aload_n 0, 1) := by decide +kernel
theorem dL_law_164 : decode code 164 = .ok (.iload 4, 2) := by decide +kernel
theorem dL_law_166 : decode code 166 = .ok (.iconst 1, 1) := by decide +kernel
theorem dL_law_167 : decode code 167 = .ok (.iadd, 1) := by decide +kernel
theorem dL_law_168 : decode code 168 = .ok (.iaload, 1) := by decide +kernel
theorem dL_law_169 : decode code 169 = .ok (.aload_n 0, 1) := by decide +kernel
theorem dL_law_170 : decode code 170 = .ok (.iload 4, 2) := by decide +kernel
theorem dL_law_172 : decode code 172 = .ok (.iconst 2, 1) := by decide +kernel
theorem dL_law_173 : decode code 173 = .ok (.iadd, 1) := by decide +kernel
theorem dL_law_174 : decode code 174 = .ok (.iaload, 1) := by decide +kernel
theorem dL_law_175 : decode code 175 = .ok (.aload_n 3, 1) := by decide +kernel
theorem dL_law_176 : decode code 176 = .ok (.invokestatic 83, 3) := by decide +kernel
theorem dL_law_179 : decode code 179 = .ok (.istore 5, 2) := by decide +kernel
theorem dL_law_181 : decode code 181 = .ok (.aload_n 2, 1) := by decide +kernel
theorem dL_law_182 : decode code 182 = .ok (.aload_n 0, 1) := by decide +kernel
theorem dL_law_183 : decode code 183 = .ok (.iload 4, 2) := by decide +kernel
theorem dL_law_185 : decode code 185 = .ok (.iconst 1, 1) := by decide +kernel
theorem dL_law_186 : decode code 186 = .ok (.iadd, 1) := by decide +kernel
theorem dL_law_187 : decode code 187 = .ok (.iaload, 1) := by decide +kernel
theorem dL_law_188 : decode code 188 = .ok (.aload_n 0, 1) := by decide +kernel
theorem dL_law_189 : decode code 189 = .ok (.iload 4, 2) := by decide +kernel
theorem dL_law_191 : decode code 191 = .ok (.iconst 2, 1) := by decide +kernel
theorem dL_law_192 : decode code 192 = .ok (.iadd, 1) := by decide +kernel
theorem dL_law_193 : decode code 193 = .ok (.iaload, 1) := by decide +kernel
theorem dL_law_194 : decode code 194 = .ok (.invokevirtual 88, 3) := by decide +kernel
theorem dL_law_197 : decode code 197 = .ok (.istore 6, 2) := by decide +kernel
theorem dL_law_199 : decode code 199 = .ok (.aload_n 2, 1) := by decide +kernel
theorem dL_law_200 : decode code 200 = .ok (.invokevirtual 89, 3) := by decide +kernel
theorem dL_law_203 : decode code 203 = .ok (.iload 5, 2) := by decide +kernel
theorem dL_law_205 : decode code 205 = .ok (.if_icmp .eq 5, 3) := by decide +kernel
theorem dL_law_208 : decode code 208 = .ok (.iconst 0, 1) := by decide +kernel
theorem dL_law_209 : decode code 209 = .ok (.ireturn, 1) := by decide +kernel
theorem dL_law_210 : decode code 210 = .ok (.iload 5, 2) := by decide +kernel
theorem dL_law_212 : decode code 212 = .ok (.ifCond .ne 15, 3) := by decide +kernel
theorem dL_law_215 : decode code 215 = .ok (.aload_n 3, 1) := by decide +kernel
theorem dL_law_216 : decode code 216 = .ok (.iconst 0, 1) := by decide +kernel
theorem dL_law_217 : decode code 217 = .ok (.laload, 1) := by decide +kernel
theorem dL_law_218 : decode code 218 = .ok (.iload 6, 2) := by decide +kernel
theorem dL_law_220 : decode code 220 = .ok (.i2l, 1) := by decide +kernel
theorem dL_law_221 : decode code 221 = .ok (.lcmp, 1) := by decide +kernel
theorem dL_law_222 : decode code 222 = .ok (.ifCond .eq 5, 3) := by decide +kernel
theorem dL_law_225 : decode code 225 = .ok (.iconst 0, 1) := by decide +kernel
theorem dL_law_226 : decode code 226 = .ok (.ireturn, 1) := by decide +kernel
theorem dL_law_227 : decode code 227 = .ok (.goto 1151, 3) := by decide +kernel
theorem dL_law_230 : decode code 230 = .ok (.aload_n 1, 1) := by decide +kernel
theorem dL_law_231 : decode code 231 = .ok (.aload_n 0, 1) := by decide +kernel
theorem dL_law_232 : decode code 232 = .ok (.iload 4, 2) := by decide +kernel
theorem dL_law_234 : decode code 234 = .ok (.iconst 1, 1) := by decide +kernel
theorem dL_law_235 : decode code 235 = .ok (.iadd, 1) := by decide +kernel
theorem dL_law_236 : decode code 236 = .ok (.iaload, 1) := by decide +kernel
theorem dL_law_237 : decode code 237 = .ok (.aload_n 0, 1) := by decide +kernel
theorem dL_law_238 : decode code 238 = .ok (.iload 4, 2) := by decide +kernel
theorem dL_law_240 : decode code 240 = .ok (.iconst 2, 1) := by decide +kernel
theorem dL_law_241 : decode code 241 = .ok (.iadd, 1) := by decide +kernel
theorem dL_law_242 : decode code 242 = .ok (.iaload, 1) := by decide +kernel
theorem dL_law_243 : decode code 243 = .ok (.invokestatic 92, 3) := by decide +kernel
theorem dL_law_246 : decode code 246 = .ok (.istore 5, 2) := by decide +kernel
theorem dL_law_248 : decode code 248 = .ok (.aload_n 2, 1) := by decide +kernel
theorem dL_law_249 : decode code 249 = .ok (.aload_n 0, 1) := by decide +kernel
theorem dL_law_250 : decode code 250 = .ok (.iload 4, 2) := by decide +kernel
theorem dL_law_252 : decode code 252 = .ok (.iconst 1, 1) := by decide +kernel
theorem dL_law_253 : decode code 253 = .ok (.iadd, 1) := by decide +kernel
theorem dL_law_254 : decode code 254 = .ok (.iaload, 1) := by decide +kernel
theorem dL_law_255 : decode code 255 = .ok (.aload_n 0, 1) := by decide +kernel
theorem dL_law_256 : decode code 256 = .ok (.iload 4, 2) := by decide +kernel
theorem dL_law_258 : decode code 258 = .ok (.iconst 2, 1) := by decide +kernel
theorem dL_law_259 : decode code 259 = .ok (.iadd, 1) := by decide +kernel
theorem dL_law_260 : decode code 260 = .ok (.iaload, 1) := by decide +kernel
theorem dL_law_261 : decode code 261 = .ok (.invokevirtual 95, 3) := by decide +kernel
theorem dL_law_264 : decode code 264 = .ok (.aload_n 2, 1) := by decide +kernel
theorem dL_law_265 : decode code 265 = .ok (.invokevirtual 89, 3) := by decide +kernel
theorem dL_law_268 : decode code 268 = .ok (.iload 5, 2) := by decide +kernel
theorem dL_law_270 : decode code 270 = .ok (.if_icmp .eq 5, 3) := by decide +kernel
theorem dL_law_273 : decode code 273 = .ok (.iconst 0, 1) := by decide +kernel
theorem dL_law_274 : decode code 274 = .ok (.ireturn, 1) := by decide +kernel
theorem dL_law_275 : decode code 275 = .ok (.goto 1103, 3) := by decide +kernel
theorem dL_law_278 : decode code 278 = .ok (.aload_n 1, 1) := by decide +kernel
theorem dL_law_279 : decode code 279 = .ok (.aload_n 0, 1) := by decide +kernel
theorem dL_law_280 : decode code 280 = .ok (.iload 4, 2) := by decide +kernel
theorem dL_law_282 : decode code 282 = .ok (.iconst 1, 1) := by decide +kernel
theorem dL_law_283 : decode code 283 = .ok (.iadd, 1) := by decide +kernel
theorem dL_law_284 : decode code 284 = .ok (.iaload, 1) := by decide +kernel
theorem dL_law_285 : decode code 285 = .ok (.aload_n 0, 1) := by decide +kernel
theorem dL_law_286 : decode code 286 = .ok (.iload 4, 2) := by decide +kernel
theorem dL_law_288 : decode code 288 = .ok (.iconst 2, 1) := by decide +kernel
theorem dL_law_289 : decode code 289 = .ok (.iadd, 1) := by decide +kernel
theorem dL_law_290 : decode code 290 = .ok (.iaload, 1) := by decide +kernel
theorem dL_law_291 : decode code 291 = .ok (.aload_n 0, 1) := by decide +kernel
theorem dL_law_292 : decode code 292 = .ok (.iload 4, 2) := by decide +kernel
theorem dL_law_294 : decode code 294 = .ok (.iconst 3, 1) := by decide +kernel
theorem dL_law_295 : decode code 295 = .ok (.iadd, 1) := by decide +kernel
theorem dL_law_296 : decode code 296 = .ok (.iaload, 1) := by decide +kernel
theorem dL_law_297 : decode code 297 = .ok (.aload_n 0, 1) := by decide +kernel
theorem dL_law_298 : decode code 298 = .ok (.iload 4, 2) := by decide +kernel
theorem dL_law_300 : decode code 300 = .ok (.iconst 4, 1) := by decide +kernel
theorem dL_law_301 : decode code 301 = .ok (.iadd, 1) := by decide +kernel
theorem dL_law_302 : decode code 302 = .ok (.iaload, 1) := by decide +kernel
theorem dL_law_303 : decode code 303 = .ok (.aload_n 0, 1) := by decide +kernel
theorem dL_law_304 : decode code 304 = .ok (.iload 4, 2) := by decide +kernel
theorem dL_law_306 : decode code 306 = .ok (.iconst 5, 1) := by decide +kernel
theorem dL_law_307 : decode code 307 = .ok (.iadd, 1) := by decide +kernel
theorem dL_law_308 : decode code 308 = .ok (.iaload, 1) := by decide +kernel
theorem dL_law_309 : decode code 309 = .ok (.aload_n 3, 1) := by decide +kernel
theorem dL_law_310 : decode code 310 = .ok (.invokestatic 96, 3) := by decide +kernel
theorem dL_law_313 : decode code 313 = .ok (.istore 5, 2) := by decide +kernel
theorem dL_law_315 : decode code 315 = .ok (.aload_n 2, 1) := by decide +kernel
theorem dL_law_316 : decode code 316 = .ok (.aload_n 0, 1) := by decide +kernel
theorem dL_law_317 : decode code 317 = .ok (.iload 4, 2) := by decide +kernel
theorem dL_law_319 : decode code 319 = .ok (.iconst 1, 1) := by decide +kernel
theorem dL_law_320 : decode code 320 = .ok (.iadd, 1) := by decide +kernel
theorem dL_law_321 : decode code 321 = .ok (.iaload, 1) := by decide +kernel
theorem dL_law_322 : decode code 322 = .ok (.aload_n 0, 1) := by decide +kernel
theorem dL_law_323 : decode code 323 = .ok (.iload 4, 2) := by decide +kernel
theorem dL_law_325 : decode code 325 = .ok (.iconst 2, 1) := by decide +kernel
theorem dL_law_326 : decode code 326 = .ok (.iadd, 1) := by decide +kernel
theorem dL_law_327 : decode code 327 = .ok (.iaload, 1) := by decide +kernel
theorem dL_law_328 : decode code 328 = .ok (.aload_n 0, 1) := by decide +kernel
theorem dL_law_329 : decode code 329 = .ok (.iload 4, 2) := by decide +kernel
theorem dL_law_331 : decode code 331 = .ok (.iconst 3, 1) := by decide +kernel
theorem dL_law_332 : decode code 332 = .ok (.iadd, 1) := by decide +kernel
theorem dL_law_333 : decode code 333 = .ok (.iaload, 1) := by decide +kernel
theorem dL_law_334 : decode code 334 = .ok (.aload_n 0, 1) := by decide +kernel
theorem dL_law_335 : decode code 335 = .ok (.iload 4, 2) := by decide +kernel
theorem dL_law_337 : decode code 337 = .ok (.iconst 4, 1) := by decide +kernel
theorem dL_law_338 : decode code 338 = .ok (.iadd, 1) := by decide +kernel
theorem dL_law_339 : decode code 339 = .ok (.iaload, 1) := by decide +kernel
theorem dL_law_340 : decode code 340 = .ok (.aload_n 0, 1) := by decide +kernel
theorem dL_law_341 : decode code 341 = .ok (.iload 4, 2) := by decide +kernel
theorem dL_law_343 : decode code 343 = .ok (.iconst 5, 1) := by decide +kernel
theorem dL_law_344 : decode code 344 = .ok (.iadd, 1) := by decide +kernel
theorem dL_law_345 : decode code 345 = .ok (.iaload, 1) := by decide +kernel
theorem dL_law_346 : decode code 346 = .ok (.invokevirtual 99, 3) := by decide +kernel
theorem dL_law_349 : decode code 349 = .ok (.lstore 6, 2) := by decide +kernel
theorem dL_law_351 : decode code 351 = .ok (.aload_n 2, 1) := by decide +kernel
theorem dL_law_352 : decode code 352 = .ok (.invokevirtual 89, 3) := by decide +kernel
theorem dL_law_355 : decode code 355 = .ok (.iload 5, 2) := by decide +kernel
theorem dL_law_357 : decode code 357 = .ok (.if_icmp .eq 5, 3) := by decide +kernel
theorem dL_law_360 : decode code 360 = .ok (.iconst 0, 1) := by decide +kernel
theorem dL_law_361 : decode code 361 = .ok (.ireturn, 1) := by decide +kernel
theorem dL_law_362 : decode code 362 = .ok (.iload 5, 2) := by decide +kernel
theorem dL_law_364 : decode code 364 = .ok (.ifCond .ne 14, 3) := by decide +kernel
theorem dL_law_367 : decode code 367 = .ok (.aload_n 3, 1) := by decide +kernel
theorem dL_law_368 : decode code 368 = .ok (.iconst 0, 1) := by decide +kernel
theorem dL_law_369 : decode code 369 = .ok (.laload, 1) := by decide +kernel
theorem dL_law_370 : decode code 370 = .ok (.lload 6, 2) := by decide +kernel
theorem dL_law_372 : decode code 372 = .ok (.lcmp, 1) := by decide +kernel
theorem dL_law_373 : decode code 373 = .ok (.ifCond .eq 5, 3) := by decide +kernel
theorem dL_law_376 : decode code 376 = .ok (.iconst 0, 1) := by decide +kernel
theorem dL_law_377 : decode code 377 = .ok (.ireturn, 1) := by decide +kernel
theorem dL_law_378 : decode code 378 = .ok (.goto 1000, 3) := by decide +kernel
theorem dL_law_381 : decode code 381 = .ok (.aload_n 1, 1) := by decide +kernel
theorem dL_law_382 : decode code 382 = .ok (.aload_n 0, 1) := by decide +kernel
theorem dL_law_383 : decode code 383 = .ok (.iload 4, 2) := by decide +kernel
theorem dL_law_385 : decode code 385 = .ok (.iconst 1, 1) := by decide +kernel
theorem dL_law_386 : decode code 386 = .ok (.iadd, 1) := by decide +kernel
theorem dL_law_387 : decode code 387 = .ok (.iaload, 1) := by decide +kernel
theorem dL_law_388 : decode code 388 = .ok (.aload_n 0, 1) := by decide +kernel
theorem dL_law_389 : decode code 389 = .ok (.iload 4, 2) := by decide +kernel
theorem dL_law_391 : decode code 391 = .ok (.iconst 2, 1) := by decide +kernel
theorem dL_law_392 : decode code 392 = .ok (.iadd, 1) := by decide +kernel
theorem dL_law_393 : decode code 393 = .ok (.iaload, 1) := by decide +kernel
theorem dL_law_394 : decode code 394 = .ok (.i2l, 1) := by decide +kernel
theorem dL_law_395 : decode code 395 = .ok (.bipush 32, 2) := by decide +kernel
theorem dL_law_397 : decode code 397 = .ok (.lshl, 1) := by decide +kernel
theorem dL_law_398 : decode code 398 = .ok (.aload_n 0, 1) := by decide +kernel
theorem dL_law_399 : decode code 399 = .ok (.iload 4, 2) := by decide +kernel
theorem dL_law_401 : decode code 401 = .ok (.iconst 3, 1) := by decide +kernel
theorem dL_law_402 : decode code 402 = .ok (.iadd, 1) := by decide +kernel
theorem dL_law_403 : decode code 403 = .ok (.iaload, 1) := by decide +kernel
theorem dL_law_404 : decode code 404 = .ok (.i2l, 1) := by decide +kernel
theorem dL_law_405 : decode code 405 = .ok (.ldc2_w 100, 3) := by decide +kernel
theorem dL_law_408 : decode code 408 = .ok (.land, 1) := by decide +kernel
theorem dL_law_409 : decode code 409 = .ok (.lor, 1) := by decide +kernel
theorem dL_law_410 : decode code 410 = .ok (.aload_n 3, 1) := by decide +kernel
theorem dL_law_411 : decode code 411 = .ok (.invokestatic 102, 3) := by decide +kernel
theorem dL_law_414 : decode code 414 = .ok (.istore 5, 2) := by decide +kernel
theorem dL_law_416 : decode code 416 = .ok (.aload_n 2, 1) := by decide +kernel
theorem dL_law_417 : decode code 417 = .ok (.aload_n 0, 1) := by decide +kernel
theorem dL_law_418 : decode code 418 = .ok (.iload 4, 2) := by decide +kernel
theorem dL_law_420 : decode code 420 = .ok (.iconst 1, 1) := by decide +kernel
theorem dL_law_421 : decode code 421 = .ok (.iadd, 1) := by decide +kernel
theorem dL_law_422 : decode code 422 = .ok (.iaload, 1) := by decide +kernel
theorem dL_law_423 : decode code 423 = .ok (.aload_n 0, 1) := by decide +kernel
theorem dL_law_424 : decode code 424 = .ok (.iload 4, 2) := by decide +kernel
theorem dL_law_426 : decode code 426 = .ok (.iconst 2, 1) := by decide +kernel
theorem dL_law_427 : decode code 427 = .ok (.iadd, 1) := by decide +kernel
theorem dL_law_428 : decode code 428 = .ok (.iaload, 1) := by decide +kernel
theorem dL_law_429 : decode code 429 = .ok (.i2l, 1) := by decide +kernel
theorem dL_law_430 : decode code 430 = .ok (.bipush 32, 2) := by decide +kernel
theorem dL_law_432 : decode code 432 = .ok (.lshl, 1) := by decide +kernel
theorem dL_law_433 : decode code 433 = .ok (.aload_n 0, 1) := by decide +kernel
theorem dL_law_434 : decode code 434 = .ok (.iload 4, 2) := by decide +kernel
theorem dL_law_436 : decode code 436 = .ok (.iconst 3, 1) := by decide +kernel
theorem dL_law_437 : decode code 437 = .ok (.iadd, 1) := by decide +kernel
theorem dL_law_438 : decode code 438 = .ok (.iaload, 1) := by decide +kernel
theorem dL_law_439 : decode code 439 = .ok (.i2l, 1) := by decide +kernel
theorem dL_law_440 : decode code 440 = .ok (.ldc2_w 100, 3) := by decide +kernel
theorem dL_law_443 : decode code 443 = .ok (.land, 1) := by decide +kernel
theorem dL_law_444 : decode code 444 = .ok (.lor, 1) := by decide +kernel
theorem dL_law_445 : decode code 445 = .ok (.invokevirtual 105, 3) := by decide +kernel
theorem dL_law_448 : decode code 448 = .ok (.lstore 6, 2) := by decide +kernel
theorem dL_law_450 : decode code 450 = .ok (.aload_n 2, 1) := by decide +kernel
theorem dL_law_451 : decode code 451 = .ok (.invokevirtual 89, 3) := by decide +kernel
theorem dL_law_454 : decode code 454 = .ok (.iload 5, 2) := by decide +kernel
theorem dL_law_456 : decode code 456 = .ok (.if_icmp .eq 5, 3) := by decide +kernel
theorem dL_law_459 : decode code 459 = .ok (.iconst 0, 1) := by decide +kernel
theorem dL_law_460 : decode code 460 = .ok (.ireturn, 1) := by decide +kernel
theorem dL_law_461 : decode code 461 = .ok (.iload 5, 2) := by decide +kernel
theorem dL_law_463 : decode code 463 = .ok (.ifCond .ne 14, 3) := by decide +kernel
theorem dL_law_466 : decode code 466 = .ok (.aload_n 3, 1) := by decide +kernel
theorem dL_law_467 : decode code 467 = .ok (.iconst 0, 1) := by decide +kernel
theorem dL_law_468 : decode code 468 = .ok (.laload, 1) := by decide +kernel
theorem dL_law_469 : decode code 469 = .ok (.lload 6, 2) := by decide +kernel
theorem dL_law_471 : decode code 471 = .ok (.lcmp, 1) := by decide +kernel
theorem dL_law_472 : decode code 472 = .ok (.ifCond .eq 5, 3) := by decide +kernel
theorem dL_law_475 : decode code 475 = .ok (.iconst 0, 1) := by decide +kernel
theorem dL_law_476 : decode code 476 = .ok (.ireturn, 1) := by decide +kernel
theorem dL_law_477 : decode code 477 = .ok (.goto 901, 3) := by decide +kernel
theorem dL_law_480 : decode code 480 = .ok (.aload_n 1, 1) := by decide +kernel
theorem dL_law_481 : decode code 481 = .ok (.aload_n 0, 1) := by decide +kernel
theorem dL_law_482 : decode code 482 = .ok (.iload 4, 2) := by decide +kernel
theorem dL_law_484 : decode code 484 = .ok (.iconst 1, 1) := by decide +kernel
theorem dL_law_485 : decode code 485 = .ok (.iadd, 1) := by decide +kernel
theorem dL_law_486 : decode code 486 = .ok (.iaload, 1) := by decide +kernel
theorem dL_law_487 : decode code 487 = .ok (.i2l, 1) := by decide +kernel
theorem dL_law_488 : decode code 488 = .ok (.bipush 32, 2) := by decide +kernel
theorem dL_law_490 : decode code 490 = .ok (.lshl, 1) := by decide +kernel
theorem dL_law_491 : decode code 491 = .ok (.aload_n 0, 1) := by decide +kernel
theorem dL_law_492 : decode code 492 = .ok (.iload 4, 2) := by decide +kernel
theorem dL_law_494 : decode code 494 = .ok (.iconst 2, 1) := by decide +kernel
theorem dL_law_495 : decode code 495 = .ok (.iadd, 1) := by decide +kernel
theorem dL_law_496 : decode code 496 = .ok (.iaload, 1) := by decide +kernel
theorem dL_law_497 : decode code 497 = .ok (.i2l, 1) := by decide +kernel
theorem dL_law_498 : decode code 498 = .ok (.ldc2_w 100, 3) := by decide +kernel
theorem dL_law_501 : decode code 501 = .ok (.land, 1) := by decide +kernel
theorem dL_law_502 : decode code 502 = .ok (.lor, 1) := by decide +kernel
theorem dL_law_503 : decode code 503 = .ok (.aload_n 0, 1) := by decide +kernel
theorem dL_law_504 : decode code 504 = .ok (.iload 4, 2) := by decide +kernel
theorem dL_law_506 : decode code 506 = .ok (.iconst 3, 1) := by decide +kernel
theorem dL_law_507 : decode code 507 = .ok (.iadd, 1) := by decide +kernel
theorem dL_law_508 : decode code 508 = .ok (.iaload, 1) := by decide +kernel
theorem dL_law_509 : decode code 509 = .ok (.i2l, 1) := by decide +kernel
theorem dL_law_510 : decode code 510 = .ok (.bipush 32, 2) := by decide +kernel
theorem dL_law_512 : decode code 512 = .ok (.lshl, 1) := by decide +kernel
theorem dL_law_513 : decode code 513 = .ok (.aload_n 0, 1) := by decide +kernel
theorem dL_law_514 : decode code 514 = .ok (.iload 4, 2) := by decide +kernel
theorem dL_law_516 : decode code 516 = .ok (.iconst 4, 1) := by decide +kernel
theorem dL_law_517 : decode code 517 = .ok (.iadd, 1) := by decide +kernel
theorem dL_law_518 : decode code 518 = .ok (.iaload, 1) := by decide +kernel
theorem dL_law_519 : decode code 519 = .ok (.i2l, 1) := by decide +kernel
theorem dL_law_520 : decode code 520 = .ok (.ldc2_w 100, 3) := by decide +kernel
theorem dL_law_523 : decode code 523 = .ok (.land, 1) := by decide +kernel
theorem dL_law_524 : decode code 524 = .ok (.lor, 1) := by decide +kernel
theorem dL_law_525 : decode code 525 = .ok (.aload_n 3, 1) := by decide +kernel
theorem dL_law_526 : decode code 526 = .ok (.invokestatic 106, 3) := by decide +kernel
theorem dL_law_529 : decode code 529 = .ok (.istore 5, 2) := by decide +kernel
theorem dL_law_531 : decode code 531 = .ok (.aload_n 2, 1) := by decide +kernel
theorem dL_law_532 : decode code 532 = .ok (.aload_n 0, 1) := by decide +kernel
theorem dL_law_533 : decode code 533 = .ok (.iload 4, 2) := by decide +kernel
theorem dL_law_535 : decode code 535 = .ok (.iconst 1, 1) := by decide +kernel
theorem dL_law_536 : decode code 536 = .ok (.iadd, 1) := by decide +kernel
theorem dL_law_537 : decode code 537 = .ok (.iaload, 1) := by decide +kernel
theorem dL_law_538 : decode code 538 = .ok (.i2l, 1) := by decide +kernel
theorem dL_law_539 : decode code 539 = .ok (.bipush 32, 2) := by decide +kernel
theorem dL_law_541 : decode code 541 = .ok (.lshl, 1) := by decide +kernel
theorem dL_law_542 : decode code 542 = .ok (.aload_n 0, 1) := by decide +kernel
theorem dL_law_543 : decode code 543 = .ok (.iload 4, 2) := by decide +kernel
theorem dL_law_545 : decode code 545 = .ok (.iconst 2, 1) := by decide +kernel
theorem dL_law_546 : decode code 546 = .ok (.iadd, 1) := by decide +kernel
theorem dL_law_547 : decode code 547 = .ok (.iaload, 1) := by decide +kernel
theorem dL_law_548 : decode code 548 = .ok (.i2l, 1) := by decide +kernel
theorem dL_law_549 : decode code 549 = .ok (.ldc2_w 100, 3) := by decide +kernel
theorem dL_law_552 : decode code 552 = .ok (.land, 1) := by decide +kernel
theorem dL_law_553 : decode code 553 = .ok (.lor, 1) := by decide +kernel
theorem dL_law_554 : decode code 554 = .ok (.aload_n 0, 1) := by decide +kernel
theorem dL_law_555 : decode code 555 = .ok (.iload 4, 2) := by decide +kernel
theorem dL_law_557 : decode code 557 = .ok (.iconst 3, 1) := by decide +kernel
theorem dL_law_558 : decode code 558 = .ok (.iadd, 1) := by decide +kernel
theorem dL_law_559 : decode code 559 = .ok (.iaload, 1) := by decide +kernel
theorem dL_law_560 : decode code 560 = .ok (.i2l, 1) := by decide +kernel
theorem dL_law_561 : decode code 561 = .ok (.bipush 32, 2) := by decide +kernel
theorem dL_law_563 : decode code 563 = .ok (.lshl, 1) := by decide +kernel
theorem dL_law_564 : decode code 564 = .ok (.aload_n 0, 1) := by decide +kernel
theorem dL_law_565 : decode code 565 = .ok (.iload 4, 2) := by decide +kernel
theorem dL_law_567 : decode code 567 = .ok (.iconst 4, 1) := by decide +kernel
theorem dL_law_568 : decode code 568 = .ok (.iadd, 1) := by decide +kernel
theorem dL_law_569 : decode code 569 = .ok (.iaload, 1) := by decide +kernel
theorem dL_law_570 : decode code 570 = .ok (.i2l, 1) := by decide +kernel
theorem dL_law_571 : decode code 571 = .ok (.ldc2_w 100, 3) := by decide +kernel
theorem dL_law_574 : decode code 574 = .ok (.land, 1) := by decide +kernel
theorem dL_law_575 : decode code 575 = .ok (.lor, 1) := by decide +kernel
theorem dL_law_576 : decode code 576 = .ok (.invokevirtual 109, 3) := by decide +kernel
theorem dL_law_579 : decode code 579 = .ok (.istore 6, 2) := by decide +kernel
theorem dL_law_581 : decode code 581 = .ok (.aload_n 2, 1) := by decide +kernel
theorem dL_law_582 : decode code 582 = .ok (.invokevirtual 89, 3) := by decide +kernel
theorem dL_law_585 : decode code 585 = .ok (.iload 5, 2) := by decide +kernel
theorem dL_law_587 : decode code 587 = .ok (.if_icmp .eq 5, 3) := by decide +kernel
theorem dL_law_590 : decode code 590 = .ok (.iconst 0, 1) := by decide +kernel
theorem dL_law_591 : decode code 591 = .ok (.ireturn, 1) := by decide +kernel
theorem dL_law_592 : decode code 592 = .ok (.iload 5, 2) := by decide +kernel
theorem dL_law_594 : decode code 594 = .ok (.ifCond .ne 15, 3) := by decide +kernel
theorem dL_law_597 : decode code 597 = .ok (.aload_n 3, 1) := by decide +kernel
theorem dL_law_598 : decode code 598 = .ok (.iconst 0, 1) := by decide +kernel
theorem dL_law_599 : decode code 599 = .ok (.laload, 1) := by decide +kernel
theorem dL_law_600 : decode code 600 = .ok (.iload 6, 2) := by decide +kernel
theorem dL_law_602 : decode code 602 = .ok (.i2l, 1) := by decide +kernel
theorem dL_law_603 : decode code 603 = .ok (.lcmp, 1) := by decide +kernel
theorem dL_law_604 : decode code 604 = .ok (.ifCond .eq 5, 3) := by decide +kernel
theorem dL_law_607 : decode code 607 = .ok (.iconst 0, 1) := by decide +kernel
theorem dL_law_608 : decode code 608 = .ok (.ireturn, 1) := by decide +kernel
theorem dL_law_609 : decode code 609 = .ok (.goto 769, 3) := by decide +kernel
theorem dL_law_612 : decode code 612 = .ok (.aload_n 1, 1) := by decide +kernel
theorem dL_law_613 : decode code 613 = .ok (.aload_n 0, 1) := by decide +kernel
theorem dL_law_614 : decode code 614 = .ok (.iload 4, 2) := by decide +kernel
theorem dL_law_616 : decode code 616 = .ok (.iconst 1, 1) := by decide +kernel
theorem dL_law_617 : decode code 617 = .ok (.iadd, 1) := by decide +kernel
theorem dL_law_618 : decode code 618 = .ok (.iaload, 1) := by decide +kernel
theorem dL_law_619 : decode code 619 = .ok (.aload_n 0, 1) := by decide +kernel
theorem dL_law_620 : decode code 620 = .ok (.iload 4, 2) := by decide +kernel
theorem dL_law_622 : decode code 622 = .ok (.iconst 2, 1) := by decide +kernel
theorem dL_law_623 : decode code 623 = .ok (.iadd, 1) := by decide +kernel
theorem dL_law_624 : decode code 624 = .ok (.iaload, 1) := by decide +kernel
theorem dL_law_625 : decode code 625 = .ok (.aload_n 0, 1) := by decide +kernel
theorem dL_law_626 : decode code 626 = .ok (.iload 4, 2) := by decide +kernel
theorem dL_law_628 : decode code 628 = .ok (.iconst 3, 1) := by decide +kernel
theorem dL_law_629 : decode code 629 = .ok (.iadd, 1) := by decide +kernel
theorem dL_law_630 : decode code 630 = .ok (.iaload, 1) := by decide +kernel
theorem dL_law_631 : decode code 631 = .ok (.aload_n 0, 1) := by decide +kernel
theorem dL_law_632 : decode code 632 = .ok (.iload 4, 2) := by decide +kernel
theorem dL_law_634 : decode code 634 = .ok (.iconst 4, 1) := by decide +kernel
theorem dL_law_635 : decode code 635 = .ok (.iadd, 1) := by decide +kernel
theorem dL_law_636 : decode code 636 = .ok (.iaload, 1) := by decide +kernel
theorem dL_law_637 : decode code 637 = .ok (.aload_n 3, 1) := by decide +kernel
theorem dL_law_638 : decode code 638 = .ok (.invokestatic 110, 3) := by decide +kernel
theorem dL_law_641 : decode code 641 = .ok (.istore 5, 2) := by decide +kernel
theorem dL_law_643 : decode code 643 = .ok (.aload_n 2, 1) := by decide +kernel
theorem dL_law_644 : decode code 644 = .ok (.aload_n 0, 1) := by decide +kernel
theorem dL_law_645 : decode code 645 = .ok (.iload 4, 2) := by decide +kernel
theorem dL_law_647 : decode code 647 = .ok (.iconst 1, 1) := by decide +kernel
theorem dL_law_648 : decode code 648 = .ok (.iadd, 1) := by decide +kernel
theorem dL_law_649 : decode code 649 = .ok (.iaload, 1) := by decide +kernel
theorem dL_law_650 : decode code 650 = .ok (.aload_n 0, 1) := by decide +kernel
theorem dL_law_651 : decode code 651 = .ok (.iload 4, 2) := by decide +kernel
theorem dL_law_653 : decode code 653 = .ok (.iconst 2, 1) := by decide +kernel
theorem dL_law_654 : decode code 654 = .ok (.iadd, 1) := by decide +kernel
theorem dL_law_655 : decode code 655 = .ok (.iaload, 1) := by decide +kernel
theorem dL_law_656 : decode code 656 = .ok (.aload_n 0, 1) := by decide +kernel
theorem dL_law_657 : decode code 657 = .ok (.iload 4, 2) := by decide +kernel
theorem dL_law_659 : decode code 659 = .ok (.iconst 3, 1) := by decide +kernel
theorem dL_law_660 : decode code 660 = .ok (.iadd, 1) := by decide +kernel
theorem dL_law_661 : decode code 661 = .ok (.iaload, 1) := by decide +kernel
theorem dL_law_662 : decode code 662 = .ok (.aload_n 0, 1) := by decide +kernel
theorem dL_law_663 : decode code 663 = .ok (.iload 4, 2) := by decide +kernel
theorem dL_law_665 : decode code 665 = .ok (.iconst 4, 1) := by decide +kernel
theorem dL_law_666 : decode code 666 = .ok (.iadd, 1) := by decide +kernel
theorem dL_law_667 : decode code 667 = .ok (.iaload, 1) := by decide +kernel
theorem dL_law_668 : decode code 668 = .ok (.invokevirtual 113, 3) := by decide +kernel
theorem dL_law_671 : decode code 671 = .ok (.istore 6, 2) := by decide +kernel
theorem dL_law_673 : decode code 673 = .ok (.aload_n 2, 1) := by decide +kernel
theorem dL_law_674 : decode code 674 = .ok (.invokevirtual 89, 3) := by decide +kernel
theorem dL_law_677 : decode code 677 = .ok (.iload 5, 2) := by decide +kernel
theorem dL_law_679 : decode code 679 = .ok (.if_icmp .eq 5, 3) := by decide +kernel
theorem dL_law_682 : decode code 682 = .ok (.iconst 0, 1) := by decide +kernel
theorem dL_law_683 : decode code 683 = .ok (.ireturn, 1) := by decide +kernel
theorem dL_law_684 : decode code 684 = .ok (.iload 5, 2) := by decide +kernel
theorem dL_law_686 : decode code 686 = .ok (.ifCond .ne 22, 3) := by decide +kernel
theorem dL_law_689 : decode code 689 = .ok (.aload_n 3, 1) := by decide +kernel
theorem dL_law_690 : decode code 690 = .ok (.iconst 0, 1) := by decide +kernel
theorem dL_law_691 : decode code 691 = .ok (.laload, 1) := by decide +kernel
theorem dL_law_692 : decode code 692 = .ok (.iload 6, 2) := by decide +kernel
theorem dL_law_694 : decode code 694 = .ok (.ifCond .eq 7, 3) := by decide +kernel
theorem dL_law_697 : decode code 697 = .ok (.lconst 1, 1) := by decide +kernel
theorem dL_law_698 : decode code 698 = .ok (.goto 4, 3) := by decide +kernel
theorem dL_law_701 : decode code 701 = .ok (.lconst 0, 1) := by decide +kernel
theorem dL_law_702 : decode code 702 = .ok (.lcmp, 1) := by decide +kernel
theorem dL_law_703 : decode code 703 = .ok (.ifCond .eq 5, 3) := by decide +kernel
theorem dL_law_706 : decode code 706 = .ok (.iconst 0, 1) := by decide +kernel
theorem dL_law_707 : decode code 707 = .ok (.ireturn, 1) := by decide +kernel
theorem dL_law_708 : decode code 708 = .ok (.goto 670, 3) := by decide +kernel
theorem dL_law_711 : decode code 711 = .ok (.aload_n 1, 1) := by decide +kernel
theorem dL_law_712 : decode code 712 = .ok (.aload_n 0, 1) := by decide +kernel
theorem dL_law_713 : decode code 713 = .ok (.iload 4, 2) := by decide +kernel
theorem dL_law_715 : decode code 715 = .ok (.iconst 1, 1) := by decide +kernel
theorem dL_law_716 : decode code 716 = .ok (.iadd, 1) := by decide +kernel
theorem dL_law_717 : decode code 717 = .ok (.iaload, 1) := by decide +kernel
theorem dL_law_718 : decode code 718 = .ok (.aload_n 0, 1) := by decide +kernel
theorem dL_law_719 : decode code 719 = .ok (.iload 4, 2) := by decide +kernel
theorem dL_law_721 : decode code 721 = .ok (.iconst 2, 1) := by decide +kernel
theorem dL_law_722 : decode code 722 = .ok (.iadd, 1) := by decide +kernel
theorem dL_law_723 : decode code 723 = .ok (.iaload, 1) := by decide +kernel
theorem dL_law_724 : decode code 724 = .ok (.aload_n 3, 1) := by decide +kernel
theorem dL_law_725 : decode code 725 = .ok (.invokestatic 114, 3) := by decide +kernel
theorem dL_law_728 : decode code 728 = .ok (.istore 5, 2) := by decide +kernel
theorem dL_law_730 : decode code 730 = .ok (.aload_n 2, 1) := by decide +kernel
theorem dL_law_731 : decode code 731 = .ok (.aload_n 0, 1) := by decide +kernel
theorem dL_law_732 : decode code 732 = .ok (.iload 4, 2) := by decide +kernel
theorem dL_law_734 : decode code 734 = .ok (.iconst 1, 1) := by decide +kernel
theorem dL_law_735 : decode code 735 = .ok (.iadd, 1) := by decide +kernel
theorem dL_law_736 : decode code 736 = .ok (.iaload, 1) := by decide +kernel
theorem dL_law_737 : decode code 737 = .ok (.aload_n 0, 1) := by decide +kernel
theorem dL_law_738 : decode code 738 = .ok (.iload 4, 2) := by decide +kernel
theorem dL_law_740 : decode code 740 = .ok (.iconst 2, 1) := by decide +kernel
theorem dL_law_741 : decode code 741 = .ok (.iadd, 1) := by decide +kernel
theorem dL_law_742 : decode code 742 = .ok (.iaload, 1) := by decide +kernel
theorem dL_law_743 : decode code 743 = .ok (.invokevirtual 116, 3) := by decide +kernel
theorem dL_law_746 : decode code 746 = .ok (.istore 6, 2) := by decide +kernel
theorem dL_law_748 : decode code 748 = .ok (.aload_n 2, 1) := by decide +kernel
theorem dL_law_749 : decode code 749 = .ok (.invokevirtual 89, 3) := by decide +kernel
theorem dL_law_752 : decode code 752 = .ok (.iload 5, 2) := by decide +kernel
theorem dL_law_754 : decode code 754 = .ok (.if_icmp .eq 5, 3) := by decide +kernel
theorem dL_law_757 : decode code 757 = .ok (.iconst 0, 1) := by decide +kernel
theorem dL_law_758 : decode code 758 = .ok (.ireturn, 1) := by decide +kernel
theorem dL_law_759 : decode code 759 = .ok (.iload 5, 2) := by decide +kernel
theorem dL_law_761 : decode code 761 = .ok (.ifCond .ne 15, 3) := by decide +kernel
theorem dL_law_764 : decode code 764 = .ok (.aload_n 3, 1) := by decide +kernel
theorem dL_law_765 : decode code 765 = .ok (.iconst 0, 1) := by decide +kernel
theorem dL_law_766 : decode code 766 = .ok (.laload, 1) := by decide +kernel
theorem dL_law_767 : decode code 767 = .ok (.iload 6, 2) := by decide +kernel
theorem dL_law_769 : decode code 769 = .ok (.i2l, 1) := by decide +kernel
theorem dL_law_770 : decode code 770 = .ok (.lcmp, 1) := by decide +kernel
theorem dL_law_771 : decode code 771 = .ok (.ifCond .eq 5, 3) := by decide +kernel
theorem dL_law_774 : decode code 774 = .ok (.iconst 0, 1) := by decide +kernel
theorem dL_law_775 : decode code 775 = .ok (.ireturn, 1) := by decide +kernel
theorem dL_law_776 : decode code 776 = .ok (.goto 602, 3) := by decide +kernel
theorem dL_law_779 : decode code 779 = .ok (.aload_n 1, 1) := by decide +kernel
theorem dL_law_780 : decode code 780 = .ok (.aload_n 0, 1) := by decide +kernel
theorem dL_law_781 : decode code 781 = .ok (.iload 4, 2) := by decide +kernel
theorem dL_law_783 : decode code 783 = .ok (.iconst 1, 1) := by decide +kernel
theorem dL_law_784 : decode code 784 = .ok (.iadd, 1) := by decide +kernel
theorem dL_law_785 : decode code 785 = .ok (.iaload, 1) := by decide +kernel
theorem dL_law_786 : decode code 786 = .ok (.aload_n 0, 1) := by decide +kernel
theorem dL_law_787 : decode code 787 = .ok (.iload 4, 2) := by decide +kernel
theorem dL_law_789 : decode code 789 = .ok (.iconst 2, 1) := by decide +kernel
theorem dL_law_790 : decode code 790 = .ok (.iadd, 1) := by decide +kernel
theorem dL_law_791 : decode code 791 = .ok (.iaload, 1) := by decide +kernel
theorem dL_law_792 : decode code 792 = .ok (.aload_n 3, 1) := by decide +kernel
theorem dL_law_793 : decode code 793 = .ok (.invokestatic 117, 3) := by decide +kernel
theorem dL_law_796 : decode code 796 = .ok (.istore 5, 2) := by decide +kernel
theorem dL_law_798 : decode code 798 = .ok (.aload_n 2, 1) := by decide +kernel
theorem dL_law_799 : decode code 799 = .ok (.aload_n 0, 1) := by decide +kernel
theorem dL_law_800 : decode code 800 = .ok (.iload 4, 2) := by decide +kernel
theorem dL_law_802 : decode code 802 = .ok (.iconst 1, 1) := by decide +kernel
theorem dL_law_803 : decode code 803 = .ok (.iadd, 1) := by decide +kernel
theorem dL_law_804 : decode code 804 = .ok (.iaload, 1) := by decide +kernel
theorem dL_law_805 : decode code 805 = .ok (.aload_n 0, 1) := by decide +kernel
theorem dL_law_806 : decode code 806 = .ok (.iload 4, 2) := by decide +kernel
theorem dL_law_808 : decode code 808 = .ok (.iconst 2, 1) := by decide +kernel
theorem dL_law_809 : decode code 809 = .ok (.iadd, 1) := by decide +kernel
theorem dL_law_810 : decode code 810 = .ok (.iaload, 1) := by decide +kernel
theorem dL_law_811 : decode code 811 = .ok (.invokevirtual 119, 3) := by decide +kernel
theorem dL_law_814 : decode code 814 = .ok (.istore 6, 2) := by decide +kernel
theorem dL_law_816 : decode code 816 = .ok (.aload_n 2, 1) := by decide +kernel
theorem dL_law_817 : decode code 817 = .ok (.invokevirtual 89, 3) := by decide +kernel
theorem dL_law_820 : decode code 820 = .ok (.iload 5, 2) := by decide +kernel
theorem dL_law_822 : decode code 822 = .ok (.if_icmp .eq 5, 3) := by decide +kernel
theorem dL_law_825 : decode code 825 = .ok (.iconst 0, 1) := by decide +kernel
theorem dL_law_826 : decode code 826 = .ok (.ireturn, 1) := by decide +kernel
theorem dL_law_827 : decode code 827 = .ok (.iload 5, 2) := by decide +kernel
theorem dL_law_829 : decode code 829 = .ok (.ifCond .ne 15, 3) := by decide +kernel
theorem dL_law_832 : decode code 832 = .ok (.aload_n 3, 1) := by decide +kernel
theorem dL_law_833 : decode code 833 = .ok (.iconst 0, 1) := by decide +kernel
theorem dL_law_834 : decode code 834 = .ok (.laload, 1) := by decide +kernel
theorem dL_law_835 : decode code 835 = .ok (.iload 6, 2) := by decide +kernel
theorem dL_law_837 : decode code 837 = .ok (.i2l, 1) := by decide +kernel
theorem dL_law_838 : decode code 838 = .ok (.lcmp, 1) := by decide +kernel
theorem dL_law_839 : decode code 839 = .ok (.ifCond .eq 5, 3) := by decide +kernel
theorem dL_law_842 : decode code 842 = .ok (.iconst 0, 1) := by decide +kernel
theorem dL_law_843 : decode code 843 = .ok (.ireturn, 1) := by decide +kernel
theorem dL_law_844 : decode code 844 = .ok (.goto 534, 3) := by decide +kernel
theorem dL_law_847 : decode code 847 = .ok (.aload_n 1, 1) := by decide +kernel
theorem dL_law_848 : decode code 848 = .ok (.invokevirtual 120, 3) := by decide +kernel
theorem dL_law_851 : decode code 851 = .ok (.aload_n 2, 1) := by decide +kernel
theorem dL_law_852 : decode code 852 = .ok (.invokevirtual 123, 3) := by decide +kernel
theorem dL_law_855 : decode code 855 = .ok (.goto 523, 3) := by decide +kernel
theorem dL_law_858 : decode code 858 = .ok (.aload_n 1, 1) := by decide +kernel
theorem dL_law_859 : decode code 859 = .ok (.aload_n 0, 1) := by decide +kernel
theorem dL_law_860 : decode code 860 = .ok (.iload 4, 2) := by decide +kernel
theorem dL_law_862 : decode code 862 = .ok (.iconst 1, 1) := by decide +kernel
theorem dL_law_863 : decode code 863 = .ok (.iadd, 1) := by decide +kernel
theorem dL_law_864 : decode code 864 = .ok (.iaload, 1) := by decide +kernel
theorem dL_law_865 : decode code 865 = .ok (.aload_n 0, 1) := by decide +kernel
theorem dL_law_866 : decode code 866 = .ok (.iload 4, 2) := by decide +kernel
theorem dL_law_868 : decode code 868 = .ok (.iconst 2, 1) := by decide +kernel
theorem dL_law_869 : decode code 869 = .ok (.iadd, 1) := by decide +kernel
theorem dL_law_870 : decode code 870 = .ok (.iaload, 1) := by decide +kernel
theorem dL_law_871 : decode code 871 = .ok (.aload_n 0, 1) := by decide +kernel
theorem dL_law_872 : decode code 872 = .ok (.iload 4, 2) := by decide +kernel
theorem dL_law_874 : decode code 874 = .ok (.iconst 3, 1) := by decide +kernel
theorem dL_law_875 : decode code 875 = .ok (.iadd, 1) := by decide +kernel
theorem dL_law_876 : decode code 876 = .ok (.iaload, 1) := by decide +kernel
theorem dL_law_877 : decode code 877 = .ok (.aload_n 3, 1) := by decide +kernel
theorem dL_law_878 : decode code 878 = .ok (.invokestatic 124, 3) := by decide +kernel
theorem dL_law_881 : decode code 881 = .ok (.istore 5, 2) := by decide +kernel
theorem dL_law_883 : decode code 883 = .ok (.aload_n 2, 1) := by decide +kernel
theorem dL_law_884 : decode code 884 = .ok (.aload_n 0, 1) := by decide +kernel
theorem dL_law_885 : decode code 885 = .ok (.iload 4, 2) := by decide +kernel
theorem dL_law_887 : decode code 887 = .ok (.iconst 1, 1) := by decide +kernel
theorem dL_law_888 : decode code 888 = .ok (.iadd, 1) := by decide +kernel
theorem dL_law_889 : decode code 889 = .ok (.iaload, 1) := by decide +kernel
theorem dL_law_890 : decode code 890 = .ok (.aload_n 0, 1) := by decide +kernel
theorem dL_law_891 : decode code 891 = .ok (.iload 4, 2) := by decide +kernel
theorem dL_law_893 : decode code 893 = .ok (.iconst 2, 1) := by decide +kernel
theorem dL_law_894 : decode code 894 = .ok (.iadd, 1) := by decide +kernel
theorem dL_law_895 : decode code 895 = .ok (.iaload, 1) := by decide +kernel
theorem dL_law_896 : decode code 896 = .ok (.aload_n 0, 1) := by decide +kernel
theorem dL_law_897 : decode code 897 = .ok (.iload 4, 2) := by decide +kernel
theorem dL_law_899 : decode code 899 = .ok (.iconst 3, 1) := by decide +kernel
theorem dL_law_900 : decode code 900 = .ok (.iadd, 1) := by decide +kernel
theorem dL_law_901 : decode code 901 = .ok (.iaload, 1) := by decide +kernel
theorem dL_law_902 : decode code 902 = .ok (.invokevirtual 127, 3) := by decide +kernel
theorem dL_law_905 : decode code 905 = .ok (.istore 6, 2) := by decide +kernel
theorem dL_law_907 : decode code 907 = .ok (.aload_n 2, 1) := by decide +kernel
theorem dL_law_908 : decode code 908 = .ok (.invokevirtual 89, 3) := by decide +kernel
theorem dL_law_911 : decode code 911 = .ok (.iload 5, 2) := by decide +kernel
theorem dL_law_913 : decode code 913 = .ok (.if_icmp .eq 5, 3) := by decide +kernel
theorem dL_law_916 : decode code 916 = .ok (.iconst 0, 1) := by decide +kernel
theorem dL_law_917 : decode code 917 = .ok (.ireturn, 1) := by decide +kernel
theorem dL_law_918 : decode code 918 = .ok (.iload 5, 2) := by decide +kernel
theorem dL_law_920 : decode code 920 = .ok (.ifCond .ne 15, 3) := by decide +kernel
theorem dL_law_923 : decode code 923 = .ok (.aload_n 3, 1) := by decide +kernel
theorem dL_law_924 : decode code 924 = .ok (.iconst 0, 1) := by decide +kernel
theorem dL_law_925 : decode code 925 = .ok (.laload, 1) := by decide +kernel
theorem dL_law_926 : decode code 926 = .ok (.iload 6, 2) := by decide +kernel
theorem dL_law_928 : decode code 928 = .ok (.i2l, 1) := by decide +kernel
theorem dL_law_929 : decode code 929 = .ok (.lcmp, 1) := by decide +kernel
theorem dL_law_930 : decode code 930 = .ok (.ifCond .eq 5, 3) := by decide +kernel
theorem dL_law_933 : decode code 933 = .ok (.iconst 0, 1) := by decide +kernel
theorem dL_law_934 : decode code 934 = .ok (.ireturn, 1) := by decide +kernel
theorem dL_law_935 : decode code 935 = .ok (.goto 443, 3) := by decide +kernel
theorem dL_law_938 : decode code 938 = .ok (.aload_n 1, 1) := by decide +kernel
theorem dL_law_939 : decode code 939 = .ok (.aload_n 0, 1) := by decide +kernel
theorem dL_law_940 : decode code 940 = .ok (.iload 4, 2) := by decide +kernel
theorem dL_law_942 : decode code 942 = .ok (.iconst 1, 1) := by decide +kernel
theorem dL_law_943 : decode code 943 = .ok (.iadd, 1) := by decide +kernel
theorem dL_law_944 : decode code 944 = .ok (.iaload, 1) := by decide +kernel
theorem dL_law_945 : decode code 945 = .ok (.aload_n 0, 1) := by decide +kernel
theorem dL_law_946 : decode code 946 = .ok (.iload 4, 2) := by decide +kernel
theorem dL_law_948 : decode code 948 = .ok (.iconst 2, 1) := by decide +kernel
theorem dL_law_949 : decode code 949 = .ok (.iadd, 1) := by decide +kernel
theorem dL_law_950 : decode code 950 = .ok (.iaload, 1) := by decide +kernel
theorem dL_law_951 : decode code 951 = .ok (.aload_n 0, 1) := by decide +kernel
theorem dL_law_952 : decode code 952 = .ok (.iload 4, 2) := by decide +kernel
theorem dL_law_954 : decode code 954 = .ok (.iconst 3, 1) := by decide +kernel
theorem dL_law_955 : decode code 955 = .ok (.iadd, 1) := by decide +kernel
theorem dL_law_956 : decode code 956 = .ok (.iaload, 1) := by decide +kernel
theorem dL_law_957 : decode code 957 = .ok (.aload_n 0, 1) := by decide +kernel
theorem dL_law_958 : decode code 958 = .ok (.iload 4, 2) := by decide +kernel
theorem dL_law_960 : decode code 960 = .ok (.iconst 4, 1) := by decide +kernel
theorem dL_law_961 : decode code 961 = .ok (.iadd, 1) := by decide +kernel
theorem dL_law_962 : decode code 962 = .ok (.iaload, 1) := by decide +kernel
theorem dL_law_963 : decode code 963 = .ok (.aload_n 0, 1) := by decide +kernel
theorem dL_law_964 : decode code 964 = .ok (.iload 4, 2) := by decide +kernel
theorem dL_law_966 : decode code 966 = .ok (.iconst 5, 1) := by decide +kernel
theorem dL_law_967 : decode code 967 = .ok (.iadd, 1) := by decide +kernel
theorem dL_law_968 : decode code 968 = .ok (.iaload, 1) := by decide +kernel
theorem dL_law_969 : decode code 969 = .ok (.aload_n 3, 1) := by decide +kernel
theorem dL_law_970 : decode code 970 = .ok (.invokestatic 128, 3) := by decide +kernel
theorem dL_law_973 : decode code 973 = .ok (.istore 5, 2) := by decide +kernel
theorem dL_law_975 : decode code 975 = .ok (.aload_n 2, 1) := by decide +kernel
theorem dL_law_976 : decode code 976 = .ok (.aload_n 0, 1) := by decide +kernel
theorem dL_law_977 : decode code 977 = .ok (.iload 4, 2) := by decide +kernel
theorem dL_law_979 : decode code 979 = .ok (.iconst 1, 1) := by decide +kernel
theorem dL_law_980 : decode code 980 = .ok (.iadd, 1) := by decide +kernel
theorem dL_law_981 : decode code 981 = .ok (.iaload, 1) := by decide +kernel
theorem dL_law_982 : decode code 982 = .ok (.aload_n 0, 1) := by decide +kernel
theorem dL_law_983 : decode code 983 = .ok (.iload 4, 2) := by decide +kernel
theorem dL_law_985 : decode code 985 = .ok (.iconst 2, 1) := by decide +kernel
theorem dL_law_986 : decode code 986 = .ok (.iadd, 1) := by decide +kernel
theorem dL_law_987 : decode code 987 = .ok (.iaload, 1) := by decide +kernel
theorem dL_law_988 : decode code 988 = .ok (.aload_n 0, 1) := by decide +kernel
theorem dL_law_989 : decode code 989 = .ok (.iload 4, 2) := by decide +kernel
theorem dL_law_991 : decode code 991 = .ok (.iconst 3, 1) := by decide +kernel
theorem dL_law_992 : decode code 992 = .ok (.iadd, 1) := by decide +kernel
theorem dL_law_993 : decode code 993 = .ok (.iaload, 1) := by decide +kernel
theorem dL_law_994 : decode code 994 = .ok (.aload_n 0, 1) := by decide +kernel
theorem dL_law_995 : decode code 995 = .ok (.iload 4, 2) := by decide +kernel
theorem dL_law_997 : decode code 997 = .ok (.iconst 4, 1) := by decide +kernel
theorem dL_law_998 : decode code 998 = .ok (.iadd, 1) := by decide +kernel
theorem dL_law_999 : decode code 999 = .ok (.iaload, 1) := by decide +kernel
theorem dL_law_1000 : decode code 1000 = .ok (.aload_n 0, 1) := by decide +kernel
theorem dL_law_1001 : decode code 1001 = .ok (.iload 4, 2) := by decide +kernel
theorem dL_law_1003 : decode code 1003 = .ok (.iconst 5, 1) := by decide +kernel
theorem dL_law_1004 : decode code 1004 = .ok (.iadd, 1) := by decide +kernel
theorem dL_law_1005 : decode code 1005 = .ok (.iaload, 1) := by decide +kernel
theorem dL_law_1006 : decode code 1006 = .ok (.invokevirtual 130, 3) := by decide +kernel
theorem dL_law_1009 : decode code 1009 = .ok (.istore 6, 2) := by decide +kernel
theorem dL_law_1011 : decode code 1011 = .ok (.aload_n 2, 1) := by decide +kernel
theorem dL_law_1012 : decode code 1012 = .ok (.invokevirtual 89, 3) := by decide +kernel
theorem dL_law_1015 : decode code 1015 = .ok (.iload 5, 2) := by decide +kernel
theorem dL_law_1017 : decode code 1017 = .ok (.if_icmp .eq 5, 3) := by decide +kernel
theorem dL_law_1020 : decode code 1020 = .ok (.iconst 0, 1) := by decide +kernel
theorem dL_law_1021 : decode code 1021 = .ok (.ireturn, 1) := by decide +kernel
theorem dL_law_1022 : decode code 1022 = .ok (.iload 5, 2) := by decide +kernel
theorem dL_law_1024 : decode code 1024 = .ok (.ifCond .ne 15, 3) := by decide +kernel
theorem dL_law_1027 : decode code 1027 = .ok (.aload_n 3, 1) := by decide +kernel
theorem dL_law_1028 : decode code 1028 = .ok (.iconst 0, 1) := by decide +kernel
theorem dL_law_1029 : decode code 1029 = .ok (.laload, 1) := by decide +kernel
theorem dL_law_1030 : decode code 1030 = .ok (.iload 6, 2) := by decide +kernel
theorem dL_law_1032 : decode code 1032 = .ok (.i2l, 1) := by decide +kernel
theorem dL_law_1033 : decode code 1033 = .ok (.lcmp, 1) := by decide +kernel
theorem dL_law_1034 : decode code 1034 = .ok (.ifCond .eq 5, 3) := by decide +kernel
theorem dL_law_1037 : decode code 1037 = .ok (.iconst 0, 1) := by decide +kernel
theorem dL_law_1038 : decode code 1038 = .ok (.ireturn, 1) := by decide +kernel
theorem dL_law_1039 : decode code 1039 = .ok (.goto 339, 3) := by decide +kernel
theorem dL_law_1042 : decode code 1042 = .ok (.aload_n 1, 1) := by decide +kernel
theorem dL_law_1043 : decode code 1043 = .ok (.aload_n 0, 1) := by decide +kernel
theorem dL_law_1044 : decode code 1044 = .ok (.iload 4, 2) := by decide +kernel
theorem dL_law_1046 : decode code 1046 = .ok (.iconst 1, 1) := by decide +kernel
theorem dL_law_1047 : decode code 1047 = .ok (.iadd, 1) := by decide +kernel
theorem dL_law_1048 : decode code 1048 = .ok (.iaload, 1) := by decide +kernel
theorem dL_law_1049 : decode code 1049 = .ok (.aload_n 0, 1) := by decide +kernel
theorem dL_law_1050 : decode code 1050 = .ok (.iload 4, 2) := by decide +kernel
theorem dL_law_1052 : decode code 1052 = .ok (.iconst 2, 1) := by decide +kernel
theorem dL_law_1053 : decode code 1053 = .ok (.iadd, 1) := by decide +kernel
theorem dL_law_1054 : decode code 1054 = .ok (.iaload, 1) := by decide +kernel
theorem dL_law_1055 : decode code 1055 = .ok (.aload_n 0, 1) := by decide +kernel
theorem dL_law_1056 : decode code 1056 = .ok (.iload 4, 2) := by decide +kernel
theorem dL_law_1058 : decode code 1058 = .ok (.iconst 3, 1) := by decide +kernel
theorem dL_law_1059 : decode code 1059 = .ok (.iadd, 1) := by decide +kernel
theorem dL_law_1060 : decode code 1060 = .ok (.iaload, 1) := by decide +kernel
theorem dL_law_1061 : decode code 1061 = .ok (.aload_n 3, 1) := by decide +kernel
theorem dL_law_1062 : decode code 1062 = .ok (.invokestatic 131, 3) := by decide +kernel
theorem dL_law_1065 : decode code 1065 = .ok (.istore 5, 2) := by decide +kernel
theorem dL_law_1067 : decode code 1067 = .ok (.aload_n 2, 1) := by decide +kernel
theorem dL_law_1068 : decode code 1068 = .ok (.aload_n 0, 1) := by decide +kernel
theorem dL_law_1069 : decode code 1069 = .ok (.iload 4, 2) := by decide +kernel
theorem dL_law_1071 : decode code 1071 = .ok (.iconst 1, 1) := by decide +kernel
theorem dL_law_1072 : decode code 1072 = .ok (.iadd, 1) := by decide +kernel
theorem dL_law_1073 : decode code 1073 = .ok (.iaload, 1) := by decide +kernel
theorem dL_law_1074 : decode code 1074 = .ok (.aload_n 0, 1) := by decide +kernel
theorem dL_law_1075 : decode code 1075 = .ok (.iload 4, 2) := by decide +kernel
theorem dL_law_1077 : decode code 1077 = .ok (.iconst 2, 1) := by decide +kernel
theorem dL_law_1078 : decode code 1078 = .ok (.iadd, 1) := by decide +kernel
theorem dL_law_1079 : decode code 1079 = .ok (.iaload, 1) := by decide +kernel
theorem dL_law_1080 : decode code 1080 = .ok (.aload_n 0, 1) := by decide +kernel
theorem dL_law_1081 : decode code 1081 = .ok (.iload 4, 2) := by decide +kernel
theorem dL_law_1083 : decode code 1083 = .ok (.iconst 3, 1) := by decide +kernel
theorem dL_law_1084 : decode code 1084 = .ok (.iadd, 1) := by decide +kernel
theorem dL_law_1085 : decode code 1085 = .ok (.iaload, 1) := by decide +kernel
theorem dL_law_1086 : decode code 1086 = .ok (.invokevirtual 133, 3) := by decide +kernel
theorem dL_law_1089 : decode code 1089 = .ok (.istore 6, 2) := by decide +kernel
theorem dL_law_1091 : decode code 1091 = .ok (.aload_n 2, 1) := by decide +kernel
theorem dL_law_1092 : decode code 1092 = .ok (.invokevirtual 89, 3) := by decide +kernel
theorem dL_law_1095 : decode code 1095 = .ok (.iload 5, 2) := by decide +kernel
theorem dL_law_1097 : decode code 1097 = .ok (.if_icmp .eq 5, 3) := by decide +kernel
theorem dL_law_1100 : decode code 1100 = .ok (.iconst 0, 1) := by decide +kernel
theorem dL_law_1101 : decode code 1101 = .ok (.ireturn, 1) := by decide +kernel
theorem dL_law_1102 : decode code 1102 = .ok (.iload 5, 2) := by decide +kernel
theorem dL_law_1104 : decode code 1104 = .ok (.ifCond .ne 22, 3) := by decide +kernel
theorem dL_law_1107 : decode code 1107 = .ok (.aload_n 3, 1) := by decide +kernel
theorem dL_law_1108 : decode code 1108 = .ok (.iconst 0, 1) := by decide +kernel
theorem dL_law_1109 : decode code 1109 = .ok (.laload, 1) := by decide +kernel
theorem dL_law_1110 : decode code 1110 = .ok (.iload 6, 2) := by decide +kernel
theorem dL_law_1112 : decode code 1112 = .ok (.ifCond .eq 7, 3) := by decide +kernel
theorem dL_law_1115 : decode code 1115 = .ok (.lconst 1, 1) := by decide +kernel
theorem dL_law_1116 : decode code 1116 = .ok (.goto 4, 3) := by decide +kernel
theorem dL_law_1119 : decode code 1119 = .ok (.lconst 0, 1) := by decide +kernel
theorem dL_law_1120 : decode code 1120 = .ok (.lcmp, 1) := by decide +kernel
theorem dL_law_1121 : decode code 1121 = .ok (.ifCond .eq 5, 3) := by decide +kernel
theorem dL_law_1124 : decode code 1124 = .ok (.iconst 0, 1) := by decide +kernel
theorem dL_law_1125 : decode code 1125 = .ok (.ireturn, 1) := by decide +kernel
theorem dL_law_1126 : decode code 1126 = .ok (.goto 252, 3) := by decide +kernel
theorem dL_law_1129 : decode code 1129 = .ok (.aload_n 1, 1) := by decide +kernel
theorem dL_law_1130 : decode code 1130 = .ok (.aload_n 0, 1) := by decide +kernel
theorem dL_law_1131 : decode code 1131 = .ok (.iload 4, 2) := by decide +kernel
theorem dL_law_1133 : decode code 1133 = .ok (.iconst 1, 1) := by decide +kernel
theorem dL_law_1134 : decode code 1134 = .ok (.iadd, 1) := by decide +kernel
theorem dL_law_1135 : decode code 1135 = .ok (.iaload, 1) := by decide +kernel
theorem dL_law_1136 : decode code 1136 = .ok (.aload_n 0, 1) := by decide +kernel
theorem dL_law_1137 : decode code 1137 = .ok (.iload 4, 2) := by decide +kernel
theorem dL_law_1139 : decode code 1139 = .ok (.iconst 2, 1) := by decide +kernel
theorem dL_law_1140 : decode code 1140 = .ok (.iadd, 1) := by decide +kernel
theorem dL_law_1141 : decode code 1141 = .ok (.iaload, 1) := by decide +kernel
theorem dL_law_1142 : decode code 1142 = .ok (.aload_n 0, 1) := by decide +kernel
theorem dL_law_1143 : decode code 1143 = .ok (.iload 4, 2) := by decide +kernel
theorem dL_law_1145 : decode code 1145 = .ok (.iconst 3, 1) := by decide +kernel
theorem dL_law_1146 : decode code 1146 = .ok (.iadd, 1) := by decide +kernel
theorem dL_law_1147 : decode code 1147 = .ok (.iaload, 1) := by decide +kernel
theorem dL_law_1148 : decode code 1148 = .ok (.aload_n 0, 1) := by decide +kernel
theorem dL_law_1149 : decode code 1149 = .ok (.iload 4, 2) := by decide +kernel
theorem dL_law_1151 : decode code 1151 = .ok (.iconst 4, 1) := by decide +kernel
theorem dL_law_1152 : decode code 1152 = .ok (.iadd, 1) := by decide +kernel
theorem dL_law_1153 : decode code 1153 = .ok (.iaload, 1) := by decide +kernel
theorem dL_law_1154 : decode code 1154 = .ok (.aload_n 0, 1) := by decide +kernel
theorem dL_law_1155 : decode code 1155 = .ok (.iload 4, 2) := by decide +kernel
theorem dL_law_1157 : decode code 1157 = .ok (.iconst 5, 1) := by decide +kernel
theorem dL_law_1158 : decode code 1158 = .ok (.iadd, 1) := by decide +kernel
theorem dL_law_1159 : decode code 1159 = .ok (.iaload, 1) := by decide +kernel
theorem dL_law_1160 : decode code 1160 = .ok (.aload_n 0, 1) := by decide +kernel
theorem dL_law_1161 : decode code 1161 = .ok (.iload 4, 2) := by decide +kernel
theorem dL_law_1163 : decode code 1163 = .ok (.bipush 6, 2) := by decide +kernel
theorem dL_law_1165 : decode code 1165 = .ok (.iadd, 1) := by decide +kernel
theorem dL_law_1166 : decode code 1166 = .ok (.iaload, 1) := by decide +kernel
theorem dL_law_1167 : decode code 1167 = .ok (.aload_n 3, 1) := by decide +kernel
theorem dL_law_1168 : decode code 1168 = .ok (.invokestatic 134, 3) := by decide +kernel
theorem dL_law_1171 : decode code 1171 = .ok (.istore 5, 2) := by decide +kernel
theorem dL_law_1173 : decode code 1173 = .ok (.aload_n 2, 1) := by decide +kernel
theorem dL_law_1174 : decode code 1174 = .ok (.aload_n 0, 1) := by decide +kernel
theorem dL_law_1175 : decode code 1175 = .ok (.iload 4, 2) := by decide +kernel
theorem dL_law_1177 : decode code 1177 = .ok (.iconst 1, 1) := by decide +kernel
theorem dL_law_1178 : decode code 1178 = .ok (.iadd, 1) := by decide +kernel
theorem dL_law_1179 : decode code 1179 = .ok (.iaload, 1) := by decide +kernel
theorem dL_law_1180 : decode code 1180 = .ok (.aload_n 0, 1) := by decide +kernel
theorem dL_law_1181 : decode code 1181 = .ok (.iload 4, 2) := by decide +kernel
theorem dL_law_1183 : decode code 1183 = .ok (.iconst 2, 1) := by decide +kernel
theorem dL_law_1184 : decode code 1184 = .ok (.iadd, 1) := by decide +kernel
theorem dL_law_1185 : decode code 1185 = .ok (.iaload, 1) := by decide +kernel
theorem dL_law_1186 : decode code 1186 = .ok (.aload_n 0, 1) := by decide +kernel
theorem dL_law_1187 : decode code 1187 = .ok (.iload 4, 2) := by decide +kernel
theorem dL_law_1189 : decode code 1189 = .ok (.iconst 3, 1) := by decide +kernel
theorem dL_law_1190 : decode code 1190 = .ok (.iadd, 1) := by decide +kernel
theorem dL_law_1191 : decode code 1191 = .ok (.iaload, 1) := by decide +kernel
theorem dL_law_1192 : decode code 1192 = .ok (.aload_n 0, 1) := by decide +kernel
theorem dL_law_1193 : decode code 1193 = .ok (.iload 4, 2) := by decide +kernel
theorem dL_law_1195 : decode code 1195 = .ok (.iconst 4, 1) := by decide +kernel
theorem dL_law_1196 : decode code 1196 = .ok (.iadd, 1) := by decide +kernel
theorem dL_law_1197 : decode code 1197 = .ok (.iaload, 1) := by decide +kernel
theorem dL_law_1198 : decode code 1198 = .ok (.aload_n 0, 1) := by decide +kernel
theorem dL_law_1199 : decode code 1199 = .ok (.iload 4, 2) := by decide +kernel
theorem dL_law_1201 : decode code 1201 = .ok (.iconst 5, 1) := by decide +kernel
theorem dL_law_1202 : decode code 1202 = .ok (.iadd, 1) := by decide +kernel
theorem dL_law_1203 : decode code 1203 = .ok (.iaload, 1) := by decide +kernel
theorem dL_law_1204 : decode code 1204 = .ok (.aload_n 0, 1) := by decide +kernel
theorem dL_law_1205 : decode code 1205 = .ok (.iload 4, 2) := by decide +kernel
theorem dL_law_1207 : decode code 1207 = .ok (.bipush 6, 2) := by decide +kernel
theorem dL_law_1209 : decode code 1209 = .ok (.iadd, 1) := by decide +kernel
theorem dL_law_1210 : decode code 1210 = .ok (.iaload, 1) := by decide +kernel
theorem dL_law_1211 : decode code 1211 = .ok (.invokevirtual 137, 3) := by decide +kernel
theorem dL_law_1214 : decode code 1214 = .ok (.istore 6, 2) := by decide +kernel
theorem dL_law_1216 : decode code 1216 = .ok (.aload_n 2, 1) := by decide +kernel
theorem dL_law_1217 : decode code 1217 = .ok (.invokevirtual 89, 3) := by decide +kernel
theorem dL_law_1220 : decode code 1220 = .ok (.iload 5, 2) := by decide +kernel
theorem dL_law_1222 : decode code 1222 = .ok (.if_icmp .eq 5, 3) := by decide +kernel
theorem dL_law_1225 : decode code 1225 = .ok (.iconst 0, 1) := by decide +kernel
theorem dL_law_1226 : decode code 1226 = .ok (.ireturn, 1) := by decide +kernel
theorem dL_law_1227 : decode code 1227 = .ok (.iload 5, 2) := by decide +kernel
theorem dL_law_1229 : decode code 1229 = .ok (.ifCond .ne 15, 3) := by decide +kernel
theorem dL_law_1232 : decode code 1232 = .ok (.aload_n 3, 1) := by decide +kernel
theorem dL_law_1233 : decode code 1233 = .ok (.iconst 0, 1) := by decide +kernel
theorem dL_law_1234 : decode code 1234 = .ok (.laload, 1) := by decide +kernel
theorem dL_law_1235 : decode code 1235 = .ok (.iload 6, 2) := by decide +kernel
theorem dL_law_1237 : decode code 1237 = .ok (.i2l, 1) := by decide +kernel
theorem dL_law_1238 : decode code 1238 = .ok (.lcmp, 1) := by decide +kernel
theorem dL_law_1239 : decode code 1239 = .ok (.ifCond .eq 5, 3) := by decide +kernel
theorem dL_law_1242 : decode code 1242 = .ok (.iconst 0, 1) := by decide +kernel
theorem dL_law_1243 : decode code 1243 = .ok (.ireturn, 1) := by decide +kernel
theorem dL_law_1244 : decode code 1244 = .ok (.goto 134, 3) := by decide +kernel
theorem dL_law_1247 : decode code 1247 = .ok (.aload_n 1, 1) := by decide +kernel
theorem dL_law_1248 : decode code 1248 = .ok (.aload_n 0, 1) := by decide +kernel
theorem dL_law_1249 : decode code 1249 = .ok (.iload 4, 2) := by decide +kernel
theorem dL_law_1251 : decode code 1251 = .ok (.iconst 1, 1) := by decide +kernel
theorem dL_law_1252 : decode code 1252 = .ok (.iadd, 1) := by decide +kernel
theorem dL_law_1253 : decode code 1253 = .ok (.iaload, 1) := by decide +kernel
theorem dL_law_1254 : decode code 1254 = .ok (.aload_n 0, 1) := by decide +kernel
theorem dL_law_1255 : decode code 1255 = .ok (.iload 4, 2) := by decide +kernel
theorem dL_law_1257 : decode code 1257 = .ok (.iconst 2, 1) := by decide +kernel
theorem dL_law_1258 : decode code 1258 = .ok (.iadd, 1) := by decide +kernel
theorem dL_law_1259 : decode code 1259 = .ok (.iaload, 1) := by decide +kernel
theorem dL_law_1260 : decode code 1260 = .ok (.aload_n 3, 1) := by decide +kernel
theorem dL_law_1261 : decode code 1261 = .ok (.invokestatic 138, 3) := by decide +kernel
theorem dL_law_1264 : decode code 1264 = .ok (.istore 5, 2) := by decide +kernel
theorem dL_law_1266 : decode code 1266 = .ok (.aload_n 2, 1) := by decide +kernel
theorem dL_law_1267 : decode code 1267 = .ok (.aload_n 0, 1) := by decide +kernel
theorem dL_law_1268 : decode code 1268 = .ok (.iload 4, 2) := by decide +kernel
theorem dL_law_1270 : decode code 1270 = .ok (.iconst 1, 1) := by decide +kernel
theorem dL_law_1271 : decode code 1271 = .ok (.iadd, 1) := by decide +kernel
theorem dL_law_1272 : decode code 1272 = .ok (.iaload, 1) := by decide +kernel
theorem dL_law_1273 : decode code 1273 = .ok (.aload_n 0, 1) := by decide +kernel
theorem dL_law_1274 : decode code 1274 = .ok (.iload 4, 2) := by decide +kernel
theorem dL_law_1276 : decode code 1276 = .ok (.iconst 2, 1) := by decide +kernel
theorem dL_law_1277 : decode code 1277 = .ok (.iadd, 1) := by decide +kernel
theorem dL_law_1278 : decode code 1278 = .ok (.iaload, 1) := by decide +kernel
theorem dL_law_1279 : decode code 1279 = .ok (.invokevirtual 140, 3) := by decide +kernel
theorem dL_law_1282 : decode code 1282 = .ok (.istore 6, 2) := by decide +kernel
theorem dL_law_1284 : decode code 1284 = .ok (.aload_n 2, 1) := by decide +kernel
theorem dL_law_1285 : decode code 1285 = .ok (.invokevirtual 89, 3) := by decide +kernel
theorem dL_law_1288 : decode code 1288 = .ok (.iload 5, 2) := by decide +kernel
theorem dL_law_1290 : decode code 1290 = .ok (.if_icmp .eq 5, 3) := by decide +kernel
theorem dL_law_1293 : decode code 1293 = .ok (.iconst 0, 1) := by decide +kernel
theorem dL_law_1294 : decode code 1294 = .ok (.ireturn, 1) := by decide +kernel
theorem dL_law_1295 : decode code 1295 = .ok (.iload 5, 2) := by decide +kernel
theorem dL_law_1297 : decode code 1297 = .ok (.ifCond .ne 22, 3) := by decide +kernel
theorem dL_law_1300 : decode code 1300 = .ok (.aload_n 3, 1) := by decide +kernel
theorem dL_law_1301 : decode code 1301 = .ok (.iconst 0, 1) := by decide +kernel
theorem dL_law_1302 : decode code 1302 = .ok (.laload, 1) := by decide +kernel
theorem dL_law_1303 : decode code 1303 = .ok (.iload 6, 2) := by decide +kernel
theorem dL_law_1305 : decode code 1305 = .ok (.ifCond .eq 7, 3) := by decide +kernel
theorem dL_law_1308 : decode code 1308 = .ok (.lconst 1, 1) := by decide +kernel
theorem dL_law_1309 : decode code 1309 = .ok (.goto 4, 3) := by decide +kernel
theorem dL_law_1312 : decode code 1312 = .ok (.lconst 0, 1) := by decide +kernel
theorem dL_law_1313 : decode code 1313 = .ok (.lcmp, 1) := by decide +kernel
theorem dL_law_1314 : decode code 1314 = .ok (.ifCond .eq 5, 3) := by decide +kernel
theorem dL_law_1317 : decode code 1317 = .ok (.iconst 0, 1) := by decide +kernel
theorem dL_law_1318 : decode code 1318 = .ok (.ireturn, 1) := by decide +kernel
theorem dL_law_1319 : decode code 1319 = .ok (.goto 59, 3) := by decide +kernel
theorem dL_law_1322 : decode code 1322 = .ok (.aload_n 1, 1) := by decide +kernel
theorem dL_law_1323 : decode code 1323 = .ok (.aload_n 0, 1) := by decide +kernel
theorem dL_law_1324 : decode code 1324 = .ok (.iload 4, 2) := by decide +kernel
theorem dL_law_1326 : decode code 1326 = .ok (.iconst 1, 1) := by decide +kernel
theorem dL_law_1327 : decode code 1327 = .ok (.iadd, 1) := by decide +kernel
theorem dL_law_1328 : decode code 1328 = .ok (.iaload, 1) := by decide +kernel
theorem dL_law_1329 : decode code 1329 = .ok (.aload_n 3, 1) := by decide +kernel
theorem dL_law_1330 : decode code 1330 = .ok (.invokestatic 141, 3) := by decide +kernel
theorem dL_law_1333 : decode code 1333 = .ok (.istore 5, 2) := by decide +kernel
theorem dL_law_1335 : decode code 1335 = .ok (.aload_n 2, 1) := by decide +kernel
theorem dL_law_1336 : decode code 1336 = .ok (.aload_n 0, 1) := by decide +kernel
theorem dL_law_1337 : decode code 1337 = .ok (.iload 4, 2) := by decide +kernel
theorem dL_law_1339 : decode code 1339 = .ok (.iconst 1, 1) := by decide +kernel
theorem dL_law_1340 : decode code 1340 = .ok (.iadd, 1) := by decide +kernel
theorem dL_law_1341 : decode code 1341 = .ok (.iaload, 1) := by decide +kernel
theorem dL_law_1342 : decode code 1342 = .ok (.invokevirtual 144, 3) := by decide +kernel
theorem dL_law_1345 : decode code 1345 = .ok (.istore 6, 2) := by decide +kernel
theorem dL_law_1347 : decode code 1347 = .ok (.aload_n 2, 1) := by decide +kernel
theorem dL_law_1348 : decode code 1348 = .ok (.invokevirtual 89, 3) := by decide +kernel
theorem dL_law_1351 : decode code 1351 = .ok (.iload 5, 2) := by decide +kernel
theorem dL_law_1353 : decode code 1353 = .ok (.if_icmp .eq 5, 3) := by decide +kernel
theorem dL_law_1356 : decode code 1356 = .ok (.iconst 0, 1) := by decide +kernel
theorem dL_law_1357 : decode code 1357 = .ok (.ireturn, 1) := by decide +kernel
theorem dL_law_1358 : decode code 1358 = .ok (.iload 5, 2) := by decide +kernel
theorem dL_law_1360 : decode code 1360 = .ok (.ifCond .ne 15, 3) := by decide +kernel
theorem dL_law_1363 : decode code 1363 = .ok (.aload_n 3, 1) := by decide +kernel
theorem dL_law_1364 : decode code 1364 = .ok (.iconst 0, 1) := by decide +kernel
theorem dL_law_1365 : decode code 1365 = .ok (.laload, 1) := by decide +kernel
theorem dL_law_1366 : decode code 1366 = .ok (.iload 6, 2) := by decide +kernel
theorem dL_law_1368 : decode code 1368 = .ok (.i2l, 1) := by decide +kernel
theorem dL_law_1369 : decode code 1369 = .ok (.lcmp, 1) := by decide +kernel
theorem dL_law_1370 : decode code 1370 = .ok (.ifCond .eq 5, 3) := by decide +kernel
theorem dL_law_1373 : decode code 1373 = .ok (.iconst 0, 1) := by decide +kernel
theorem dL_law_1374 : decode code 1374 = .ok (.ireturn, 1) := by decide +kernel
theorem dL_law_1375 : decode code 1375 = .ok (.goto 3, 3) := by decide +kernel
theorem dL_law_1378 : decode code 1378 = .ok (.iinc 4 7, 3) := by decide +kernel
theorem dL_law_1381 : decode code 1381 = .ok (.goto (-1358), 3) := by decide +kernel
theorem dL_law_1384 : decode code 1384 = .ok (.iconst 1, 1) := by decide +kernel
theorem dL_law_1385 : decode code 1385 = .ok (.ireturn, 1) := by decide +kernel
