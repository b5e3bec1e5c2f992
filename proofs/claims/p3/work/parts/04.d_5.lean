theorem dL_rule_0 : decode bL_rule 0 = .ok (.aload_n 3, 1) := by decide +kernel
theorem dL_rule_1 : decode bL_rule 1 = .ok (.iconst 0, 1) := by decide +kernel
theorem dL_rule_2 : decode bL_rule 2 = .ok (.aload_n 0, 1) := by decide +kernel
theorem dL_rule_3 : decode bL_rule 3 = .ok (.iload_n 1, 1) := by decide +kernel
theorem dL_rule_4 : decode bL_rule 4 = .ok (.iload_n 2, 1) := by decide +kernel
theorem dL_rule_5 : decode bL_rule 5 = .ok (.invokevirtual 7, 3) := by decide +kernel
theorem dL_rule_8 : decode bL_rule 8 = .ok (.i2l, 1) := by decide +kernel
theorem dL_rule_9 : decode bL_rule 9 = .ok (.lastore, 1) := by decide +kernel
theorem dL_rule_10 : decode bL_rule 10 = .ok (.goto 7, 3) := by decide +kernel
theorem dL_rule_13 : decode bL_rule 13 = .ok (.astore 4, 2) := by decide +kernel
theorem dL_rule_15 : decode bL_rule 15 = .ok (.iconst 1, 1) := by decide +kernel
theorem dL_rule_16 : decode bL_rule 16 = .ok (.ireturn, 1) := by decide +kernel
theorem dL_rule_17 : decode bL_rule 17 = .ok (.iconst 0, 1) := by decide +kernel
theorem dL_rule_18 : decode bL_rule 18 = .ok (.ireturn, 1) := by decide +kernel
theorem dL_set_0 : decode bL_set 0 = .ok (.aload_n 0, 1) := by decide +kernel
theorem dL_set_1 : decode bL_set 1 = .ok (.iload_n 1, 1) := by decide +kernel
theorem dL_set_2 : decode bL_set 2 = .ok (.iload_n 2, 1) := by decide +kernel
theorem dL_set_3 : decode bL_set 3 = .ok (.invokevirtual 15, 3) := by decide +kernel
theorem dL_set_6 : decode bL_set 6 = .ok (.goto 9, 3) := by decide +kernel
theorem dL_set_9 : decode bL_set 9 = .ok (.astore_n 3, 1) := by decide +kernel
theorem dL_set_10 : decode bL_set 10 = .ok (.iconst 1, 1) := by decide +kernel
theorem dL_set_11 : decode bL_set 11 = .ok (.ireturn, 1) := by decide +kernel
theorem dL_set_12 : decode bL_set 12 = .ok (.astore_n 3, 1) := by decide +kernel
theorem dL_set_13 : decode bL_set 13 = .ok (.iconst 2, 1) := by decide +kernel
theorem dL_set_14 : decode bL_set 14 = .ok (.ireturn, 1) := by decide +kernel
theorem dL_set_15 : decode bL_set 15 = .ok (.iconst 0, 1) := by decide +kernel
theorem dL_set_16 : decode bL_set 16 = .ok (.ireturn, 1) := by decide +kernel
theorem dL_holds_0 : decode bL_holds 0 = .ok (.aload 6, 2) := by decide +kernel
theorem dL_holds_2 : decode bL_holds 2 = .ok (.iconst 0, 1) := by decide +kernel
theorem dL_holds_3 : decode bL_holds 3 = .ok (.aload_n 0, 1) := by decide +kernel
theorem dL_holds_4 : decode bL_holds 4 = .ok (.iload_n 1, 1) := by decide +kernel
theorem dL_holds_5 : decode bL_holds 5 = .ok (.iload_n 2, 1) := by decide +kernel
theorem dL_holds_6 : decode bL_holds 6 = .ok (.iload_n 3, 1) := by decide +kernel
theorem dL_holds_7 : decode bL_holds 7 = .ok (.iload 4, 2) := by decide +kernel
theorem dL_holds_9 : decode bL_holds 9 = .ok (.iload 5, 2) := by decide +kernel
theorem dL_holds_11 : decode bL_holds 11 = .ok (.invokevirtual 21, 3) := by decide +kernel
theorem dL_holds_14 : decode bL_holds 14 = .ok (.lastore, 1) := by decide +kernel
theorem dL_holds_15 : decode bL_holds 15 = .ok (.goto 11, 3) := by decide +kernel
theorem dL_holds_18 : decode bL_holds 18 = .ok (.astore 7, 2) := by decide +kernel
theorem dL_holds_20 : decode bL_holds 20 = .ok (.iconst 1, 1) := by decide +kernel
theorem dL_holds_21 : decode bL_holds 21 = .ok (.ireturn, 1) := by decide +kernel
theorem dL_holds_22 : decode bL_holds 22 = .ok (.astore 7, 2) := by decide +kernel
theorem dL_holds_24 : decode bL_holds 24 = .ok (.iconst 2, 1) := by decide +kernel
theorem dL_holds_25 : decode bL_holds 25 = .ok (.ireturn, 1) := by decide +kernel
theorem dL_holds_26 : decode bL_holds 26 = .ok (.iconst 0, 1) := by decide +kernel
theorem dL_holds_27 : decode bL_holds 27 = .ok (.ireturn, 1) := by decide +kernel
theorem dL_together_0 : decode bL_together 0 = .ok (.aload 4, 2) := by decide +kernel
theorem dL_together_2 : decode bL_together 2 = .ok (.iconst 0, 1) := by decide +kernel
theorem dL_together_3 : decode bL_together 3 = .ok (.aload_n 0, 1) := by decide +kernel
theorem dL_together_4 : decode bL_together 4 = .ok (.iload_n 1, 1) := by decide +kernel
theorem dL_together_5 : decode bL_together 5 = .ok (.lload_n 2, 1) := by decide +kernel
theorem dL_together_6 : decode bL_together 6 = .ok (.invokevirtual 25, 3) := by decide +kernel
theorem dL_together_9 : decode bL_together 9 = .ok (.lastore, 1) := by decide +kernel
theorem dL_together_10 : decode bL_together 10 = .ok (.goto 7, 3) := by decide +kernel
theorem dL_together_13 : decode bL_together 13 = .ok (.astore 5, 2) := by decide +kernel
theorem dL_together_15 : decode bL_together 15 = .ok (.iconst 1, 1) := by decide +kernel
theorem dL_together_16 : decode bL_together 16 = .ok (.ireturn, 1) := by decide +kernel
theorem dL_together_17 : decode bL_together 17 = .ok (.iconst 0, 1) := by decide +kernel
theorem dL_together_18 : decode bL_together 18 = .ok (.ireturn, 1) := by decide +kernel
theorem dL_count_0 : decode bL_count 0 = .ok (.aload 5, 2) := by decide +kernel
theorem dL_count_2 : decode bL_count 2 = .ok (.iconst 0, 1) := by decide +kernel
theorem dL_count_3 : decode bL_count 3 = .ok (.aload_n 0, 1) := by decide +kernel
theorem dL_count_4 : decode bL_count 4 = .ok (.lload_n 1, 1) := by decide +kernel
theorem dL_count_5 : decode bL_count 5 = .ok (.lload_n 3, 1) := by decide +kernel
theorem dL_count_6 : decode bL_count 6 = .ok (.invokevirtual 29, 3) := by decide +kernel
theorem dL_count_9 : decode bL_count 9 = .ok (.i2l, 1) := by decide +kernel
theorem dL_count_10 : decode bL_count 10 = .ok (.lastore, 1) := by decide +kernel
theorem dL_count_11 : decode bL_count 11 = .ok (.goto 7, 3) := by decide +kernel
theorem dL_count_14 : decode bL_count 14 = .ok (.astore 6, 2) := by decide +kernel
theorem dL_count_16 : decode bL_count 16 = .ok (.iconst 1, 1) := by decide +kernel
theorem dL_count_17 : decode bL_count 17 = .ok (.ireturn, 1) := by decide +kernel
theorem dL_count_18 : decode bL_count 18 = .ok (.iconst 0, 1) := by decide +kernel
theorem dL_count_19 : decode bL_count 19 = .ok (.ireturn, 1) := by decide +kernel
theorem dL_pattern_0 : decode bL_pattern 0 = .ok (.aload 5, 2) := by decide +kernel
theorem dL_pattern_2 : decode bL_pattern 2 = .ok (.iconst 0, 1) := by decide +kernel
theorem dL_pattern_3 : decode bL_pattern 3 = .ok (.aload_n 0, 1) := by decide +kernel
theorem dL_pattern_4 : decode bL_pattern 4 = .ok (.iload_n 1, 1) := by decide +kernel
theorem dL_pattern_5 : decode bL_pattern 5 = .ok (.iload_n 2, 1) := by decide +kernel
theorem dL_pattern_6 : decode bL_pattern 6 = .ok (.iload_n 3, 1) := by decide +kernel
theorem dL_pattern_7 : decode bL_pattern 7 = .ok (.iload 4, 2) := by decide +kernel
theorem dL_pattern_9 : decode bL_pattern 9 = .ok (.invokevirtual 33, 3) := by decide +kernel
theorem dL_pattern_12 : decode bL_pattern 12 = .ok (.ifCond .eq 7, 3) := by decide +kernel
theorem dL_pattern_15 : decode bL_pattern 15 = .ok (.lconst 1, 1) := by decide +kernel
theorem dL_pattern_16 : decode bL_pattern 16 = .ok (.goto 4, 3) := by decide +kernel
theorem dL_pattern_19 : decode bL_pattern 19 = .ok (.lconst 0, 1) := by decide +kernel
theorem dL_pattern_20 : decode bL_pattern 20 = .ok (.lastore, 1) := by decide +kernel
theorem dL_pattern_21 : decode bL_pattern 21 = .ok (.goto 11, 3) := by decide +kernel
theorem dL_pattern_24 : decode bL_pattern 24 = .ok (.astore 6, 2) := by decide +kernel
theorem dL_pattern_26 : decode bL_pattern 26 = .ok (.iconst 1, 1) := by decide +kernel
theorem dL_pattern_27 : decode bL_pattern 27 = .ok (.ireturn, 1) := by decide +kernel
theorem dL_pattern_28 : decode bL_pattern 28 = .ok (.astore 6, 2) := by decide +kernel
theorem dL_pattern_30 : decode bL_pattern 30 = .ok (.iconst 2, 1) := by decide +kernel
theorem dL_pattern_31 : decode bL_pattern 31 = .ok (.ireturn, 1) := by decide +kernel
theorem dL_pattern_32 : decode bL_pattern 32 = .ok (.iconst 0, 1) := by decide +kernel
theorem dL_pattern_33 : decode bL_pattern 33 = .ok (.ireturn, 1) := by decide +kernel
theorem dL_at_0 : decode bL_at 0 = .ok (.aload_n 3, 1) := by decide +kernel
theorem dL_at_1 : decode bL_at 1 = .ok (.iconst 0, 1) := by decide +kernel
theorem dL_at_2 : decode bL_at 2 = .ok (.aload_n 0, 1) := by decide +kernel
theorem dL_at_3 : decode bL_at 3 = .ok (.iload_n 1, 1) := by decide +kernel
theorem dL_at_4 : decode bL_at 4 = .ok (.iload_n 2, 1) := by decide +kernel
theorem dL_at_5 : decode bL_at 5 = .ok (.invokevirtual 37, 3) := by decide +kernel
theorem dL_at_8 : decode bL_at 8 = .ok (.i2l, 1) := by decide +kernel
theorem dL_at_9 : decode bL_at 9 = .ok (.lastore, 1) := by decide +kernel
theorem dL_at_10 : decode bL_at 10 = .ok (.goto 11, 3) := by decide +kernel
theorem dL_at_13 : decode bL_at 13 = .ok (.astore 4, 2) := by decide +kernel
theorem dL_at_15 : decode bL_at 15 = .ok (.iconst 1, 1) := by decide +kernel
theorem dL_at_16 : decode bL_at 16 = .ok (.ireturn, 1) := by decide +kernel
theorem dL_at_17 : decode bL_at 17 = .ok (.astore 4, 2) := by decide +kernel
theorem dL_at_19 : decode bL_at 19 = .ok (.iconst 2, 1) := by decide +kernel
theorem dL_at_20 : decode bL_at 20 = .ok (.ireturn, 1) := by decide +kernel
theorem dL_at_21 : decode bL_at 21 = .ok (.iconst 0, 1) := by decide +kernel
theorem dL_at_22 : decode bL_at 22 = .ok (.ireturn, 1) := by decide +kernel
theorem dL_place_0 : decode bL_place 0 = .ok (.aload_n 3, 1) := by decide +kernel
theorem dL_place_1 : decode bL_place 1 = .ok (.iconst 0, 1) := by decide +kernel
theorem dL_place_2 : decode bL_place 2 = .ok (.aload_n 0, 1) := by decide +kernel
theorem dL_place_3 : decode bL_place 3 = .ok (.iload_n 1, 1) := by decide +kernel
theorem dL_place_4 : decode bL_place 4 = .ok (.iload_n 2, 1) := by decide +kernel
theorem dL_place_5 : decode bL_place 5 = .ok (.invokevirtual 42, 3) := by decide +kernel
theorem dL_place_8 : decode bL_place 8 = .ok (.i2l, 1) := by decide +kernel
theorem dL_place_9 : decode bL_place 9 = .ok (.lastore, 1) := by decide +kernel
theorem dL_place_10 : decode bL_place 10 = .ok (.goto 11, 3) := by decide +kernel
theorem dL_place_13 : decode bL_place 13 = .ok (.astore 4, 2) := by decide +kernel
theorem dL_place_15 : decode bL_place 15 = .ok (.iconst 1, 1) := by decide +kernel
theorem dL_place_16 : decode bL_place 16 = .ok (.ireturn, 1) := by decide +kernel
theorem dL_place_17 : decode bL_place 17 = .ok (.astore 4, 2) := by decide +kernel
theorem dL_place_19 : decode bL_place 19 = .ok (.iconst 2, 1) := by decide +kernel
theorem dL_place_20 : decode bL_place 20 = .ok (.ireturn, 1) := by decide +kernel
theorem dL_place_21 : decode bL_place 21 = .ok (.iconst 0, 1) := by decide +kernel
theorem dL_place_22 : decode bL_place 22 = .ok (.ireturn, 1) := by decide +kernel
theorem dL_keeps_0 : decode bL_keeps 0 = .ok (.aload 4, 2) := by decide +kernel
theorem dL_keeps_2 : decode bL_keeps 2 = .ok (.iconst 0, 1) := by decide +kernel
theorem dL_keeps_3 : decode bL_keeps 3 = .ok (.aload_n 0, 1) := by decide +kernel
theorem dL_keeps_4 : decode bL_keeps 4 = .ok (.iload_n 1, 1) := by decide +kernel
theorem dL_keeps_5 : decode bL_keeps 5 = .ok (.iload_n 2, 1) := by decide +kernel
theorem dL_keeps_6 : decode bL_keeps 6 = .ok (.iload_n 3, 1) := by decide +kernel
theorem dL_keeps_7 : decode bL_keeps 7 = .ok (.invokevirtual 45, 3) := by decide +kernel
theorem dL_keeps_10 : decode bL_keeps 10 = .ok (.i2l, 1) := by decide +kernel
theorem dL_keeps_11 : decode bL_keeps 11 = .ok (.lastore, 1) := by decide +kernel
theorem dL_keeps_12 : decode bL_keeps 12 = .ok (.goto 11, 3) := by decide +kernel
theorem dL_keeps_15 : decode bL_keeps 15 = .ok (.astore 5, 2) := by decide +kernel
theorem dL_keeps_17 : decode bL_keeps 17 = .ok (.iconst 1, 1) := by decide +kernel
theorem dL_keeps_18 : decode bL_keeps 18 = .ok (.ireturn, 1) := by decide +kernel
theorem dL_keeps_19 : decode bL_keeps 19 = .ok (.astore 5, 2) := by decide +kernel
theorem dL_keeps_21 : decode bL_keeps 21 = .ok (.iconst 2, 1) := by decide +kernel
theorem dL_keeps_22 : decode bL_keeps 22 = .ok (.ireturn, 1) := by decide +kernel
theorem dL_keeps_23 : decode bL_keeps 23 = .ok (.iconst 0, 1) := by decide +kernel
theorem dL_keeps_24 : decode bL_keeps 24 = .ok (.ireturn, 1) := by decide +kernel
theorem dL_member_0 : decode bL_member 0 = .ok (.aload 6, 2) := by decide +kernel
theorem dL_member_2 : decode bL_member 2 = .ok (.iconst 0, 1) := by decide +kernel
theorem dL_member_3 : decode bL_member 3 = .ok (.aload_n 0, 1) := by decide +kernel
theorem dL_member_4 : decode bL_member 4 = .ok (.iload_n 1, 1) := by decide +kernel
theorem dL_member_5 : decode bL_member 5 = .ok (.iload_n 2, 1) := by decide +kernel
theorem dL_member_6 : decode bL_member 6 = .ok (.iload_n 3, 1) := by decide +kernel
theorem dL_member_7 : decode bL_member 7 = .ok (.iload 4, 2) := by decide +kernel
theorem dL_member_9 : decode bL_member 9 = .ok (.iload 5, 2) := by decide +kernel
theorem dL_member_11 : decode bL_member 11 = .ok (.invokevirtual 49, 3) := by decide +kernel
theorem dL_member_14 : decode bL_member 14 = .ok (.i2l, 1) := by decide +kernel
theorem dL_member_15 : decode bL_member 15 = .ok (.lastore, 1) := by decide +kernel
theorem dL_member_16 : decode bL_member 16 = .ok (.goto 11, 3) := by decide +kernel
theorem dL_member_19 : decode bL_member 19 = .ok (.astore 7, 2) := by decide +kernel
theorem dL_member_21 : decode bL_member 21 = .ok (.iconst 1, 1) := by decide +kernel
theorem dL_member_22 : decode bL_member 22 = .ok (.ireturn, 1) := by decide +kernel
theorem dL_member_23 : decode bL_member 23 = .ok (.astore 7, 2) := by decide +kernel
theorem dL_member_25 : decode bL_member 25 = .ok (.iconst 2, 1) := by decide +kernel
theorem dL_member_26 : decode bL_member 26 = .ok (.ireturn, 1) := by decide +kernel
theorem dL_member_27 : decode bL_member 27 = .ok (.iconst 0, 1) := by decide +kernel
theorem dL_member_28 : decode bL_member 28 = .ok (.ireturn, 1) := by decide +kernel
theorem dL_in_0 : decode bL_in 0 = .ok (.aload 4, 2) := by decide +kernel
theorem dL_in_2 : decode bL_in 2 = .ok (.iconst 0, 1) := by decide +kernel
theorem dL_in_3 : decode bL_in 3 = .ok (.aload_n 0, 1) := by decide +kernel
theorem dL_in_4 : decode bL_in 4 = .ok (.iload_n 1, 1) := by decide +kernel
theorem dL_in_5 : decode bL_in 5 = .ok (.iload_n 2, 1) := by decide +kernel
theorem dL_in_6 : decode bL_in 6 = .ok (.iload_n 3, 1) := by decide +kernel
theorem dL_in_7 : decode bL_in 7 = .ok (.invokevirtual 53, 3) := by decide +kernel
theorem dL_in_10 : decode bL_in 10 = .ok (.ifCond .eq 7, 3) := by decide +kernel
theorem dL_in_13 : decode bL_in 13 = .ok (.lconst 1, 1) := by decide +kernel
theorem dL_in_14 : decode bL_in 14 = .ok (.goto 4, 3) := by decide +kernel
theorem dL_in_17 : decode bL_in 17 = .ok (.lconst 0, 1) := by decide +kernel
theorem dL_in_18 : decode bL_in 18 = .ok (.lastore, 1) := by decide +kernel
theorem dL_in_19 : decode bL_in 19 = .ok (.goto 11, 3) := by decide +kernel
theorem dL_in_22 : decode bL_in 22 = .ok (.astore 5, 2) := by decide +kernel
theorem dL_in_24 : decode bL_in 24 = .ok (.iconst 1, 1) := by decide +kernel
theorem dL_in_25 : decode bL_in 25 = .ok (.ireturn, 1) := by decide +kernel
theorem dL_in_26 : decode bL_in 26 = .ok (.astore 5, 2) := by decide +kernel
theorem dL_in_28 : decode bL_in 28 = .ok (.iconst 2, 1) := by decide +kernel
theorem dL_in_29 : decode bL_in 29 = .ok (.ireturn, 1) := by decide +kernel
theorem dL_in_30 : decode bL_in 30 = .ok (.iconst 0, 1) := by decide +kernel
theorem dL_in_31 : decode bL_in 31 = .ok (.ireturn, 1) := by decide +kernel
theorem dL_teeth_0 : decode bL_teeth 0 = .ok (.aload 7, 2) := by decide +kernel
theorem dL_teeth_2 : decode bL_teeth 2 = .ok (.iconst 0, 1) := by decide +kernel
theorem dL_teeth_3 : decode bL_teeth 3 = .ok (.aload_n 0, 1) := by decide +kernel
theorem dL_teeth_4 : decode bL_teeth 4 = .ok (.iload_n 1, 1) := by decide +kernel
theorem dL_teeth_5 : decode bL_teeth 5 = .ok (.iload_n 2, 1) := by decide +kernel
theorem dL_teeth_6 : decode bL_teeth 6 = .ok (.iload_n 3, 1) := by decide +kernel
theorem dL_teeth_7 : decode bL_teeth 7 = .ok (.iload 4, 2) := by decide +kernel
theorem dL_teeth_9 : decode bL_teeth 9 = .ok (.iload 5, 2) := by decide +kernel
theorem dL_teeth_11 : decode bL_teeth 11 = .ok (.iload 6, 2) := by decide +kernel
theorem dL_teeth_13 : decode bL_teeth 13 = .ok (.invokevirtual 57, 3) := by decide +kernel
theorem dL_teeth_16 : decode bL_teeth 16 = .ok (.i2l, 1) := by decide +kernel
theorem dL_teeth_17 : decode bL_teeth 17 = .ok (.lastore, 1) := by decide +kernel
theorem dL_teeth_18 : decode bL_teeth 18 = .ok (.goto 11, 3) := by decide +kernel
theorem dL_teeth_21 : decode bL_teeth 21 = .ok (.astore 8, 2) := by decide +kernel
theorem dL_teeth_23 : decode bL_teeth 23 = .ok (.iconst 1, 1) := by decide +kernel
theorem dL_teeth_24 : decode bL_teeth 24 = .ok (.ireturn, 1) := by decide +kernel
theorem dL_teeth_25 : decode bL_teeth 25 = .ok (.astore 8, 2) := by decide +kernel
theorem dL_teeth_27 : decode bL_teeth 27 = .ok (.iconst 2, 1) := by decide +kernel
theorem dL_teeth_28 : decode bL_teeth 28 = .ok (.ireturn, 1) := by decide +kernel
theorem dL_teeth_29 : decode bL_teeth 29 = .ok (.iconst 0, 1) := by decide +kernel
theorem dL_teeth_30 : decode bL_teeth 30 = .ok (.ireturn, 1) := by decide +kernel
theorem dL_thick_0 : decode bL_thick 0 = .ok (.aload_n 3, 1) := by decide +kernel
theorem dL_thick_1 : decode bL_thick 1 = .ok (.iconst 0, 1) := by decide +kernel
theorem dL_thick_2 : decode bL_thick 2 = .ok (.aload_n 0, 1) := by decide +kernel
theorem dL_thick_3 : decode bL_thick 3 = .ok (.iload_n 1, 1) := by decide +kernel
theorem dL_thick_4 : decode bL_thick 4 = .ok (.iload_n 2, 1) := by decide +kernel
theorem dL_thick_5 : decode bL_thick 5 = .ok (.invokevirtual 61, 3) := by decide +kernel
theorem dL_thick_8 : decode bL_thick 8 = .ok (.ifCond .eq 7, 3) := by decide +kernel
theorem dL_thick_11 : decode bL_thick 11 = .ok (.lconst 1, 1) := by decide +kernel
theorem dL_thick_12 : decode bL_thick 12 = .ok (.goto 4, 3) := by decide +kernel
theorem dL_thick_15 : decode bL_thick 15 = .ok (.lconst 0, 1) := by decide +kernel
theorem dL_thick_16 : decode bL_thick 16 = .ok (.lastore, 1) := by decide +kernel
theorem dL_thick_17 : decode bL_thick 17 = .ok (.goto 11, 3) := by decide +kernel
theorem dL_thick_20 : decode bL_thick 20 = .ok (.astore 4, 2) := by decide +kernel
theorem dL_thick_22 : decode bL_thick 22 = .ok (.iconst 1, 1) := by decide +kernel
theorem dL_thick_23 : decode bL_thick 23 = .ok (.ireturn, 1) := by decide +kernel
theorem dL_thick_24 : decode bL_thick 24 = .ok (.astore 4, 2) := by decide +kernel
theorem dL_thick_26 : decode bL_thick 26 = .ok (.iconst 2, 1) := by decide +kernel
theorem dL_thick_27 : decode bL_thick 27 = .ok (.ireturn, 1) := by decide +kernel
theorem dL_thick_28 : decode bL_thick 28 = .ok (.iconst 0, 1) := by decide +kernel
theorem dL_thick_29 : decode bL_thick 29 = .ok (.ireturn, 1) := by decide +kernel
theorem dL_hole_0 : decode bL_hole 0 = .ok (.aload_n 2, 1) := by decide +kernel
theorem dL_hole_1 : decode bL_hole 1 = .ok (.iconst 0, 1) := by decide +kernel
theorem dL_hole_2 : decode bL_hole 2 = .ok (.aload_n 0, 1) := by decide +kernel
theorem dL_hole_3 : decode bL_hole 3 = .ok (.iload_n 1, 1) := by decide +kernel
theorem dL_hole_4 : decode bL_hole 4 = .ok (.invokevirtual 65, 3) := by decide +kernel
theorem dL_hole_7 : decode bL_hole 7 = .ok (.i2l, 1) := by decide +kernel
theorem dL_hole_8 : decode bL_hole 8 = .ok (.lastore, 1) := by decide +kernel
theorem dL_hole_9 : decode bL_hole 9 = .ok (.goto 6, 3) := by decide +kernel
theorem dL_hole_12 : decode bL_hole 12 = .ok (.astore_n 3, 1) := by decide +kernel
theorem dL_hole_13 : decode bL_hole 13 = .ok (.iconst 1, 1) := by decide +kernel
theorem dL_hole_14 : decode bL_hole 14 = .ok (.ireturn, 1) := by decide +kernel
theorem dL_hole_15 : decode bL_hole 15 = .ok (.iconst 0, 1) := by decide +kernel
theorem dL_hole_16 : decode bL_hole 16 = .ok (.ireturn, 1) := by decide +kernel
theorem dL_law_0 : decode code 0 = .ok (.new 8, 3) := by decide +kernel
theorem dL_law_3 : decode code 3 = .ok (.dup, 1) := by decide +kernel
theorem dL_law_4 : decode code 4 = .ok (.invokespecial 69, 3) := by decide +kernel
theorem dL_law_7 : decode code 7 = .ok (.astore_n 1, 1) := by decide +kernel
theorem dL_law_8 : decode code 8 = .ok (.new 70, 3) := by decide +kernel
theorem dL_law_11 : decode code 11 = .ok (.dup, 1) := by decide +kernel
theorem dL_law_12 : decode code 12 = .ok (.invokespecial 72, 3) := by decide +kernel
theorem dL_law_15 : decode code 15 = .ok (.astore_n 2, 1) := by decide +kernel
theorem dL_law_16 : decode code 16 = .ok (.iconst 1, 1) := by decide +kernel
theorem dL_law_17 : decode code 17 = .ok (.newarray .long, 2) := by decide +kernel
theorem dL_law_19 : decode code 19 = .ok (.astore_n 3, 1) := by decide +kernel
theorem dL_law_20 : decode code 20 = .ok (.iconst 0, 1) := by decide +kernel
theorem dL_law_21 : decode code 21 = .ok (.istore 4, 2) := by decide +kernel
theorem dL_law_23 : decode code 23 = .ok (.iload 4, 2) := by decide +kernel
theorem dL_law_25 : decode code 25 = .ok (.aload_n 0, 1) := by decide +kernel
theorem dL_law_26 : decode code 26 = .ok (.arraylength, 1) := by decide +kernel
theorem dL_law_27 : decode code 27 = .ok (.bipush 7, 2) := by decide +kernel
theorem dL_law_29 : decode code 29 = .ok (.isub, 1) := by decide +kernel
theorem dL_law_30 : decode code 30 = .ok (.if_icmp .gt 960, 3) := by decide +kernel
theorem dL_law_33 : decode code 33 = .ok (.aload_n 0, 1) := by decide +kernel
theorem dL_law_34 : decode code 34 = .ok (.iload 4, 2) := by decide +kernel
theorem dL_law_36 : decode code 36 = .ok (.iaload, 1) := by decide +kernel
theorem dL_law_37 : decode code 37 = .ok (.bipush 31, 2) := by decide +kernel
theorem dL_law_39 : decode code 39 = .ok (.iand, 1) := by decide +kernel
theorem dL_law_40 : decode code 40 = .ok (.tableswitch 944 0 16 #[84, 109, 122, 162, 199, 275, 347, 451, 515, 555, 595, 606, 658, 734, 786, 876, 916], 84) := by decide +kernel
theorem dL_law_124 : decode code 124 = .ok (.aload_n 1, 1) := by decide +kernel
theorem dL_law_125 : decode code 125 = .ok (.aload_n 0, 1) := by decide +kernel
theorem dL_law_126 : decode code 126 = .ok (.iload 4, 2) := by decide +kernel
theorem dL_law_128 : decode code 128 = .ok (.iconst 1, 1) := by decide +kernel
theorem dL_law_129 : decode code 129 = .ok (.iadd, 1) := by decide +kernel
theorem dL_law_130 : decode code 130 = .ok (.iaload, 1) := by decide +kernel
theorem dL_law_131 : decode code 131 = .ok (.invokevirtual 73, 3) := by decide +kernel
theorem dL_law_134 : decode code 134 = .ok (.pop, 1) := by decide +kernel
theorem dL_law_135 : decode code 135 = .ok (.aload_n 2, 1) := by decide +kernel
theorem dL_law_136 : decode code 136 = .ok (.aload_n 0, 1) := by decide +kernel
theorem dL_law_137 : decode code 137 = .ok (.iload 4, 2) := by decide +kernel
theorem dL_law_139 : decode code 139 = .ok (.iconst 1, 1) := by decide +kernel
theorem dL_law_140 : decode code 140 = .ok (.iadd, 1) := by decide +kernel
theorem dL_law_141 : decode code 141 = .ok (.iaload, 1) := by decide +kernel
theorem dL_law_142 : decode code 142 = .ok (.invokevirtual 77, 3) := by decide +kernel
theorem dL_law_145 : decode code 145 = .ok (.pop, 1) := by decide +kernel
theorem dL_law_146 : decode code 146 = .ok (.goto 838, 3) := by decide +kernel
theorem dL_law_149 : decode code 149 = .ok (.aload_n 1, 1) := by decide +kernel
theorem dL_law_150 : decode code 150 = .ok (.invokevirtual 78, 3) := by decide +kernel
theorem dL_law_153 : decode code 153 = .ok (.aload_n 2, 1) := by decide +kernel
theorem dL_law_154 : decode code 154 = .ok (.invokevirtual 82, 3) := by decide +kernel
theorem dL_law_157 : decode code 157 = .ok (.if_icmp .eq 827, 3) := by decide +kernel
theorem dL_law_160 : decode code 160 = .ok (.iconst 0, 1) := by decide +kernel
theorem dL_law_161 : decode code 161 = .ok (.ireturn, 1) := by decide +kernel
theorem dL_law_162 : decode code 162 = .ok (.aload_n 1, 1) := by decide +kernel
theorem dL_law_163 : decode code 163 = .ok (.aload_n 0, 1) := by decide +kernel
theorem dL_law_164 : decode code 164 = .ok (.iload 4, 2) := by decide +kernel
theorem dL_law_166 : decode code 166 = .ok (.iconst 1, 1) := by decide +kernel
theorem dL_law_167 : decode code 167 = .ok (.iadd, 1) := by decide +kernel
theorem dL_law_168 : decode code 168 = .ok (.iaload, 1) := by decide +kernel
theorem dL_law_169 : decode code 169 = .ok (.aload_n 0, 1) := by decide +kernel
theorem dL_law_170 : decode code 170 = .ok (.iload 4, 2) := by decide +kernel
theorem dL_law_172 : decode code 172 = .ok (.iconst 2, 1) := by decide +kernel
theorem dL_law_173 : decode code 173 = .ok (.iadd, 1) := by decide +kernel
theorem dL_law_174 : decode code 174 = .ok (.iaload, 1) := by decide +kernel
theorem dL_law_175 : decode code 175 = .ok (.aload_n 3, 1) := by decide +kernel
theorem dL_law_176 : decode code 176 = .ok (.invokestatic 83, 3) := by decide +kernel
theorem dL_law_179 : decode code 179 = .ok (.istore 5, 2) := by decide +kernel
theorem dL_law_181 : decode code 181 = .ok (.aload_n 2, 1) := by decide +kernel
theorem dL_law_182 : decode code 182 = .ok (.aload_n 0, 1) := by decide +kernel
theorem dL_law_183 : decode code 183 = .ok (.iload 4, 2) := by decide +kernel
theorem dL_law_185 : decode code 185 = .ok (.iconst 1, 1) := by decide +kernel
theorem dL_law_186 : decode code 186 = .ok (.iadd, 1) := by decide +kernel
theorem dL_law_187 : decode code 187 = .ok (.iaload, 1) := by decide +kernel
theorem dL_law_188 : decode code 188 = .ok (.aload_n 0, 1) := by decide +kernel
theorem dL_law_189 : decode code 189 = .ok (.iload 4, 2) := by decide +kernel
theorem dL_law_191 : decode code 191 = .ok (.iconst 2, 1) := by decide +kernel
theorem dL_law_192 : decode code 192 = .ok (.iadd, 1) := by decide +kernel
theorem dL_law_193 : decode code 193 = .ok (.iaload, 1) := by decide +kernel
theorem dL_law_194 : decode code 194 = .ok (.invokevirtual 88, 3) := by decide +kernel
theorem dL_law_197 : decode code 197 = .ok (.istore 6, 2) := by decide +kernel
theorem dL_law_199 : decode code 199 = .ok (.goto 785, 3) := by decide +kernel
theorem dL_law_202 : decode code 202 = .ok (.aload_n 1, 1) := by decide +kernel
theorem dL_law_203 : decode code 203 = .ok (.aload_n 0, 1) := by decide +kernel
theorem dL_law_204 : decode code 204 = .ok (.iload 4, 2) := by decide +kernel
theorem dL_law_206 : decode code 206 = .ok (.iconst 1, 1) := by decide +kernel
theorem dL_law_207 : decode code 207 = .ok (.iadd, 1) := by decide +kernel
theorem dL_law_208 : decode code 208 = .ok (.iaload, 1) := by decide +kernel
theorem dL_law_209 : decode code 209 = .ok (.aload_n 0, 1) := by decide +kernel
theorem dL_law_210 : decode code 210 = .ok (.iload 4, 2) := by decide +kernel
theorem dL_law_212 : decode code 212 = .ok (.iconst 2, 1) := by decide +kernel
theorem dL_law_213 : decode code 213 = .ok (.iadd, 1) := by decide +kernel
theorem dL_law_214 : decode code 214 = .ok (.iaload, 1) := by decide +kernel
theorem dL_law_215 : decode code 215 = .ok (.invokestatic 89, 3) := by decide +kernel
theorem dL_law_218 : decode code 218 = .ok (.istore 5, 2) := by decide +kernel
theorem dL_law_220 : decode code 220 = .ok (.aload_n 2, 1) := by decide +kernel
theorem dL_law_221 : decode code 221 = .ok (.aload_n 0, 1) := by decide +kernel
theorem dL_law_222 : decode code 222 = .ok (.iload 4, 2) := by decide +kernel
theorem dL_law_224 : decode code 224 = .ok (.iconst 1, 1) := by decide +kernel
theorem dL_law_225 : decode code 225 = .ok (.iadd, 1) := by decide +kernel
theorem dL_law_226 : decode code 226 = .ok (.iaload, 1) := by decide +kernel
theorem dL_law_227 : decode code 227 = .ok (.aload_n 0, 1) := by decide +kernel
theorem dL_law_228 : decode code 228 = .ok (.iload 4, 2) := by decide +kernel
theorem dL_law_230 : decode code 230 = .ok (.iconst 2, 1) := by decide +kernel
theorem dL_law_231 : decode code 231 = .ok (.iadd, 1) := by decide +kernel
theorem dL_law_232 : decode code 232 = .ok (.iaload, 1) := by decide +kernel
theorem dL_law_233 : decode code 233 = .ok (.invokevirtual 92, 3) := by decide +kernel
theorem dL_law_236 : decode code 236 = .ok (.goto 748, 3) := by decide +kernel
theorem dL_law_239 : decode code 239 = .ok (.aload_n 1, 1) := by decide +kernel
theorem dL_law_240 : decode code 240 = .ok (.aload_n 0, 1) := by decide +kernel
theorem dL_law_241 : decode code 241 = .ok (.iload 4, 2) := by decide +kernel
theorem dL_law_243 : decode code 243 = .ok (.iconst 1, 1) := by decide +kernel
theorem dL_law_244 : decode code 244 = .ok (.iadd, 1) := by decide +kernel
theorem dL_law_245 : decode code 245 = .ok (.iaload, 1) := by decide +kernel
theorem dL_law_246 : decode code 246 = .ok (.aload_n 0, 1) := by decide +kernel
theorem dL_law_247 : decode code 247 = .ok (.iload 4, 2) := by decide +kernel
theorem dL_law_249 : decode code 249 = .ok (.iconst 2, 1) := by decide +kernel
theorem dL_law_250 : decode code 250 = .ok (.iadd, 1) := by decide +kernel
theorem dL_law_251 : decode code 251 = .ok (.iaload, 1) := by decide +kernel
theorem dL_law_252 : decode code 252 = .ok (.aload_n 0, 1) := by decide +kernel
theorem dL_law_253 : decode code 253 = .ok (.iload 4, 2) := by decide +kernel
theorem dL_law_255 : decode code 255 = .ok (.iconst 3, 1) := by decide +kernel
theorem dL_law_256 : decode code 256 = .ok (.iadd, 1) := by decide +kernel
theorem dL_law_257 : decode code 257 = .ok (.iaload, 1) := by decide +kernel
theorem dL_law_258 : decode code 258 = .ok (.aload_n 0, 1) := by decide +kernel
theorem dL_law_259 : decode code 259 = .ok (.iload 4, 2) := by decide +kernel
theorem dL_law_261 : decode code 261 = .ok (.iconst 4, 1) := by decide +kernel
theorem dL_law_262 : decode code 262 = .ok (.iadd, 1) := by decide +kernel
theorem dL_law_263 : decode code 263 = .ok (.iaload, 1) := by decide +kernel
theorem dL_law_264 : decode code 264 = .ok (.aload_n 0, 1) := by decide +kernel
theorem dL_law_265 : decode code 265 = .ok (.iload 4, 2) := by decide +kernel
theorem dL_law_267 : decode code 267 = .ok (.iconst 5, 1) := by decide +kernel
theorem dL_law_268 : decode code 268 = .ok (.iadd, 1) := by decide +kernel
theorem dL_law_269 : decode code 269 = .ok (.iaload, 1) := by decide +kernel
theorem dL_law_270 : decode code 270 = .ok (.aload_n 3, 1) := by decide +kernel
theorem dL_law_271 : decode code 271 = .ok (.invokestatic 93, 3) := by decide +kernel
theorem dL_law_274 : decode code 274 = .ok (.istore 5, 2) := by decide +kernel
theorem dL_law_276 : decode code 276 = .ok (.aload_n 2, 1) := by decide +kernel
theorem dL_law_277 : decode code 277 = .ok (.aload_n 0, 1) := by decide +kernel
theorem dL_law_278 : decode code 278 = .ok (.iload 4, 2) := by decide +kernel
theorem dL_law_280 : decode code 280 = .ok (.iconst 1, 1) := by decide +kernel
theorem dL_law_281 : decode code 281 = .ok (.iadd, 1) := by decide +kernel
theorem dL_law_282 : decode code 282 = .ok (.iaload, 1) := by decide +kernel
theorem dL_law_283 : decode code 283 = .ok (.aload_n 0, 1) := by decide +kernel
theorem dL_law_284 : decode code 284 = .ok (.iload 4, 2) := by decide +kernel
theorem dL_law_286 : decode code 286 = .ok (.iconst 2, 1) := by decide +kernel
theorem dL_law_287 : decode code 287 = .ok (.iadd, 1) := by decide +kernel
theorem dL_law_288 : decode code 288 = .ok (.iaload, 1) := by decide +kernel
theorem dL_law_289 : decode code 289 = .ok (.aload_n 0, 1) := by decide +kernel
theorem dL_law_290 : decode code 290 = .ok (.iload 4, 2) := by decide +kernel
theorem dL_law_292 : decode code 292 = .ok (.iconst 3, 1) := by decide +kernel
theorem dL_law_293 : decode code 293 = .ok (.iadd, 1) := by decide +kernel
theorem dL_law_294 : decode code 294 = .ok (.iaload, 1) := by decide +kernel
theorem dL_law_295 : decode code 295 = .ok (.aload_n 0, 1) := by decide +kernel
theorem dL_law_296 : decode code 296 = .ok (.iload 4, 2) := by decide +kernel
theorem dL_law_298 : decode code 298 = .ok (.iconst 4, 1) := by decide +kernel
theorem dL_law_299 : decode code 299 = .ok (.iadd, 1) := by decide +kernel
theorem dL_law_300 : decode code 300 = .ok (.iaload, 1) := by decide +kernel
theorem dL_law_301 : decode code 301 = .ok (.aload_n 0, 1) := by decide +kernel
theorem dL_law_302 : decode code 302 = .ok (.iload 4, 2) := by decide +kernel
theorem dL_law_304 : decode code 304 = .ok (.iconst 5, 1) := by decide +kernel
theorem dL_law_305 : decode code 305 = .ok (.iadd, 1) := by decide +kernel
theorem dL_law_306 : decode code 306 = .ok (.iaload, 1) := by decide +kernel
theorem dL_law_307 : decode code 307 = .ok (.invokevirtual 96, 3) := by decide +kernel
theorem dL_law_310 : decode code 310 = .ok (.lstore 6, 2) := by decide +kernel
theorem dL_law_312 : decode code 312 = .ok (.goto 672, 3) := by decide +kernel
theorem dL_law_315 : decode code 315 = .ok (.aload_n 1, 1) := by decide +kernel
theorem dL_law_316 : decode code 316 = .ok (.aload_n 0, 1) := by decide +kernel
theorem dL_law_317 : decode code 317 = .ok (.iload 4, 2) := by decide +kernel
theorem dL_law_319 : decode code 319 = .ok (.iconst 1, 1) := by decide +kernel
theorem dL_law_320 : decode code 320 = .ok (.iadd, 1) := by decide +kernel
theorem dL_law_321 : decode code 321 = .ok (.iaload, 1) := by decide +kernel
theorem dL_law_322 : decode code 322 = .ok (.aload_n 0, 1) := by decide +kernel
theorem dL_law_323 : decode code 323 = .ok (.iload 4, 2) := by decide +kernel
theorem dL_law_325 : decode code 325 = .ok (.iconst 2, 1) := by decide +kernel
theorem dL_law_326 : decode code 326 = .ok (.iadd, 1) := by decide +kernel
theorem dL_law_327 : decode code 327 = .ok (.iaload, 1) := by decide +kernel
theorem dL_law_328 : decode code 328 = .ok (.i2l, 1) := by decide +kernel
theorem dL_law_329 : decode code 329 = .ok (.bipush 32, 2) := by decide +kernel
theorem dL_law_331 : decode code 331 = .ok (.lshl, 1) := by decide +kernel
theorem dL_law_332 : decode code 332 = .ok (.aload_n 0, 1) := by decide +kernel
theorem dL_law_333 : decode code 333 = .ok (.iload 4, 2) := by decide +kernel
theorem dL_law_335 : decode code 335 = .ok (.iconst 3, 1) := by decide +kernel
theorem dL_law_336 : decode code 336 = .ok (.iadd, 1) := by decide +kernel
theorem dL_law_337 : decode code 337 = .ok (.iaload, 1) := by decide +kernel
theorem dL_law_338 : decode code 338 = .ok (.i2l, 1) := by decide +kernel
theorem dL_law_339 : decode code 339 = .ok (.ldc2_w 97, 3) := by decide +kernel
theorem dL_law_342 : decode code 342 = .ok (.land, 1) := by decide +kernel
theorem dL_law_343 : decode code 343 = .ok (.lor, 1) := by decide +kernel
theorem dL_law_344 : decode code 344 = .ok (.aload_n 3, 1) := by decide +kernel
theorem dL_law_345 : decode code 345 = .ok (.invokestatic 99, 3) := by decide +kernel
theorem dL_law_348 : decode code 348 = .ok (.istore 5, 2) := by decide +kernel
theorem dL_law_350 : decode code 350 = .ok (.aload_n 2, 1) := by decide +kernel
theorem dL_law_351 : decode code 351 = .ok (.aload_n 0, 1) := by decide +kernel
theorem dL_law_352 : decode code 352 = .ok (.iload 4, 2) := by decide +kernel
theorem dL_law_354 : decode code 354 = .ok (.iconst 1, 1) := by decide +kernel
theorem dL_law_355 : decode code 355 = .ok (.iadd, 1) := by decide +kernel
theorem dL_law_356 : decode code 356 = .ok (.iaload, 1) := by decide +kernel
theorem dL_law_357 : decode code 357 = .ok (.aload_n 0, 1) := by decide +kernel
theorem dL_law_358 : decode code 358 = .ok (.iload 4, 2) := by decide +kernel
theorem dL_law_360 : decode code 360 = .ok (.iconst 2, 1) := by decide +kernel
theorem dL_law_361 : decode code 361 = .ok (.iadd, 1) := by decide +kernel
theorem dL_law_362 : decode code 362 = .ok (.iaload, 1) := by decide +kernel
theorem dL_law_363 : decode code 363 = .ok (.i2l, 1) := by decide +kernel
theorem dL_law_364 : decode code 364 = .ok (.bipush 32, 2) := by decide +kernel
theorem dL_law_366 : decode code 366 = .ok (.lshl, 1) := by decide +kernel
theorem dL_law_367 : decode code 367 = .ok (.aload_n 0, 1) := by decide +kernel
theorem dL_law_368 : decode code 368 = .ok (.iload 4, 2) := by decide +kernel
theorem dL_law_370 : decode code 370 = .ok (.iconst 3, 1) := by decide +kernel
theorem dL_law_371 : decode code 371 = .ok (.iadd, 1) := by decide +kernel
theorem dL_law_372 : decode code 372 = .ok (.iaload, 1) := by decide +kernel
theorem dL_law_373 : decode code 373 = .ok (.i2l, 1) := by decide +kernel
theorem dL_law_374 : decode code 374 = .ok (.ldc2_w 97, 3) := by decide +kernel
theorem dL_law_377 : decode code 377 = .ok (.land, 1) := by decide +kernel
theorem dL_law_378 : decode code 378 = .ok (.lor, 1) := by decide +kernel
theorem dL_law_379 : decode code 379 = .ok (.invokevirtual 102, 3) := by decide +kernel
theorem dL_law_382 : decode code 382 = .ok (.lstore 6, 2) := by decide +kernel
theorem dL_law_384 : decode code 384 = .ok (.goto 600, 3) := by decide +kernel
theorem dL_law_387 : decode code 387 = .ok (.aload_n 1, 1) := by decide +kernel
theorem dL_law_388 : decode code 388 = .ok (.aload_n 0, 1) := by decide +kernel
theorem dL_law_389 : decode code 389 = .ok (.iload 4, 2) := by decide +kernel
theorem dL_law_391 : decode code 391 = .ok (.iconst 1, 1) := by decide +kernel
theorem dL_law_392 : decode code 392 = .ok (.iadd, 1) := by decide +kernel
theorem dL_law_393 : decode code 393 = .ok (.iaload, 1) := by decide +kernel
theorem dL_law_394 : decode code 394 = .ok (.i2l, 1) := by decide +kernel
theorem dL_law_395 : decode code 395 = .ok (.bipush 32, 2) := by decide +kernel
theorem dL_law_397 : decode code 397 = .ok (.lshl, 1) := by decide +kernel
theorem dL_law_398 : decode code 398 = .ok (.aload_n 0, 1) := by decide +kernel
theorem dL_law_399 : decode code 399 = .ok (.iload 4, 2) := by decide +kernel
theorem dL_law_401 : decode code 401 = .ok (.iconst 2, 1) := by decide +kernel
theorem dL_law_402 : decode code 402 = .ok (.iadd, 1) := by decide +kernel
theorem dL_law_403 : decode code 403 = .ok (.iaload, 1) := by decide +kernel
theorem dL_law_404 : decode code 404 = .ok (.i2l, 1) := by decide +kernel
theorem dL_law_405 : decode code 405 = .ok (.ldc2_w 97, 3) := by decide +kernel
theorem dL_law_408 : decode code 408 = .ok (.land, 1) := by decide +kernel
theorem dL_law_409 : decode code 409 = .ok (.lor, 1) := by decide +kernel
theorem dL_law_410 : decode code 410 = .ok (.aload_n 0, 1) := by decide +kernel
theorem dL_law_411 : decode code 411 = .ok (.iload 4, 2) := by decide +kernel
theorem dL_law_413 : decode code 413 = .ok (.iconst 3, 1) := by decide +kernel
theorem dL_law_414 : decode code 414 = .ok (.iadd, 1) := by decide +kernel
theorem dL_law_415 : decode code 415 = .ok (.iaload, 1) := by decide +kernel
theorem dL_law_416 : decode code 416 = .ok (.i2l, 1) := by decide +kernel
theorem dL_law_417 : decode code 417 = .ok (.bipush 32, 2) := by decide +kernel
theorem dL_law_419 : decode code 419 = .ok (.lshl, 1) := by decide +kernel
theorem dL_law_420 : decode code 420 = .ok (.aload_n 0, 1) := by decide +kernel
theorem dL_law_421 : decode code 421 = .ok (.iload 4, 2) := by decide +kernel
theorem dL_law_423 : decode code 423 = .ok (.iconst 4, 1) := by decide +kernel
theorem dL_law_424 : decode code 424 = .ok (.iadd, 1) := by decide +kernel
theorem dL_law_425 : decode code 425 = .ok (.iaload, 1) := by decide +kernel
theorem dL_law_426 : decode code 426 = .ok (.i2l, 1) := by decide +kernel
theorem dL_law_427 : decode code 427 = .ok (.ldc2_w 97, 3) := by decide +kernel
theorem dL_law_430 : decode code 430 = .ok (.land, 1) := by decide +kernel
theorem dL_law_431 : decode code 431 = .ok (.lor, 1) := by decide +kernel
theorem dL_law_432 : decode code 432 = .ok (.aload_n 3, 1) := by decide +kernel
theorem dL_law_433 : decode code 433 = .ok (.invokestatic 103, 3) := by decide +kernel
theorem dL_law_436 : decode code 436 = .ok (.istore 5, 2) := by decide +kernel
theorem dL_law_438 : decode code 438 = .ok (.aload_n 2, 1) := by decide +kernel
theorem dL_law_439 : decode code 439 = .ok (.aload_n 0, 1) := by decide +kernel
theorem dL_law_440 : decode code 440 = .ok (.iload 4, 2) := by decide +kernel
theorem dL_law_442 : decode code 442 = .ok (.iconst 1, 1) := by decide +kernel
theorem dL_law_443 : decode code 443 = .ok (.iadd, 1) := by decide +kernel
theorem dL_law_444 : decode code 444 = .ok (.iaload, 1) := by decide +kernel
theorem dL_law_445 : decode code 445 = .ok (.i2l, 1) := by decide +kernel
theorem dL_law_446 : decode code 446 = .ok (.bipush 32, 2) := by decide +kernel
theorem dL_law_448 : decode code 448 = .ok (.lshl, 1) := by decide +kernel
theorem dL_law_449 : decode code 449 = .ok (.aload_n 0, 1) := by decide +kernel
theorem dL_law_450 : decode code 450 = .ok (.iload 4, 2) := by decide +kernel
theorem dL_law_452 : decode code 452 = .ok (.iconst 2, 1) := by decide +kernel
theorem dL_law_453 : decode code 453 = .ok (.iadd, 1) := by decide +kernel
theorem dL_law_454 : decode code 454 = .ok (.iaload, 1) := by decide +kernel
theorem dL_law_455 : decode code 455 = .ok (.i2l, 1) := by decide +kernel
theorem dL_law_456 : decode code 456 = .ok (.ldc2_w 97, 3) := by decide +kernel
theorem dL_law_459 : decode code 459 = .ok (.land, 1) := by decide +kernel
theorem dL_law_460 : decode code 460 = .ok (.lor, 1) := by decide +kernel
theorem dL_law_461 : decode code 461 = .ok (.aload_n 0, 1) := by decide +kernel
theorem dL_law_462 : decode code 462 = .ok (.iload 4, 2) := by decide +kernel
theorem dL_law_464 : decode code 464 = .ok (.iconst 3, 1) := by decide +kernel
theorem dL_law_465 : decode code 465 = .ok (.iadd, 1) := by decide +kernel
theorem dL_law_466 : decode code 466 = .ok (.iaload, 1) := by decide +kernel
theorem dL_law_467 : decode code 467 = .ok (.i2l, 1) := by decide +kernel
theorem dL_law_468 : decode code 468 = .ok (.bipush 32, 2) := by decide +kernel
theorem dL_law_470 : decode code 470 = .ok (.lshl, 1) := by decide +kernel
theorem dL_law_471 : decode code 471 = .ok (.aload_n 0, 1) := by decide +kernel
theorem dL_law_472 : decode code 472 = .ok (.iload 4, 2) := by decide +kernel
theorem dL_law_474 : decode code 474 = .ok (.iconst 4, 1) := by decide +kernel
theorem dL_law_475 : decode code 475 = .ok (.iadd, 1) := by decide +kernel
theorem dL_law_476 : decode code 476 = .ok (.iaload, 1) := by decide +kernel
theorem dL_law_477 : decode code 477 = .ok (.i2l, 1) := by decide +kernel
theorem dL_law_478 : decode code 478 = .ok (.ldc2_w 97, 3) := by decide +kernel
theorem dL_law_481 : decode code 481 = .ok (.land, 1) := by decide +kernel
theorem dL_law_482 : decode code 482 = .ok (.lor, 1) := by decide +kernel
theorem dL_law_483 : decode code 483 = .ok (.invokevirtual 106, 3) := by decide +kernel
theorem dL_law_486 : decode code 486 = .ok (.istore 6, 2) := by decide +kernel
theorem dL_law_488 : decode code 488 = .ok (.goto 496, 3) := by decide +kernel
theorem dL_law_491 : decode code 491 = .ok (.aload_n 1, 1) := by decide +kernel
theorem dL_law_492 : decode code 492 = .ok (.aload_n 0, 1) := by decide +kernel
theorem dL_law_493 : decode code 493 = .ok (.iload 4, 2) := by decide +kernel
theorem dL_law_495 : decode code 495 = .ok (.iconst 1, 1) := by decide +kernel
theorem dL_law_496 : decode code 496 = .ok (.iadd, 1) := by decide +kernel
theorem dL_law_497 : decode code 497 = .ok (.iaload, 1) := by decide +kernel
theorem dL_law_498 : decode code 498 = .ok (.aload_n 0, 1) := by decide +kernel
theorem dL_law_499 : decode code 499 = .ok (.iload 4, 2) := by decide +kernel
theorem dL_law_501 : decode code 501 = .ok (.iconst 2, 1) := by decide +kernel
theorem dL_law_502 : decode code 502 = .ok (.iadd, 1) := by decide +kernel
theorem dL_law_503 : decode code 503 = .ok (.iaload, 1) := by decide +kernel
theorem dL_law_504 : decode code 504 = .ok (.aload_n 0, 1) := by decide +kernel
theorem dL_law_505 : decode code 505 = .ok (.iload 4, 2) := by decide +kernel
theorem dL_law_507 : decode code 507 = .ok (.iconst 3, 1) := by decide +kernel
theorem dL_law_508 : decode code 508 = .ok (.iadd, 1) := by decide +kernel
theorem dL_law_509 : decode code 509 = .ok (.iaload, 1) := by decide +kernel
theorem dL_law_510 : decode code 510 = .ok (.aload_n 0, 1) := by decide +kernel
theorem dL_law_511 : decode code 511 = .ok (.iload 4, 2) := by decide +kernel
theorem dL_law_513 : decode code 513 = .ok (.iconst 4, 1) := by decide +kernel
theorem dL_law_514 : decode code 514 = .ok (.iadd, 1) := by decide +kernel
theorem dL_law_515 : decode code 515 = .ok (.iaload, 1) := by decide +kernel
theorem dL_law_516 : decode code 516 = .ok (.aload_n 3, 1) := by decide +kernel
theorem dL_law_517 : decode code 517 = .ok (.invokestatic 107, 3) := by decide +kernel
theorem dL_law_520 : decode code 520 = .ok (.istore 5, 2) := by decide +kernel
theorem dL_law_522 : decode code 522 = .ok (.aload_n 2, 1) := by decide +kernel
theorem dL_law_523 : decode code 523 = .ok (.aload_n 0, 1) := by decide +kernel
theorem dL_law_524 : decode code 524 = .ok (.iload 4, 2) := by decide +kernel
theorem dL_law_526 : decode code 526 = .ok (.iconst 1, 1) := by decide +kernel
theorem dL_law_527 : decode code 527 = .ok (.iadd, 1) := by decide +kernel
theorem dL_law_528 : decode code 528 = .ok (.iaload, 1) := by decide +kernel
theorem dL_law_529 : decode code 529 = .ok (.aload_n 0, 1) := by decide +kernel
theorem dL_law_530 : decode code 530 = .ok (.iload 4, 2) := by decide +kernel
theorem dL_law_532 : decode code 532 = .ok (.iconst 2, 1) := by decide +kernel
theorem dL_law_533 : decode code 533 = .ok (.iadd, 1) := by decide +kernel
theorem dL_law_534 : decode code 534 = .ok (.iaload, 1) := by decide +kernel
theorem dL_law_535 : decode code 535 = .ok (.aload_n 0, 1) := by decide +kernel
theorem dL_law_536 : decode code 536 = .ok (.iload 4, 2) := by decide +kernel
theorem dL_law_538 : decode code 538 = .ok (.iconst 3, 1) := by decide +kernel
theorem dL_law_539 : decode code 539 = .ok (.iadd, 1) := by decide +kernel
theorem dL_law_540 : decode code 540 = .ok (.iaload, 1) := by decide +kernel
theorem dL_law_541 : decode code 541 = .ok (.aload_n 0, 1) := by decide +kernel
theorem dL_law_542 : decode code 542 = .ok (.iload 4, 2) := by decide +kernel
theorem dL_law_544 : decode code 544 = .ok (.iconst 4, 1) := by decide +kernel
theorem dL_law_545 : decode code 545 = .ok (.iadd, 1) := by decide +kernel
theorem dL_law_546 : decode code 546 = .ok (.iaload, 1) := by decide +kernel
theorem dL_law_547 : decode code 547 = .ok (.invokevirtual 110, 3) := by decide +kernel
theorem dL_law_550 : decode code 550 = .ok (.istore 6, 2) := by decide +kernel
theorem dL_law_552 : decode code 552 = .ok (.goto 432, 3) := by decide +kernel
theorem dL_law_555 : decode code 555 = .ok (.aload_n 1, 1) := by decide +kernel
theorem dL_law_556 : decode code 556 = .ok (.aload_n 0, 1) := by decide +kernel
theorem dL_law_557 : decode code 557 = .ok (.iload 4, 2) := by decide +kernel
theorem dL_law_559 : decode code 559 = .ok (.iconst 1, 1) := by decide +kernel
theorem dL_law_560 : decode code 560 = .ok (.iadd, 1) := by decide +kernel
theorem dL_law_561 : decode code 561 = .ok (.iaload, 1) := by decide +kernel
theorem dL_law_562 : decode code 562 = .ok (.aload_n 0, 1) := by decide +kernel
theorem dL_law_563 : decode code 563 = .ok (.iload 4, 2) := by decide +kernel
theorem dL_law_565 : decode code 565 = .ok (.iconst 2, 1) := by decide +kernel
theorem dL_law_566 : decode code 566 = .ok (.iadd, 1) := by decide +kernel
theorem dL_law_567 : decode code 567 = .ok (.iaload, 1) := by decide +kernel
theorem dL_law_568 : decode code 568 = .ok (.aload_n 3, 1) := by decide +kernel
theorem dL_law_569 : decode code 569 = .ok (.invokestatic 111, 3) := by decide +kernel
theorem dL_law_572 : decode code 572 = .ok (.istore 5, 2) := by decide +kernel
theorem dL_law_574 : decode code 574 = .ok (.aload_n 2, 1) := by decide +kernel
theorem dL_law_575 : decode code 575 = .ok (.aload_n 0, 1) := by decide +kernel
theorem dL_law_576 : decode code 576 = .ok (.iload 4, 2) := by decide +kernel
theorem dL_law_578 : decode code 578 = .ok (.iconst 1, 1) := by decide +kernel
theorem dL_law_579 : decode code 579 = .ok (.iadd, 1) := by decide +kernel
theorem dL_law_580 : decode code 580 = .ok (.iaload, 1) := by decide +kernel
theorem dL_law_581 : decode code 581 = .ok (.aload_n 0, 1) := by decide +kernel
theorem dL_law_582 : decode code 582 = .ok (.iload 4, 2) := by decide +kernel
theorem dL_law_584 : decode code 584 = .ok (.iconst 2, 1) := by decide +kernel
theorem dL_law_585 : decode code 585 = .ok (.iadd, 1) := by decide +kernel
theorem dL_law_586 : decode code 586 = .ok (.iaload, 1) := by decide +kernel
theorem dL_law_587 : decode code 587 = .ok (.invokevirtual 113, 3) := by decide +kernel
theorem dL_law_590 : decode code 590 = .ok (.istore 6, 2) := by decide +kernel
theorem dL_law_592 : decode code 592 = .ok (.goto 392, 3) := by decide +kernel
theorem dL_law_595 : decode code 595 = .ok (.aload_n 1, 1) := by decide +kernel
theorem dL_law_596 : decode code 596 = .ok (.aload_n 0, 1) := by decide +kernel
theorem dL_law_597 : decode code 597 = .ok (.iload 4, 2) := by decide +kernel
theorem dL_law_599 : decode code 599 = .ok (.iconst 1, 1) := by decide +kernel
theorem dL_law_600 : decode code 600 = .ok (.iadd, 1) := by decide +kernel
theorem dL_law_601 : decode code 601 = .ok (.iaload, 1) := by decide +kernel
theorem dL_law_602 : decode code 602 = .ok (.aload_n 0, 1) := by decide +kernel
theorem dL_law_603 : decode code 603 = .ok (.iload 4, 2) := by decide +kernel
theorem dL_law_605 : decode code 605 = .ok (.iconst 2, 1) := by decide +kernel
theorem dL_law_606 : decode code 606 = .ok (.iadd, 1) := by decide +kernel
theorem dL_law_607 : decode code 607 = .ok (.iaload, 1) := by decide +kernel
theorem dL_law_608 : decode code 608 = .ok (.aload_n 3, 1) := by decide +kernel
theorem dL_law_609 : decode code 609 = .ok (.invokestatic 114, 3) := by decide +kernel
theorem dL_law_612 : decode code 612 = .ok (.istore 5, 2) := by decide +kernel
theorem dL_law_614 : decode code 614 = .ok (.aload_n 2, 1) := by decide +kernel
theorem dL_law_615 : decode code 615 = .ok (.aload_n 0, 1) := by decide +kernel
theorem dL_law_616 : decode code 616 = .ok (.iload 4, 2) := by decide +kernel
theorem dL_law_618 : decode code 618 = .ok (.iconst 1, 1) := by decide +kernel
theorem dL_law_619 : decode code 619 = .ok (.iadd, 1) := by decide +kernel
theorem dL_law_620 : decode code 620 = .ok (.iaload, 1) := by decide +kernel
theorem dL_law_621 : decode code 621 = .ok (.aload_n 0, 1) := by decide +kernel
theorem dL_law_622 : decode code 622 = .ok (.iload 4, 2) := by decide +kernel
theorem dL_law_624 : decode code 624 = .ok (.iconst 2, 1) := by decide +kernel
theorem dL_law_625 : decode code 625 = .ok (.iadd, 1) := by decide +kernel
theorem dL_law_626 : decode code 626 = .ok (.iaload, 1) := by decide +kernel
theorem dL_law_627 : decode code 627 = .ok (.invokevirtual 116, 3) := by decide +kernel
theorem dL_law_630 : decode code 630 = .ok (.istore 6, 2) := by decide +kernel
theorem dL_law_632 : decode code 632 = .ok (.goto 352, 3) := by decide +kernel
theorem dL_law_635 : decode code 635 = .ok (.aload_n 1, 1) := by decide +kernel
theorem dL_law_636 : decode code 636 = .ok (.invokevirtual 117, 3) := by decide +kernel
theorem dL_law_639 : decode code 639 = .ok (.aload_n 2, 1) := by decide +kernel
theorem dL_law_640 : decode code 640 = .ok (.invokevirtual 120, 3) := by decide +kernel
theorem dL_law_643 : decode code 643 = .ok (.goto 341, 3) := by decide +kernel
theorem dL_law_646 : decode code 646 = .ok (.aload_n 1, 1) := by decide +kernel
theorem dL_law_647 : decode code 647 = .ok (.aload_n 0, 1) := by decide +kernel
theorem dL_law_648 : decode code 648 = .ok (.iload 4, 2) := by decide +kernel
theorem dL_law_650 : decode code 650 = .ok (.iconst 1, 1) := by decide +kernel
theorem dL_law_651 : decode code 651 = .ok (.iadd, 1) := by decide +kernel
theorem dL_law_652 : decode code 652 = .ok (.iaload, 1) := by decide +kernel
theorem dL_law_653 : decode code 653 = .ok (.aload_n 0, 1) := by decide +kernel
theorem dL_law_654 : decode code 654 = .ok (.iload 4, 2) := by decide +kernel
theorem dL_law_656 : decode code 656 = .ok (.iconst 2, 1) := by decide +kernel
theorem dL_law_657 : decode code 657 = .ok (.iadd, 1) := by decide +kernel
theorem dL_law_658 : decode code 658 = .ok (.iaload, 1) := by decide +kernel
theorem dL_law_659 : decode code 659 = .ok (.aload_n 0, 1) := by decide +kernel
theorem dL_law_660 : decode code 660 = .ok (.iload 4, 2) := by decide +kernel
theorem dL_law_662 : decode code 662 = .ok (.iconst 3, 1) := by decide +kernel
theorem dL_law_663 : decode code 663 = .ok (.iadd, 1) := by decide +kernel
theorem dL_law_664 : decode code 664 = .ok (.iaload, 1) := by decide +kernel
theorem dL_law_665 : decode code 665 = .ok (.aload_n 3, 1) := by decide +kernel
theorem dL_law_666 : decode code 666 = .ok (.invokestatic 121, 3) := by decide +kernel
theorem dL_law_669 : decode code 669 = .ok (.istore 5, 2) := by decide +kernel
theorem dL_law_671 : decode code 671 = .ok (.aload_n 2, 1) := by decide +kernel
theorem dL_law_672 : decode code 672 = .ok (.aload_n 0, 1) := by decide +kernel
theorem dL_law_673 : decode code 673 = .ok (.iload 4, 2) := by decide +kernel
theorem dL_law_675 : decode code 675 = .ok (.iconst 1, 1) := by decide +kernel
theorem dL_law_676 : decode code 676 = .ok (.iadd, 1) := by decide +kernel
theorem dL_law_677 : decode code 677 = .ok (.iaload, 1) := by decide +kernel
theorem dL_law_678 : decode code 678 = .ok (.aload_n 0, 1) := by decide +kernel
theorem dL_law_679 : decode code 679 = .ok (.iload 4, 2) := by decide +kernel
theorem dL_law_681 : decode code 681 = .ok (.iconst 2, 1) := by decide +kernel
theorem dL_law_682 : decode code 682 = .ok (.iadd, 1) := by decide +kernel
theorem dL_law_683 : decode code 683 = .ok (.iaload, 1) := by decide +kernel
theorem dL_law_684 : decode code 684 = .ok (.aload_n 0, 1) := by decide +kernel
theorem dL_law_685 : decode code 685 = .ok (.iload 4, 2) := by decide +kernel
theorem dL_law_687 : decode code 687 = .ok (.iconst 3, 1) := by decide +kernel
theorem dL_law_688 : decode code 688 = .ok (.iadd, 1) := by decide +kernel
theorem dL_law_689 : decode code 689 = .ok (.iaload, 1) := by decide +kernel
theorem dL_law_690 : decode code 690 = .ok (.invokevirtual 124, 3) := by decide +kernel
theorem dL_law_693 : decode code 693 = .ok (.istore 6, 2) := by decide +kernel
theorem dL_law_695 : decode code 695 = .ok (.goto 289, 3) := by decide +kernel
theorem dL_law_698 : decode code 698 = .ok (.aload_n 1, 1) := by decide +kernel
theorem dL_law_699 : decode code 699 = .ok (.aload_n 0, 1) := by decide +kernel
theorem dL_law_700 : decode code 700 = .ok (.iload 4, 2) := by decide +kernel
theorem dL_law_702 : decode code 702 = .ok (.iconst 1, 1) := by decide +kernel
theorem dL_law_703 : decode code 703 = .ok (.iadd, 1) := by decide +kernel
theorem dL_law_704 : decode code 704 = .ok (.iaload, 1) := by decide +kernel
theorem dL_law_705 : decode code 705 = .ok (.aload_n 0, 1) := by decide +kernel
theorem dL_law_706 : decode code 706 = .ok (.iload 4, 2) := by decide +kernel
theorem dL_law_708 : decode code 708 = .ok (.iconst 2, 1) := by decide +kernel
theorem dL_law_709 : decode code 709 = .ok (.iadd, 1) := by decide +kernel
theorem dL_law_710 : decode code 710 = .ok (.iaload, 1) := by decide +kernel
theorem dL_law_711 : decode code 711 = .ok (.aload_n 0, 1) := by decide +kernel
theorem dL_law_712 : decode code 712 = .ok (.iload 4, 2) := by decide +kernel
theorem dL_law_714 : decode code 714 = .ok (.iconst 3, 1) := by decide +kernel
theorem dL_law_715 : decode code 715 = .ok (.iadd, 1) := by decide +kernel
theorem dL_law_716 : decode code 716 = .ok (.iaload, 1) := by decide +kernel
theorem dL_law_717 : decode code 717 = .ok (.aload_n 0, 1) := by decide +kernel
theorem dL_law_718 : decode code 718 = .ok (.iload 4, 2) := by decide +kernel
theorem dL_law_720 : decode code 720 = .ok (.iconst 4, 1) := by decide +kernel
theorem dL_law_721 : decode code 721 = .ok (.iadd, 1) := by decide +kernel
theorem dL_law_722 : decode code 722 = .ok (.iaload, 1) := by decide +kernel
theorem dL_law_723 : decode code 723 = .ok (.aload_n 0, 1) := by decide +kernel
theorem dL_law_724 : decode code 724 = .ok (.iload 4, 2) := by decide +kernel
theorem dL_law_726 : decode code 726 = .ok (.iconst 5, 1) := by decide +kernel
theorem dL_law_727 : decode code 727 = .ok (.iadd, 1) := by decide +kernel
theorem dL_law_728 : decode code 728 = .ok (.iaload, 1) := by decide +kernel
theorem dL_law_729 : decode code 729 = .ok (.aload_n 3, 1) := by decide +kernel
theorem dL_law_730 : decode code 730 = .ok (.invokestatic 125, 3) := by decide +kernel
theorem dL_law_733 : decode code 733 = .ok (.istore 5, 2) := by decide +kernel
theorem dL_law_735 : decode code 735 = .ok (.aload_n 2, 1) := by decide +kernel
theorem dL_law_736 : decode code 736 = .ok (.aload_n 0, 1) := by decide +kernel
theorem dL_law_737 : decode code 737 = .ok (.iload 4, 2) := by decide +kernel
theorem dL_law_739 : decode code 739 = .ok (.iconst 1, 1) := by decide +kernel
theorem dL_law_740 : decode code 740 = .ok (.iadd, 1) := by decide +kernel
theorem dL_law_741 : decode code 741 = .ok (.iaload, 1) := by decide +kernel
theorem dL_law_742 : decode code 742 = .ok (.aload_n 0, 1) := by decide +kernel
theorem dL_law_743 : decode code 743 = .ok (.iload 4, 2) := by decide +kernel
theorem dL_law_745 : decode code 745 = .ok (.iconst 2, 1) := by decide +kernel
theorem dL_law_746 : decode code 746 = .ok (.iadd, 1) := by decide +kernel
theorem dL_law_747 : decode code 747 = .ok (.iaload, 1) := by decide +kernel
theorem dL_law_748 : decode code 748 = .ok (.aload_n 0, 1) := by decide +kernel
theorem dL_law_749 : decode code 749 = .ok (.iload 4, 2) := by decide +kernel
theorem dL_law_751 : decode code 751 = .ok (.iconst 3, 1) := by decide +kernel
theorem dL_law_752 : decode code 752 = .ok (.iadd, 1) := by decide +kernel
theorem dL_law_753 : decode code 753 = .ok (.iaload, 1) := by decide +kernel
theorem dL_law_754 : decode code 754 = .ok (.aload_n 0, 1) := by decide +kernel
theorem dL_law_755 : decode code 755 = .ok (.iload 4, 2) := by decide +kernel
theorem dL_law_757 : decode code 757 = .ok (.iconst 4, 1) := by decide +kernel
theorem dL_law_758 : decode code 758 = .ok (.iadd, 1) := by decide +kernel
theorem dL_law_759 : decode code 759 = .ok (.iaload, 1) := by decide +kernel
theorem dL_law_760 : decode code 760 = .ok (.aload_n 0, 1) := by decide +kernel
theorem dL_law_761 : decode code 761 = .ok (.iload 4, 2) := by decide +kernel
theorem dL_law_763 : decode code 763 = .ok (.iconst 5, 1) := by decide +kernel
theorem dL_law_764 : decode code 764 = .ok (.iadd, 1) := by decide +kernel
theorem dL_law_765 : decode code 765 = .ok (.iaload, 1) := by decide +kernel
theorem dL_law_766 : decode code 766 = .ok (.invokevirtual 127, 3) := by decide +kernel
theorem dL_law_769 : decode code 769 = .ok (.istore 6, 2) := by decide +kernel
theorem dL_law_771 : decode code 771 = .ok (.goto 213, 3) := by decide +kernel
theorem dL_law_774 : decode code 774 = .ok (.aload_n 1, 1) := by decide +kernel
theorem dL_law_775 : decode code 775 = .ok (.aload_n 0, 1) := by decide +kernel
theorem dL_law_776 : decode code 776 = .ok (.iload 4, 2) := by decide +kernel
theorem dL_law_778 : decode code 778 = .ok (.iconst 1, 1) := by decide +kernel
theorem dL_law_779 : decode code 779 = .ok (.iadd, 1) := by decide +kernel
theorem dL_law_780 : decode code 780 = .ok (.iaload, 1) := by decide +kernel
theorem dL_law_781 : decode code 781 = .ok (.aload_n 0, 1) := by decide +kernel
theorem dL_law_782 : decode code 782 = .ok (.iload 4, 2) := by decide +kernel
theorem dL_law_784 : decode code 784 = .ok (.iconst 2, 1) := by decide +kernel
theorem dL_law_785 : decode code 785 = .ok (.iadd, 1) := by decide +kernel
theorem dL_law_786 : decode code 786 = .ok (.iaload, 1) := by decide +kernel
theorem dL_law_787 : decode code 787 = .ok (.aload_n 0, 1) := by decide +kernel
theorem dL_law_788 : decode code 788 = .ok (.iload 4, 2) := by decide +kernel
theorem dL_law_790 : decode code 790 = .ok (.iconst 3, 1) := by decide +kernel
theorem dL_law_791 : decode code 791 = .ok (.iadd, 1) := by decide +kernel
theorem dL_law_792 : decode code 792 = .ok (.iaload, 1) := by decide +kernel
theorem dL_law_793 : decode code 793 = .ok (.aload_n 3, 1) := by decide +kernel
theorem dL_law_794 : decode code 794 = .ok (.invokestatic 128, 3) := by decide +kernel
theorem dL_law_797 : decode code 797 = .ok (.istore 5, 2) := by decide +kernel
theorem dL_law_799 : decode code 799 = .ok (.aload_n 2, 1) := by decide +kernel
theorem dL_law_800 : decode code 800 = .ok (.aload_n 0, 1) := by decide +kernel
theorem dL_law_801 : decode code 801 = .ok (.iload 4, 2) := by decide +kernel
theorem dL_law_803 : decode code 803 = .ok (.iconst 1, 1) := by decide +kernel
theorem dL_law_804 : decode code 804 = .ok (.iadd, 1) := by decide +kernel
theorem dL_law_805 : decode code 805 = .ok (.iaload, 1) := by decide +kernel
theorem dL_law_806 : decode code 806 = .ok (.aload_n 0, 1) := by decide +kernel
theorem dL_law_807 : decode code 807 = .ok (.iload 4, 2) := by decide +kernel
theorem dL_law_809 : decode code 809 = .ok (.iconst 2, 1) := by decide +kernel
theorem dL_law_810 : decode code 810 = .ok (.iadd, 1) := by decide +kernel
theorem dL_law_811 : decode code 811 = .ok (.iaload, 1) := by decide +kernel
theorem dL_law_812 : decode code 812 = .ok (.aload_n 0, 1) := by decide +kernel
theorem dL_law_813 : decode code 813 = .ok (.iload 4, 2) := by decide +kernel
theorem dL_law_815 : decode code 815 = .ok (.iconst 3, 1) := by decide +kernel
theorem dL_law_816 : decode code 816 = .ok (.iadd, 1) := by decide +kernel
theorem dL_law_817 : decode code 817 = .ok (.iaload, 1) := by decide +kernel
theorem dL_law_818 : decode code 818 = .ok (.invokevirtual 130, 3) := by decide +kernel
theorem dL_law_821 : decode code 821 = .ok (.istore 6, 2) := by decide +kernel
theorem dL_law_823 : decode code 823 = .ok (.goto 161, 3) := by decide +kernel
theorem dL_law_826 : decode code 826 = .ok (.aload_n 1, 1) := by decide +kernel
theorem dL_law_827 : decode code 827 = .ok (.aload_n 0, 1) := by decide +kernel
theorem dL_law_828 : decode code 828 = .ok (.iload 4, 2) := by decide +kernel
theorem dL_law_830 : decode code 830 = .ok (.iconst 1, 1) := by decide +kernel
theorem dL_law_831 : decode code 831 = .ok (.iadd, 1) := by decide +kernel
theorem dL_law_832 : decode code 832 = .ok (.iaload, 1) := by decide +kernel
theorem dL_law_833 : decode code 833 = .ok (.aload_n 0, 1) := by decide +kernel
theorem dL_law_834 : decode code 834 = .ok (.iload 4, 2) := by decide +kernel
theorem dL_law_836 : decode code 836 = .ok (.iconst 2, 1) := by decide +kernel
theorem dL_law_837 : decode code 837 = .ok (.iadd, 1) := by decide +kernel
theorem dL_law_838 : decode code 838 = .ok (.iaload, 1) := by decide +kernel
theorem dL_law_839 : decode code 839 = .ok (.aload_n 0, 1) := by decide +kernel
theorem dL_law_840 : decode code 840 = .ok (.iload 4, 2) := by decide +kernel
theorem dL_law_842 : decode code 842 = .ok (.iconst 3, 1) := by decide +kernel
theorem dL_law_843 : decode code 843 = .ok (.iadd, 1) := by decide +kernel
theorem dL_law_844 : decode code 844 = .ok (.iaload, 1) := by decide +kernel
theorem dL_law_845 : decode code 845 = .ok (.aload_n 0, 1) := by decide +kernel
theorem dL_law_846 : decode code 846 = .ok (.iload 4, 2) := by decide +kernel
theorem dL_law_848 : decode code 848 = .ok (.iconst 4, 1) := by decide +kernel
theorem dL_law_849 : decode code 849 = .ok (.iadd, 1) := by decide +kernel
theorem dL_law_850 : decode code 850 = .ok (.iaload, 1) := by decide +kernel
theorem dL_law_851 : decode code 851 = .ok (.aload_n 0, 1) := by decide +kernel
theorem dL_law_852 : decode code 852 = .ok (.iload 4, 2) := by decide +kernel
theorem dL_law_854 : decode code 854 = .ok (.iconst 5, 1) := by decide +kernel
theorem dL_law_855 : decode code 855 = .ok (.iadd, 1) := by decide +kernel
theorem dL_law_856 : decode code 856 = .ok (.iaload, 1) := by decide +kernel
theorem dL_law_857 : decode code 857 = .ok (.aload_n 0, 1) := by decide +kernel
theorem dL_law_858 : decode code 858 = .ok (.iload 4, 2) := by decide +kernel
theorem dL_law_860 : decode code 860 = .ok (.bipush 6, 2) := by decide +kernel
theorem dL_law_862 : decode code 862 = .ok (.iadd, 1) := by decide +kernel
theorem dL_law_863 : decode code 863 = .ok (.iaload, 1) := by decide +kernel
theorem dL_law_864 : decode code 864 = .ok (.aload_n 3, 1) := by decide +kernel
theorem dL_law_865 : decode code 865 = .ok (.invokestatic 131, 3) := by decide +kernel
theorem dL_law_868 : decode code 868 = .ok (.istore 5, 2) := by decide +kernel
theorem dL_law_870 : decode code 870 = .ok (.aload_n 2, 1) := by decide +kernel
theorem dL_law_871 : decode code 871 = .ok (.aload_n 0, 1) := by decide +kernel
theorem dL_law_872 : decode code 872 = .ok (.iload 4, 2) := by decide +kernel
theorem dL_law_874 : decode code 874 = .ok (.iconst 1, 1) := by decide +kernel
theorem dL_law_875 : decode code 875 = .ok (.iadd, 1) := by decide +kernel
theorem dL_law_876 : decode code 876 = .ok (.iaload, 1) := by decide +kernel
theorem dL_law_877 : decode code 877 = .ok (.aload_n 0, 1) := by decide +kernel
theorem dL_law_878 : decode code 878 = .ok (.iload 4, 2) := by decide +kernel
theorem dL_law_880 : decode code 880 = .ok (.iconst 2, 1) := by decide +kernel
theorem dL_law_881 : decode code 881 = .ok (.iadd, 1) := by decide +kernel
theorem dL_law_882 : decode code 882 = .ok (.iaload, 1) := by decide +kernel
theorem dL_law_883 : decode code 883 = .ok (.aload_n 0, 1) := by decide +kernel
theorem dL_law_884 : decode code 884 = .ok (.iload 4, 2) := by decide +kernel
theorem dL_law_886 : decode code 886 = .ok (.iconst 3, 1) := by decide +kernel
theorem dL_law_887 : decode code 887 = .ok (.iadd, 1) := by decide +kernel
theorem dL_law_888 : decode code 888 = .ok (.iaload, 1) := by decide +kernel
theorem dL_law_889 : decode code 889 = .ok (.aload_n 0, 1) := by decide +kernel
theorem dL_law_890 : decode code 890 = .ok (.iload 4, 2) := by decide +kernel
theorem dL_law_892 : decode code 892 = .ok (.iconst 4, 1) := by decide +kernel
theorem dL_law_893 : decode code 893 = .ok (.iadd, 1) := by decide +kernel
theorem dL_law_894 : decode code 894 = .ok (.iaload, 1) := by decide +kernel
theorem dL_law_895 : decode code 895 = .ok (.aload_n 0, 1) := by decide +kernel
theorem dL_law_896 : decode code 896 = .ok (.iload 4, 2) := by decide +kernel
theorem dL_law_898 : decode code 898 = .ok (.iconst 5, 1) := by decide +kernel
theorem dL_law_899 : decode code 899 = .ok (.iadd, 1) := by decide +kernel
theorem dL_law_900 : decode code 900 = .ok (.iaload, 1) := by decide +kernel
theorem dL_law_901 : decode code 901 = .ok (.aload_n 0, 1) := by decide +kernel
theorem dL_law_902 : decode code 902 = .ok (.iload 4, 2) := by decide +kernel
theorem dL_law_904 : decode code 904 = .ok (.bipush 6, 2) := by decide +kernel
theorem dL_law_906 : decode code 906 = .ok (.iadd, 1) := by decide +kernel
theorem dL_law_907 : decode code 907 = .ok (.iaload, 1) := by decide +kernel
theorem dL_law_908 : decode code 908 = .ok (.invokevirtual 134, 3) := by decide +kernel
theorem dL_law_911 : decode code 911 = .ok (.istore 6, 2) := by decide +kernel
theorem dL_law_913 : decode code 913 = .ok (.goto 71, 3) := by decide +kernel
theorem dL_law_916 : decode code 916 = .ok (.aload_n 1, 1) := by decide +kernel
theorem dL_law_917 : decode code 917 = .ok (.aload_n 0, 1) := by decide +kernel
theorem dL_law_918 : decode code 918 = .ok (.iload 4, 2) := by decide +kernel
theorem dL_law_920 : decode code 920 = .ok (.iconst 1, 1) := by decide +kernel
theorem dL_law_921 : decode code 921 = .ok (.iadd, 1) := by decide +kernel
theorem dL_law_922 : decode code 922 = .ok (.iaload, 1) := by decide +kernel
theorem dL_law_923 : decode code 923 = .ok (.aload_n 0, 1) := by decide +kernel
theorem dL_law_924 : decode code 924 = .ok (.iload 4, 2) := by decide +kernel
theorem dL_law_926 : decode code 926 = .ok (.iconst 2, 1) := by decide +kernel
theorem dL_law_927 : decode code 927 = .ok (.iadd, 1) := by decide +kernel
theorem dL_law_928 : decode code 928 = .ok (.iaload, 1) := by decide +kernel
theorem dL_law_929 : decode code 929 = .ok (.aload_n 3, 1) := by decide +kernel
theorem dL_law_930 : decode code 930 = .ok (.invokestatic 135, 3) := by decide +kernel
theorem dL_law_933 : decode code 933 = .ok (.istore 5, 2) := by decide +kernel
theorem dL_law_935 : decode code 935 = .ok (.aload_n 2, 1) := by decide +kernel
theorem dL_law_936 : decode code 936 = .ok (.aload_n 0, 1) := by decide +kernel
theorem dL_law_937 : decode code 937 = .ok (.iload 4, 2) := by decide +kernel
theorem dL_law_939 : decode code 939 = .ok (.iconst 1, 1) := by decide +kernel
theorem dL_law_940 : decode code 940 = .ok (.iadd, 1) := by decide +kernel
theorem dL_law_941 : decode code 941 = .ok (.iaload, 1) := by decide +kernel
theorem dL_law_942 : decode code 942 = .ok (.aload_n 0, 1) := by decide +kernel
theorem dL_law_943 : decode code 943 = .ok (.iload 4, 2) := by decide +kernel
theorem dL_law_945 : decode code 945 = .ok (.iconst 2, 1) := by decide +kernel
theorem dL_law_946 : decode code 946 = .ok (.iadd, 1) := by decide +kernel
theorem dL_law_947 : decode code 947 = .ok (.iaload, 1) := by decide +kernel
theorem dL_law_948 : decode code 948 = .ok (.invokevirtual 137, 3) := by decide +kernel
theorem dL_law_951 : decode code 951 = .ok (.istore 6, 2) := by decide +kernel
theorem dL_law_953 : decode code 953 = .ok (.goto 31, 3) := by decide +kernel
theorem dL_law_956 : decode code 956 = .ok (.aload_n 1, 1) := by decide +kernel
theorem dL_law_957 : decode code 957 = .ok (.aload_n 0, 1) := by decide +kernel
theorem dL_law_958 : decode code 958 = .ok (.iload 4, 2) := by decide +kernel
theorem dL_law_960 : decode code 960 = .ok (.iconst 1, 1) := by decide +kernel
theorem dL_law_961 : decode code 961 = .ok (.iadd, 1) := by decide +kernel
theorem dL_law_962 : decode code 962 = .ok (.iaload, 1) := by decide +kernel
theorem dL_law_963 : decode code 963 = .ok (.aload_n 3, 1) := by decide +kernel
theorem dL_law_964 : decode code 964 = .ok (.invokestatic 138, 3) := by decide +kernel
theorem dL_law_967 : decode code 967 = .ok (.istore 5, 2) := by decide +kernel
theorem dL_law_969 : decode code 969 = .ok (.aload_n 2, 1) := by decide +kernel
theorem dL_law_970 : decode code 970 = .ok (.aload_n 0, 1) := by decide +kernel
theorem dL_law_971 : decode code 971 = .ok (.iload 4, 2) := by decide +kernel
theorem dL_law_973 : decode code 973 = .ok (.iconst 1, 1) := by decide +kernel
theorem dL_law_974 : decode code 974 = .ok (.iadd, 1) := by decide +kernel
theorem dL_law_975 : decode code 975 = .ok (.iaload, 1) := by decide +kernel
theorem dL_law_976 : decode code 976 = .ok (.invokevirtual 141, 3) := by decide +kernel
theorem dL_law_979 : decode code 979 = .ok (.istore 6, 2) := by decide +kernel
theorem dL_law_981 : decode code 981 = .ok (.goto 3, 3) := by decide +kernel
theorem dL_law_984 : decode code 984 = .ok (.iinc 4 7, 3) := by decide +kernel
theorem dL_law_987 : decode code 987 = .ok (.goto (-964), 3) := by decide +kernel
theorem dL_law_990 : decode code 990 = .ok (.iconst 1, 1) := by decide +kernel
theorem dL_law_991 : decode code 991 = .ok (.ireturn, 1) := by decide +kernel
