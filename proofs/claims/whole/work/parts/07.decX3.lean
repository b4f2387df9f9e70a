theorem dX3_init_0 : decode cX3_init 0 = .ok (.aload_n 0, 1) := by decide +kernel
theorem dX3_init_1 : decode cX3_init 1 = .ok (.invokespecial 1, 3) := by decide +kernel
theorem dX3_init_4 : decode cX3_init 4 = .ok (.aload_n 0, 1) := by decide +kernel
theorem dX3_init_5 : decode cX3_init 5 = .ok (.new 7, 3) := by decide +kernel
theorem dX3_init_8 : decode cX3_init 8 = .ok (.dup, 1) := by decide +kernel
theorem dX3_init_9 : decode cX3_init 9 = .ok (.invokespecial 9, 3) := by decide +kernel
theorem dX3_init_12 : decode cX3_init 12 = .ok (.putfield 10, 3) := by decide +kernel
theorem dX3_init_15 : decode cX3_init 15 = .ok (.aload_n 0, 1) := by decide +kernel
theorem dX3_init_16 : decode cX3_init 16 = .ok (.iconst 2, 1) := by decide +kernel
theorem dX3_init_17 : decode cX3_init 17 = .ok (.anewarray 7, 3) := by decide +kernel
theorem dX3_init_20 : decode cX3_init 20 = .ok (.dup, 1) := by decide +kernel
theorem dX3_init_21 : decode cX3_init 21 = .ok (.iconst 0, 1) := by decide +kernel
theorem dX3_init_22 : decode cX3_init 22 = .ok (.new 7, 3) := by decide +kernel
theorem dX3_init_25 : decode cX3_init 25 = .ok (.dup, 1) := by decide +kernel
theorem dX3_init_26 : decode cX3_init 26 = .ok (.invokespecial 9, 3) := by decide +kernel
theorem dX3_init_29 : decode cX3_init 29 = .ok (.aastore, 1) := by decide +kernel
theorem dX3_init_30 : decode cX3_init 30 = .ok (.dup, 1) := by decide +kernel
theorem dX3_init_31 : decode cX3_init 31 = .ok (.iconst 1, 1) := by decide +kernel
theorem dX3_init_32 : decode cX3_init 32 = .ok (.new 7, 3) := by decide +kernel
theorem dX3_init_35 : decode cX3_init 35 = .ok (.dup, 1) := by decide +kernel
theorem dX3_init_36 : decode cX3_init 36 = .ok (.invokespecial 9, 3) := by decide +kernel
theorem dX3_init_39 : decode cX3_init 39 = .ok (.aastore, 1) := by decide +kernel
theorem dX3_init_40 : decode cX3_init 40 = .ok (.putfield 16, 3) := by decide +kernel
theorem dX3_init_43 : decode cX3_init 43 = .ok (.aload_n 0, 1) := by decide +kernel
theorem dX3_init_44 : decode cX3_init 44 = .ok (.iconst 2, 1) := by decide +kernel
theorem dX3_init_45 : decode cX3_init 45 = .ok (.newarray .boolean, 2) := by decide +kernel
theorem dX3_init_47 : decode cX3_init 47 = .ok (.putfield 20, 3) := by decide +kernel
theorem dX3_init_50 : decode cX3_init 50 = .ok (.return_, 1) := by decide +kernel
theorem dX3_rule_0 : decode cX3_rule 0 = .ok (.iload_n 1, 1) := by decide +kernel
theorem dX3_rule_1 : decode cX3_rule 1 = .ok (.bipush 6, 2) := by decide +kernel
theorem dX3_rule_3 : decode cX3_rule 3 = .ok (.invokestatic 24, 3) := by decide +kernel
theorem dX3_rule_6 : decode cX3_rule 6 = .ok (.ifCond .eq 21, 3) := by decide +kernel
theorem dX3_rule_9 : decode cX3_rule 9 = .ok (.iload_n 2, 1) := by decide +kernel
theorem dX3_rule_10 : decode cX3_rule 10 = .ok (.getstatic 28, 3) := by decide +kernel
theorem dX3_rule_13 : decode cX3_rule 13 = .ok (.iload_n 1, 1) := by decide +kernel
theorem dX3_rule_14 : decode cX3_rule 14 = .ok (.iaload, 1) := by decide +kernel
theorem dX3_rule_15 : decode cX3_rule 15 = .ok (.if_icmp .lt 12, 3) := by decide +kernel
theorem dX3_rule_18 : decode cX3_rule 18 = .ok (.iload_n 2, 1) := by decide +kernel
theorem dX3_rule_19 : decode cX3_rule 19 = .ok (.getstatic 32, 3) := by decide +kernel
theorem dX3_rule_22 : decode cX3_rule 22 = .ok (.iload_n 1, 1) := by decide +kernel
theorem dX3_rule_23 : decode cX3_rule 23 = .ok (.iaload, 1) := by decide +kernel
theorem dX3_rule_24 : decode cX3_rule 24 = .ok (.if_icmp .le 6, 3) := by decide +kernel
theorem dX3_rule_27 : decode cX3_rule 27 = .ok (.bipush (-2), 2) := by decide +kernel
theorem dX3_rule_29 : decode cX3_rule 29 = .ok (.ireturn, 1) := by decide +kernel
theorem dX3_rule_30 : decode cX3_rule 30 = .ok (.aload_n 0, 1) := by decide +kernel
theorem dX3_rule_31 : decode cX3_rule 31 = .ok (.getfield 10, 3) := by decide +kernel
theorem dX3_rule_34 : decode cX3_rule 34 = .ok (.iload_n 1, 1) := by decide +kernel
theorem dX3_rule_35 : decode cX3_rule 35 = .ok (.iload_n 2, 1) := by decide +kernel
theorem dX3_rule_36 : decode cX3_rule 36 = .ok (.invokevirtual 35, 3) := by decide +kernel
theorem dX3_rule_39 : decode cX3_rule 39 = .ok (.ireturn, 1) := by decide +kernel
theorem dX3_out_0 : decode cX3_out 0 = .ok (.iload_n 1, 1) := by decide +kernel
theorem dX3_out_1 : decode cX3_out 1 = .ok (.iconst 4, 1) := by decide +kernel
theorem dX3_out_2 : decode cX3_out 2 = .ok (.invokestatic 24, 3) := by decide +kernel
theorem dX3_out_5 : decode cX3_out 5 = .ok (.ifCond .ne 5, 3) := by decide +kernel
theorem dX3_out_8 : decode cX3_out 8 = .ok (.iconst (-1), 1) := by decide +kernel
theorem dX3_out_9 : decode cX3_out 9 = .ok (.ireturn, 1) := by decide +kernel
theorem dX3_out_10 : decode cX3_out 10 = .ok (.iload_n 2, 1) := by decide +kernel
theorem dX3_out_11 : decode cX3_out 11 = .ok (.bipush 32, 2) := by decide +kernel
theorem dX3_out_13 : decode cX3_out 13 = .ok (.invokestatic 24, 3) := by decide +kernel
theorem dX3_out_16 : decode cX3_out 16 = .ok (.ifCond .eq 21, 3) := by decide +kernel
theorem dX3_out_19 : decode cX3_out 19 = .ok (.iload_n 3, 1) := by decide +kernel
theorem dX3_out_20 : decode cX3_out 20 = .ok (.iload 4, 2) := by decide +kernel
theorem dX3_out_22 : decode cX3_out 22 = .ok (.invokestatic 39, 3) := by decide +kernel
theorem dX3_out_25 : decode cX3_out 25 = .ok (.ifCond .eq 12, 3) := by decide +kernel
theorem dX3_out_28 : decode cX3_out 28 = .ok (.iload 5, 2) := by decide +kernel
theorem dX3_out_30 : decode cX3_out 30 = .ok (.iconst 3, 1) := by decide +kernel
theorem dX3_out_31 : decode cX3_out 31 = .ok (.invokestatic 24, 3) := by decide +kernel
theorem dX3_out_34 : decode cX3_out 34 = .ok (.ifCond .ne 6, 3) := by decide +kernel
theorem dX3_out_37 : decode cX3_out 37 = .ok (.bipush (-2), 2) := by decide +kernel
theorem dX3_out_39 : decode cX3_out 39 = .ok (.ireturn, 1) := by decide +kernel
theorem dX3_out_40 : decode cX3_out 40 = .ok (.aload_n 0, 1) := by decide +kernel
theorem dX3_out_41 : decode cX3_out 41 = .ok (.getfield 10, 3) := by decide +kernel
theorem dX3_out_44 : decode cX3_out 44 = .ok (.iload_n 1, 1) := by decide +kernel
theorem dX3_out_45 : decode cX3_out 45 = .ok (.iload_n 2, 1) := by decide +kernel
theorem dX3_out_46 : decode cX3_out 46 = .ok (.iload_n 3, 1) := by decide +kernel
theorem dX3_out_47 : decode cX3_out 47 = .ok (.iload 4, 2) := by decide +kernel
theorem dX3_out_49 : decode cX3_out 49 = .ok (.iload 5, 2) := by decide +kernel
theorem dX3_out_51 : decode cX3_out 51 = .ok (.invokevirtual 42, 3) := by decide +kernel
theorem dX3_out_54 : decode cX3_out 54 = .ok (.ireturn, 1) := by decide +kernel
theorem dX3_in_0 : decode cX3_in 0 = .ok (.iload_n 1, 1) := by decide +kernel
theorem dX3_in_1 : decode cX3_in 1 = .ok (.iload_n 2, 1) := by decide +kernel
theorem dX3_in_2 : decode cX3_in 2 = .ok (.invokestatic 39, 3) := by decide +kernel
theorem dX3_in_5 : decode cX3_in 5 = .ok (.ifCond .ne 6, 3) := by decide +kernel
theorem dX3_in_8 : decode cX3_in 8 = .ok (.bipush (-2), 2) := by decide +kernel
theorem dX3_in_10 : decode cX3_in 10 = .ok (.ireturn, 1) := by decide +kernel
theorem dX3_in_11 : decode cX3_in 11 = .ok (.iload_n 3, 1) := by decide +kernel
theorem dX3_in_12 : decode cX3_in 12 = .ok (.bipush 16, 2) := by decide +kernel
theorem dX3_in_14 : decode cX3_in 14 = .ok (.invokestatic 24, 3) := by decide +kernel
theorem dX3_in_17 : decode cX3_in 17 = .ok (.ifCond .ne 5, 3) := by decide +kernel
theorem dX3_in_20 : decode cX3_in 20 = .ok (.iconst (-1), 1) := by decide +kernel
theorem dX3_in_21 : decode cX3_in 21 = .ok (.ireturn, 1) := by decide +kernel
theorem dX3_in_22 : decode cX3_in 22 = .ok (.iload 4, 2) := by decide +kernel
theorem dX3_in_24 : decode cX3_in 24 = .ok (.iconst 3, 1) := by decide +kernel
theorem dX3_in_25 : decode cX3_in 25 = .ok (.invokestatic 24, 3) := by decide +kernel
theorem dX3_in_28 : decode cX3_in 28 = .ok (.ifCond .ne 6, 3) := by decide +kernel
theorem dX3_in_31 : decode cX3_in 31 = .ok (.bipush (-2), 2) := by decide +kernel
theorem dX3_in_33 : decode cX3_in 33 = .ok (.ireturn, 1) := by decide +kernel
theorem dX3_in_34 : decode cX3_in 34 = .ok (.aload_n 0, 1) := by decide +kernel
theorem dX3_in_35 : decode cX3_in 35 = .ok (.getfield 10, 3) := by decide +kernel
theorem dX3_in_38 : decode cX3_in 38 = .ok (.iload_n 1, 1) := by decide +kernel
theorem dX3_in_39 : decode cX3_in 39 = .ok (.iload_n 2, 1) := by decide +kernel
theorem dX3_in_40 : decode cX3_in 40 = .ok (.iload_n 3, 1) := by decide +kernel
theorem dX3_in_41 : decode cX3_in 41 = .ok (.iload 4, 2) := by decide +kernel
theorem dX3_in_43 : decode cX3_in 43 = .ok (.invokevirtual 46, 3) := by decide +kernel
theorem dX3_in_46 : decode cX3_in 46 = .ok (.ireturn, 1) := by decide +kernel
theorem dX3_turn_0 : decode cX3_turn 0 = .ok (.iload_n 1, 1) := by decide +kernel
theorem dX3_turn_1 : decode cX3_turn 1 = .ok (.iconst 4, 1) := by decide +kernel
theorem dX3_turn_2 : decode cX3_turn 2 = .ok (.invokestatic 24, 3) := by decide +kernel
theorem dX3_turn_5 : decode cX3_turn 5 = .ok (.ifCond .ne 5, 3) := by decide +kernel
theorem dX3_turn_8 : decode cX3_turn 8 = .ok (.iconst (-1), 1) := by decide +kernel
theorem dX3_turn_9 : decode cX3_turn 9 = .ok (.ireturn, 1) := by decide +kernel
theorem dX3_turn_10 : decode cX3_turn 10 = .ok (.iload_n 2, 1) := by decide +kernel
theorem dX3_turn_11 : decode cX3_turn 11 = .ok (.bipush 32, 2) := by decide +kernel
theorem dX3_turn_13 : decode cX3_turn 13 = .ok (.invokestatic 24, 3) := by decide +kernel
theorem dX3_turn_16 : decode cX3_turn 16 = .ok (.ifCond .ne 6, 3) := by decide +kernel
theorem dX3_turn_19 : decode cX3_turn 19 = .ok (.bipush (-2), 2) := by decide +kernel
theorem dX3_turn_21 : decode cX3_turn 21 = .ok (.ireturn, 1) := by decide +kernel
theorem dX3_turn_22 : decode cX3_turn 22 = .ok (.iload_n 3, 1) := by decide +kernel
theorem dX3_turn_23 : decode cX3_turn 23 = .ok (.bipush 16, 2) := by decide +kernel
theorem dX3_turn_25 : decode cX3_turn 25 = .ok (.invokestatic 24, 3) := by decide +kernel
theorem dX3_turn_28 : decode cX3_turn 28 = .ok (.ifCond .ne 5, 3) := by decide +kernel
theorem dX3_turn_31 : decode cX3_turn 31 = .ok (.iconst (-1), 1) := by decide +kernel
theorem dX3_turn_32 : decode cX3_turn 32 = .ok (.ireturn, 1) := by decide +kernel
theorem dX3_turn_33 : decode cX3_turn 33 = .ok (.iload 4, 2) := by decide +kernel
theorem dX3_turn_35 : decode cX3_turn 35 = .ok (.iconst 3, 1) := by decide +kernel
theorem dX3_turn_36 : decode cX3_turn 36 = .ok (.invokestatic 24, 3) := by decide +kernel
theorem dX3_turn_39 : decode cX3_turn 39 = .ok (.ifCond .ne 6, 3) := by decide +kernel
theorem dX3_turn_42 : decode cX3_turn 42 = .ok (.bipush (-2), 2) := by decide +kernel
theorem dX3_turn_44 : decode cX3_turn 44 = .ok (.ireturn, 1) := by decide +kernel
theorem dX3_turn_45 : decode cX3_turn 45 = .ok (.aload_n 0, 1) := by decide +kernel
theorem dX3_turn_46 : decode cX3_turn 46 = .ok (.getfield 10, 3) := by decide +kernel
theorem dX3_turn_49 : decode cX3_turn 49 = .ok (.iload_n 1, 1) := by decide +kernel
theorem dX3_turn_50 : decode cX3_turn 50 = .ok (.iload_n 2, 1) := by decide +kernel
theorem dX3_turn_51 : decode cX3_turn 51 = .ok (.iconst 4, 1) := by decide +kernel
theorem dX3_turn_52 : decode cX3_turn 52 = .ok (.iload_n 3, 1) := by decide +kernel
theorem dX3_turn_53 : decode cX3_turn 53 = .ok (.iload 4, 2) := by decide +kernel
theorem dX3_turn_55 : decode cX3_turn 55 = .ok (.invokevirtual 42, 3) := by decide +kernel
theorem dX3_turn_58 : decode cX3_turn 58 = .ok (.istore 5, 2) := by decide +kernel
theorem dX3_turn_60 : decode cX3_turn 60 = .ok (.iload 5, 2) := by decide +kernel
theorem dX3_turn_62 : decode cX3_turn 62 = .ok (.bipush (-5), 2) := by decide +kernel
theorem dX3_turn_64 : decode cX3_turn 64 = .ok (.if_icmp .ne 8, 3) := by decide +kernel
theorem dX3_turn_67 : decode cX3_turn 67 = .ok (.bipush (-5), 2) := by decide +kernel
theorem dX3_turn_69 : decode cX3_turn 69 = .ok (.goto 16, 3) := by decide +kernel
theorem dX3_turn_72 : decode cX3_turn 72 = .ok (.aload_n 0, 1) := by decide +kernel
theorem dX3_turn_73 : decode cX3_turn 73 = .ok (.getfield 10, 3) := by decide +kernel
theorem dX3_turn_76 : decode cX3_turn 76 = .ok (.iconst 4, 1) := by decide +kernel
theorem dX3_turn_77 : decode cX3_turn 77 = .ok (.iload 5, 2) := by decide +kernel
theorem dX3_turn_79 : decode cX3_turn 79 = .ok (.iload_n 3, 1) := by decide +kernel
theorem dX3_turn_80 : decode cX3_turn 80 = .ok (.iload 4, 2) := by decide +kernel
theorem dX3_turn_82 : decode cX3_turn 82 = .ok (.invokevirtual 46, 3) := by decide +kernel
theorem dX3_turn_85 : decode cX3_turn 85 = .ok (.ireturn, 1) := by decide +kernel
theorem dX3_part_0 : decode cX3_part 0 = .ok (.iload_n 1, 1) := by decide +kernel
theorem dX3_part_1 : decode cX3_part 1 = .ok (.iconst 4, 1) := by decide +kernel
theorem dX3_part_2 : decode cX3_part 2 = .ok (.invokestatic 24, 3) := by decide +kernel
theorem dX3_part_5 : decode cX3_part 5 = .ok (.ifCond .eq 21, 3) := by decide +kernel
theorem dX3_part_8 : decode cX3_part 8 = .ok (.iload_n 2, 1) := by decide +kernel
theorem dX3_part_9 : decode cX3_part 9 = .ok (.bipush 8, 2) := by decide +kernel
theorem dX3_part_11 : decode cX3_part 11 = .ok (.invokestatic 24, 3) := by decide +kernel
theorem dX3_part_14 : decode cX3_part 14 = .ok (.ifCond .eq 12, 3) := by decide +kernel
theorem dX3_part_17 : decode cX3_part 17 = .ok (.iload_n 3, 1) := by decide +kernel
theorem dX3_part_18 : decode cX3_part 18 = .ok (.bipush 8, 2) := by decide +kernel
theorem dX3_part_20 : decode cX3_part 20 = .ok (.invokestatic 24, 3) := by decide +kernel
theorem dX3_part_23 : decode cX3_part 23 = .ok (.ifCond .ne 6, 3) := by decide +kernel
theorem dX3_part_26 : decode cX3_part 26 = .ok (.bipush (-2), 2) := by decide +kernel
theorem dX3_part_28 : decode cX3_part 28 = .ok (.ireturn, 1) := by decide +kernel
theorem dX3_part_29 : decode cX3_part 29 = .ok (.iload_n 1, 1) := by decide +kernel
theorem dX3_part_30 : decode cX3_part 30 = .ok (.bipush 8, 2) := by decide +kernel
theorem dX3_part_32 : decode cX3_part 32 = .ok (.imul, 1) := by decide +kernel
theorem dX3_part_33 : decode cX3_part 33 = .ok (.iload_n 2, 1) := by decide +kernel
theorem dX3_part_34 : decode cX3_part 34 = .ok (.iadd, 1) := by decide +kernel
theorem dX3_part_35 : decode cX3_part 35 = .ok (.istore 6, 2) := by decide +kernel
theorem dX3_part_37 : decode cX3_part 37 = .ok (.iload_n 3, 1) := by decide +kernel
theorem dX3_part_38 : decode cX3_part 38 = .ok (.ifCond .eq 14, 3) := by decide +kernel
theorem dX3_part_41 : decode cX3_part 41 = .ok (.aload_n 0, 1) := by decide +kernel
theorem dX3_part_42 : decode cX3_part 42 = .ok (.getfield 10, 3) := by decide +kernel
theorem dX3_part_45 : decode cX3_part 45 = .ok (.iload 6, 2) := by decide +kernel
theorem dX3_part_47 : decode cX3_part 47 = .ok (.iload_n 3, 1) := by decide +kernel
theorem dX3_part_48 : decode cX3_part 48 = .ok (.invokevirtual 50, 3) := by decide +kernel
theorem dX3_part_51 : decode cX3_part 51 = .ok (.ireturn, 1) := by decide +kernel
theorem dX3_part_52 : decode cX3_part 52 = .ok (.iload_n 1, 1) := by decide +kernel
theorem dX3_part_53 : decode cX3_part 53 = .ok (.iload 4, 2) := by decide +kernel
theorem dX3_part_55 : decode cX3_part 55 = .ok (.invokestatic 39, 3) := by decide +kernel
theorem dX3_part_58 : decode cX3_part 58 = .ok (.ifCond .ne 6, 3) := by decide +kernel
theorem dX3_part_61 : decode cX3_part 61 = .ok (.bipush (-2), 2) := by decide +kernel
theorem dX3_part_63 : decode cX3_part 63 = .ok (.ireturn, 1) := by decide +kernel
theorem dX3_part_64 : decode cX3_part 64 = .ok (.iload 5, 2) := by decide +kernel
theorem dX3_part_66 : decode cX3_part 66 = .ok (.bipush 16, 2) := by decide +kernel
theorem dX3_part_68 : decode cX3_part 68 = .ok (.invokestatic 24, 3) := by decide +kernel
theorem dX3_part_71 : decode cX3_part 71 = .ok (.ifCond .ne 5, 3) := by decide +kernel
theorem dX3_part_74 : decode cX3_part 74 = .ok (.iconst (-1), 1) := by decide +kernel
theorem dX3_part_75 : decode cX3_part 75 = .ok (.ireturn, 1) := by decide +kernel
theorem dX3_part_76 : decode cX3_part 76 = .ok (.aload_n 0, 1) := by decide +kernel
theorem dX3_part_77 : decode cX3_part 77 = .ok (.getfield 10, 3) := by decide +kernel
theorem dX3_part_80 : decode cX3_part 80 = .ok (.iload 6, 2) := by decide +kernel
theorem dX3_part_82 : decode cX3_part 82 = .ok (.iload_n 1, 1) := by decide +kernel
theorem dX3_part_83 : decode cX3_part 83 = .ok (.iload 4, 2) := by decide +kernel
theorem dX3_part_85 : decode cX3_part 85 = .ok (.iload 5, 2) := by decide +kernel
theorem dX3_part_87 : decode cX3_part 87 = .ok (.invokevirtual 53, 3) := by decide +kernel
theorem dX3_part_90 : decode cX3_part 90 = .ok (.ireturn, 1) := by decide +kernel
theorem dX3_tick_0 : decode cX3_tick 0 = .ok (.iload_n 1, 1) := by decide +kernel
theorem dX3_tick_1 : decode cX3_tick 1 = .ok (.iconst 1, 1) := by decide +kernel
theorem dX3_tick_2 : decode cX3_tick 2 = .ok (.if_icmp .lt 9, 3) := by decide +kernel
theorem dX3_tick_5 : decode cX3_tick 5 = .ok (.iload_n 1, 1) := by decide +kernel
theorem dX3_tick_6 : decode cX3_tick 6 = .ok (.bipush 100, 2) := by decide +kernel
theorem dX3_tick_8 : decode cX3_tick 8 = .ok (.if_icmp .le 6, 3) := by decide +kernel
theorem dX3_tick_11 : decode cX3_tick 11 = .ok (.bipush (-2), 2) := by decide +kernel
theorem dX3_tick_13 : decode cX3_tick 13 = .ok (.ireturn, 1) := by decide +kernel
theorem dX3_tick_14 : decode cX3_tick 14 = .ok (.aload_n 0, 1) := by decide +kernel
theorem dX3_tick_15 : decode cX3_tick 15 = .ok (.getfield 10, 3) := by decide +kernel
theorem dX3_tick_18 : decode cX3_tick 18 = .ok (.iload_n 1, 1) := by decide +kernel
theorem dX3_tick_19 : decode cX3_tick 19 = .ok (.invokevirtual 56, 3) := by decide +kernel
theorem dX3_tick_22 : decode cX3_tick 22 = .ok (.ireturn, 1) := by decide +kernel
theorem dX3_drop_0 : decode cX3_drop 0 = .ok (.iload_n 1, 1) := by decide +kernel
theorem dX3_drop_1 : decode cX3_drop 1 = .ok (.iconst 4, 1) := by decide +kernel
theorem dX3_drop_2 : decode cX3_drop 2 = .ok (.invokestatic 24, 3) := by decide +kernel
theorem dX3_drop_5 : decode cX3_drop 5 = .ok (.ifCond .ne 5, 3) := by decide +kernel
theorem dX3_drop_8 : decode cX3_drop 8 = .ok (.iconst (-1), 1) := by decide +kernel
theorem dX3_drop_9 : decode cX3_drop 9 = .ok (.ireturn, 1) := by decide +kernel
theorem dX3_drop_10 : decode cX3_drop 10 = .ok (.aload_n 0, 1) := by decide +kernel
theorem dX3_drop_11 : decode cX3_drop 11 = .ok (.getfield 10, 3) := by decide +kernel
theorem dX3_drop_14 : decode cX3_drop 14 = .ok (.iload_n 1, 1) := by decide +kernel
theorem dX3_drop_15 : decode cX3_drop 15 = .ok (.invokevirtual 60, 3) := by decide +kernel
theorem dX3_drop_18 : decode cX3_drop 18 = .ok (.ireturn, 1) := by decide +kernel
theorem dX3_of_0 : decode cX3_of 0 = .ok (.iload_n 1, 1) := by decide +kernel
theorem dX3_of_1 : decode cX3_of 1 = .ok (.bipush 16, 2) := by decide +kernel
theorem dX3_of_3 : decode cX3_of 3 = .ok (.invokestatic 24, 3) := by decide +kernel
theorem dX3_of_6 : decode cX3_of 6 = .ok (.ifCond .ne 5, 3) := by decide +kernel
theorem dX3_of_9 : decode cX3_of 9 = .ok (.iconst (-1), 1) := by decide +kernel
theorem dX3_of_10 : decode cX3_of 10 = .ok (.ireturn, 1) := by decide +kernel
theorem dX3_of_11 : decode cX3_of 11 = .ok (.iload_n 2, 1) := by decide +kernel
theorem dX3_of_12 : decode cX3_of 12 = .ok (.bipush 6, 2) := by decide +kernel
theorem dX3_of_14 : decode cX3_of 14 = .ok (.invokestatic 24, 3) := by decide +kernel
theorem dX3_of_17 : decode cX3_of 17 = .ok (.ifCond .ne 6, 3) := by decide +kernel
theorem dX3_of_20 : decode cX3_of 20 = .ok (.bipush (-2), 2) := by decide +kernel
theorem dX3_of_22 : decode cX3_of 22 = .ok (.ireturn, 1) := by decide +kernel
theorem dX3_of_23 : decode cX3_of 23 = .ok (.aload_n 0, 1) := by decide +kernel
theorem dX3_of_24 : decode cX3_of 24 = .ok (.getfield 10, 3) := by decide +kernel
theorem dX3_of_27 : decode cX3_of 27 = .ok (.getfield 63, 3) := by decide +kernel
theorem dX3_of_30 : decode cX3_of 30 = .ok (.iload_n 1, 1) := by decide +kernel
theorem dX3_of_31 : decode cX3_of 31 = .ok (.invokevirtual 67, 3) := by decide +kernel
theorem dX3_of_34 : decode cX3_of 34 = .ok (.ifCond .eq 15, 3) := by decide +kernel
theorem dX3_of_37 : decode cX3_of 37 = .ok (.aload_n 0, 1) := by decide +kernel
theorem dX3_of_38 : decode cX3_of 38 = .ok (.getfield 10, 3) := by decide +kernel
theorem dX3_of_41 : decode cX3_of 41 = .ok (.iload_n 1, 1) := by decide +kernel
theorem dX3_of_42 : decode cX3_of 42 = .ok (.iload_n 2, 1) := by decide +kernel
theorem dX3_of_43 : decode cX3_of 43 = .ok (.invokevirtual 73, 3) := by decide +kernel
theorem dX3_of_46 : decode cX3_of 46 = .ok (.goto 5, 3) := by decide +kernel
theorem dX3_of_49 : decode cX3_of 49 = .ok (.bipush (-6), 2) := by decide +kernel
theorem dX3_of_51 : decode cX3_of 51 = .ok (.ireturn, 1) := by decide +kernel
theorem dX3_sent_0 : decode cX3_sent 0 = .ok (.iload_n 1, 1) := by decide +kernel
theorem dX3_sent_1 : decode cX3_sent 1 = .ok (.bipush 16, 2) := by decide +kernel
theorem dX3_sent_3 : decode cX3_sent 3 = .ok (.invokestatic 24, 3) := by decide +kernel
theorem dX3_sent_6 : decode cX3_sent 6 = .ok (.ifCond .ne 5, 3) := by decide +kernel
theorem dX3_sent_9 : decode cX3_sent 9 = .ok (.iconst (-1), 1) := by decide +kernel
theorem dX3_sent_10 : decode cX3_sent 10 = .ok (.ireturn, 1) := by decide +kernel
theorem dX3_sent_11 : decode cX3_sent 11 = .ok (.iload_n 2, 1) := by decide +kernel
theorem dX3_sent_12 : decode cX3_sent 12 = .ok (.iload_n 3, 1) := by decide +kernel
theorem dX3_sent_13 : decode cX3_sent 13 = .ok (.invokestatic 39, 3) := by decide +kernel
theorem dX3_sent_16 : decode cX3_sent 16 = .ok (.ifCond .ne 6, 3) := by decide +kernel
theorem dX3_sent_19 : decode cX3_sent 19 = .ok (.bipush (-2), 2) := by decide +kernel
theorem dX3_sent_21 : decode cX3_sent 21 = .ok (.ireturn, 1) := by decide +kernel
theorem dX3_sent_22 : decode cX3_sent 22 = .ok (.aload_n 0, 1) := by decide +kernel
theorem dX3_sent_23 : decode cX3_sent 23 = .ok (.getfield 10, 3) := by decide +kernel
theorem dX3_sent_26 : decode cX3_sent 26 = .ok (.getfield 63, 3) := by decide +kernel
theorem dX3_sent_29 : decode cX3_sent 29 = .ok (.iload_n 1, 1) := by decide +kernel
theorem dX3_sent_30 : decode cX3_sent 30 = .ok (.invokevirtual 67, 3) := by decide +kernel
theorem dX3_sent_33 : decode cX3_sent 33 = .ok (.ifCond .ne 6, 3) := by decide +kernel
theorem dX3_sent_36 : decode cX3_sent 36 = .ok (.bipush (-6), 2) := by decide +kernel
theorem dX3_sent_38 : decode cX3_sent 38 = .ok (.ireturn, 1) := by decide +kernel
theorem dX3_sent_39 : decode cX3_sent 39 = .ok (.aload_n 0, 1) := by decide +kernel
theorem dX3_sent_40 : decode cX3_sent 40 = .ok (.getfield 10, 3) := by decide +kernel
theorem dX3_sent_43 : decode cX3_sent 43 = .ok (.getfield 63, 3) := by decide +kernel
theorem dX3_sent_46 : decode cX3_sent 46 = .ok (.iload_n 1, 1) := by decide +kernel
theorem dX3_sent_47 : decode cX3_sent 47 = .ok (.iload_n 2, 1) := by decide +kernel
theorem dX3_sent_48 : decode cX3_sent 48 = .ok (.iload_n 3, 1) := by decide +kernel
theorem dX3_sent_49 : decode cX3_sent 49 = .ok (.invokevirtual 76, 3) := by decide +kernel
theorem dX3_sent_52 : decode cX3_sent 52 = .ok (.ifCond .eq 7, 3) := by decide +kernel
theorem dX3_sent_55 : decode cX3_sent 55 = .ok (.iconst 1, 1) := by decide +kernel
theorem dX3_sent_56 : decode cX3_sent 56 = .ok (.goto 4, 3) := by decide +kernel
theorem dX3_sent_59 : decode cX3_sent 59 = .ok (.iconst 0, 1) := by decide +kernel
theorem dX3_sent_60 : decode cX3_sent 60 = .ok (.ireturn, 1) := by decide +kernel
theorem dX3_find_0 : decode cX3_find 0 = .ok (.iload_n 1, 1) := by decide +kernel
theorem dX3_find_1 : decode cX3_find 1 = .ok (.iconst 4, 1) := by decide +kernel
theorem dX3_find_2 : decode cX3_find 2 = .ok (.invokestatic 24, 3) := by decide +kernel
theorem dX3_find_5 : decode cX3_find 5 = .ok (.ifCond .ne 5, 3) := by decide +kernel
theorem dX3_find_8 : decode cX3_find 8 = .ok (.iconst (-1), 1) := by decide +kernel
theorem dX3_find_9 : decode cX3_find 9 = .ok (.ireturn, 1) := by decide +kernel
theorem dX3_find_10 : decode cX3_find 10 = .ok (.iload_n 2, 1) := by decide +kernel
theorem dX3_find_11 : decode cX3_find 11 = .ok (.bipush 32, 2) := by decide +kernel
theorem dX3_find_13 : decode cX3_find 13 = .ok (.invokestatic 24, 3) := by decide +kernel
theorem dX3_find_16 : decode cX3_find 16 = .ok (.ifCond .eq 12, 3) := by decide +kernel
theorem dX3_find_19 : decode cX3_find 19 = .ok (.iload_n 3, 1) := by decide +kernel
theorem dX3_find_20 : decode cX3_find 20 = .ok (.iload 4, 2) := by decide +kernel
theorem dX3_find_22 : decode cX3_find 22 = .ok (.invokestatic 39, 3) := by decide +kernel
theorem dX3_find_25 : decode cX3_find 25 = .ok (.ifCond .ne 6, 3) := by decide +kernel
theorem dX3_find_28 : decode cX3_find 28 = .ok (.bipush (-2), 2) := by decide +kernel
theorem dX3_find_30 : decode cX3_find 30 = .ok (.ireturn, 1) := by decide +kernel
theorem dX3_find_31 : decode cX3_find 31 = .ok (.aload_n 0, 1) := by decide +kernel
theorem dX3_find_32 : decode cX3_find 32 = .ok (.getfield 10, 3) := by decide +kernel
theorem dX3_find_35 : decode cX3_find 35 = .ok (.getfield 63, 3) := by decide +kernel
theorem dX3_find_38 : decode cX3_find 38 = .ok (.iload_n 1, 1) := by decide +kernel
theorem dX3_find_39 : decode cX3_find 39 = .ok (.bipush 32, 2) := by decide +kernel
theorem dX3_find_41 : decode cX3_find 41 = .ok (.imul, 1) := by decide +kernel
theorem dX3_find_42 : decode cX3_find 42 = .ok (.iload_n 2, 1) := by decide +kernel
theorem dX3_find_43 : decode cX3_find 43 = .ok (.iadd, 1) := by decide +kernel
theorem dX3_find_44 : decode cX3_find 44 = .ok (.iload_n 3, 1) := by decide +kernel
theorem dX3_find_45 : decode cX3_find 45 = .ok (.iload 4, 2) := by decide +kernel
theorem dX3_find_47 : decode cX3_find 47 = .ok (.invokevirtual 80, 3) := by decide +kernel
theorem dX3_find_50 : decode cX3_find 50 = .ok (.ireturn, 1) := by decide +kernel
theorem dX3_next_0 : decode cX3_next 0 = .ok (.iload_n 1, 1) := by decide +kernel
theorem dX3_next_1 : decode cX3_next 1 = .ok (.iconst 4, 1) := by decide +kernel
theorem dX3_next_2 : decode cX3_next 2 = .ok (.invokestatic 24, 3) := by decide +kernel
theorem dX3_next_5 : decode cX3_next 5 = .ok (.ifCond .ne 5, 3) := by decide +kernel
theorem dX3_next_8 : decode cX3_next 8 = .ok (.iconst (-1), 1) := by decide +kernel
theorem dX3_next_9 : decode cX3_next 9 = .ok (.ireturn, 1) := by decide +kernel
theorem dX3_next_10 : decode cX3_next 10 = .ok (.iload_n 2, 1) := by decide +kernel
theorem dX3_next_11 : decode cX3_next 11 = .ok (.bipush 32, 2) := by decide +kernel
theorem dX3_next_13 : decode cX3_next 13 = .ok (.invokestatic 24, 3) := by decide +kernel
theorem dX3_next_16 : decode cX3_next 16 = .ok (.ifCond .ne 6, 3) := by decide +kernel
theorem dX3_next_19 : decode cX3_next 19 = .ok (.bipush (-2), 2) := by decide +kernel
theorem dX3_next_21 : decode cX3_next 21 = .ok (.ireturn, 1) := by decide +kernel
theorem dX3_next_22 : decode cX3_next 22 = .ok (.aload_n 0, 1) := by decide +kernel
theorem dX3_next_23 : decode cX3_next 23 = .ok (.getfield 10, 3) := by decide +kernel
theorem dX3_next_26 : decode cX3_next 26 = .ok (.iload_n 1, 1) := by decide +kernel
theorem dX3_next_27 : decode cX3_next 27 = .ok (.iload_n 2, 1) := by decide +kernel
theorem dX3_next_28 : decode cX3_next 28 = .ok (.invokevirtual 84, 3) := by decide +kernel
theorem dX3_next_31 : decode cX3_next 31 = .ok (.ireturn, 1) := by decide +kernel
theorem dX3_why_0 : decode cX3_why 0 = .ok (.iload_n 1, 1) := by decide +kernel
theorem dX3_why_1 : decode cX3_why 1 = .ok (.iload_n 2, 1) := by decide +kernel
theorem dX3_why_2 : decode cX3_why 2 = .ok (.invokestatic 39, 3) := by decide +kernel
theorem dX3_why_5 : decode cX3_why 5 = .ok (.ifCond .ne 6, 3) := by decide +kernel
theorem dX3_why_8 : decode cX3_why 8 = .ok (.bipush (-2), 2) := by decide +kernel
theorem dX3_why_10 : decode cX3_why 10 = .ok (.ireturn, 1) := by decide +kernel
theorem dX3_why_11 : decode cX3_why 11 = .ok (.iload_n 3, 1) := by decide +kernel
theorem dX3_why_12 : decode cX3_why 12 = .ok (.bipush 16, 2) := by decide +kernel
theorem dX3_why_14 : decode cX3_why 14 = .ok (.invokestatic 24, 3) := by decide +kernel
theorem dX3_why_17 : decode cX3_why 17 = .ok (.ifCond .ne 5, 3) := by decide +kernel
theorem dX3_why_20 : decode cX3_why 20 = .ok (.iconst (-1), 1) := by decide +kernel
theorem dX3_why_21 : decode cX3_why 21 = .ok (.ireturn, 1) := by decide +kernel
theorem dX3_why_22 : decode cX3_why 22 = .ok (.aload_n 0, 1) := by decide +kernel
theorem dX3_why_23 : decode cX3_why 23 = .ok (.getfield 10, 3) := by decide +kernel
theorem dX3_why_26 : decode cX3_why 26 = .ok (.iload_n 1, 1) := by decide +kernel
theorem dX3_why_27 : decode cX3_why 27 = .ok (.iload_n 2, 1) := by decide +kernel
theorem dX3_why_28 : decode cX3_why 28 = .ok (.iload_n 3, 1) := by decide +kernel
theorem dX3_why_29 : decode cX3_why 29 = .ok (.invokevirtual 87, 3) := by decide +kernel
theorem dX3_why_32 : decode cX3_why 32 = .ok (.ireturn, 1) := by decide +kernel
theorem dX3_block_0 : decode cX3_block 0 = .ok (.iload_n 1, 1) := by decide +kernel
theorem dX3_block_1 : decode cX3_block 1 = .ok (.iconst 4, 1) := by decide +kernel
theorem dX3_block_2 : decode cX3_block 2 = .ok (.invokestatic 24, 3) := by decide +kernel
theorem dX3_block_5 : decode cX3_block 5 = .ok (.ifCond .ne 5, 3) := by decide +kernel
theorem dX3_block_8 : decode cX3_block 8 = .ok (.iconst (-1), 1) := by decide +kernel
theorem dX3_block_9 : decode cX3_block 9 = .ok (.ireturn, 1) := by decide +kernel
theorem dX3_block_10 : decode cX3_block 10 = .ok (.aload_n 0, 1) := by decide +kernel
theorem dX3_block_11 : decode cX3_block 11 = .ok (.getfield 10, 3) := by decide +kernel
theorem dX3_block_14 : decode cX3_block 14 = .ok (.getfield 63, 3) := by decide +kernel
theorem dX3_block_17 : decode cX3_block 17 = .ok (.iload_n 1, 1) := by decide +kernel
theorem dX3_block_18 : decode cX3_block 18 = .ok (.invokevirtual 90, 3) := by decide +kernel
theorem dX3_block_21 : decode cX3_block 21 = .ok (.ireturn, 1) := by decide +kernel
theorem dX3_host_0 : decode cX3_host 0 = .ok (.iload_n 1, 1) := by decide +kernel
theorem dX3_host_1 : decode cX3_host 1 = .ok (.iconst 4, 1) := by decide +kernel
theorem dX3_host_2 : decode cX3_host 2 = .ok (.invokestatic 24, 3) := by decide +kernel
theorem dX3_host_5 : decode cX3_host 5 = .ok (.ifCond .ne 5, 3) := by decide +kernel
theorem dX3_host_8 : decode cX3_host 8 = .ok (.iconst (-1), 1) := by decide +kernel
theorem dX3_host_9 : decode cX3_host 9 = .ok (.ireturn, 1) := by decide +kernel
theorem dX3_host_10 : decode cX3_host 10 = .ok (.iload_n 2, 1) := by decide +kernel
theorem dX3_host_11 : decode cX3_host 11 = .ok (.iconst 4, 1) := by decide +kernel
theorem dX3_host_12 : decode cX3_host 12 = .ok (.invokestatic 24, 3) := by decide +kernel
theorem dX3_host_15 : decode cX3_host 15 = .ok (.ifCond .ne 6, 3) := by decide +kernel
theorem dX3_host_18 : decode cX3_host 18 = .ok (.bipush (-2), 2) := by decide +kernel
theorem dX3_host_20 : decode cX3_host 20 = .ok (.ireturn, 1) := by decide +kernel
theorem dX3_host_21 : decode cX3_host 21 = .ok (.aload_n 0, 1) := by decide +kernel
theorem dX3_host_22 : decode cX3_host 22 = .ok (.getfield 10, 3) := by decide +kernel
theorem dX3_host_25 : decode cX3_host 25 = .ok (.iload_n 1, 1) := by decide +kernel
theorem dX3_host_26 : decode cX3_host 26 = .ok (.iload_n 2, 1) := by decide +kernel
theorem dX3_host_27 : decode cX3_host 27 = .ok (.invokevirtual 93, 3) := by decide +kernel
theorem dX3_host_30 : decode cX3_host 30 = .ok (.ireturn, 1) := by decide +kernel
theorem dX3_soon_0 : decode cX3_soon 0 = .ok (.aload_n 0, 1) := by decide +kernel
theorem dX3_soon_1 : decode cX3_soon 1 = .ok (.getfield 10, 3) := by decide +kernel
theorem dX3_soon_4 : decode cX3_soon 4 = .ok (.invokevirtual 96, 3) := by decide +kernel
theorem dX3_soon_7 : decode cX3_soon 7 = .ok (.ireturn, 1) := by decide +kernel
theorem dX3_image_0 : decode cX3_image 0 = .ok (.iload_n 1, 1) := by decide +kernel
theorem dX3_image_1 : decode cX3_image 1 = .ok (.iconst 2, 1) := by decide +kernel
theorem dX3_image_2 : decode cX3_image 2 = .ok (.invokestatic 24, 3) := by decide +kernel
theorem dX3_image_5 : decode cX3_image 5 = .ok (.ifCond .ne 6, 3) := by decide +kernel
theorem dX3_image_8 : decode cX3_image 8 = .ok (.bipush (-2), 2) := by decide +kernel
theorem dX3_image_10 : decode cX3_image 10 = .ok (.ireturn, 1) := by decide +kernel
theorem dX3_image_11 : decode cX3_image 11 = .ok (.aload_n 0, 1) := by decide +kernel
theorem dX3_image_12 : decode cX3_image 12 = .ok (.getfield 16, 3) := by decide +kernel
theorem dX3_image_15 : decode cX3_image 15 = .ok (.iload_n 1, 1) := by decide +kernel
theorem dX3_image_16 : decode cX3_image 16 = .ok (.aaload, 1) := by decide +kernel
theorem dX3_image_17 : decode cX3_image 17 = .ok (.aload_n 0, 1) := by decide +kernel
theorem dX3_image_18 : decode cX3_image 18 = .ok (.getfield 10, 3) := by decide +kernel
theorem dX3_image_21 : decode cX3_image 21 = .ok (.invokevirtual 100, 3) := by decide +kernel
theorem dX3_image_24 : decode cX3_image 24 = .ok (.aload_n 0, 1) := by decide +kernel
theorem dX3_image_25 : decode cX3_image 25 = .ok (.getfield 20, 3) := by decide +kernel
theorem dX3_image_28 : decode cX3_image 28 = .ok (.iload_n 1, 1) := by decide +kernel
theorem dX3_image_29 : decode cX3_image 29 = .ok (.iconst 1, 1) := by decide +kernel
theorem dX3_image_30 : decode cX3_image 30 = .ok (.bastore, 1) := by decide +kernel
theorem dX3_image_31 : decode cX3_image 31 = .ok (.iconst 1, 1) := by decide +kernel
theorem dX3_image_32 : decode cX3_image 32 = .ok (.ireturn, 1) := by decide +kernel
theorem dX3_restore_0 : decode cX3_restore 0 = .ok (.iload_n 1, 1) := by decide +kernel
theorem dX3_restore_1 : decode cX3_restore 1 = .ok (.iconst 2, 1) := by decide +kernel
theorem dX3_restore_2 : decode cX3_restore 2 = .ok (.invokestatic 24, 3) := by decide +kernel
theorem dX3_restore_5 : decode cX3_restore 5 = .ok (.ifCond .ne 6, 3) := by decide +kernel
theorem dX3_restore_8 : decode cX3_restore 8 = .ok (.bipush (-2), 2) := by decide +kernel
theorem dX3_restore_10 : decode cX3_restore 10 = .ok (.ireturn, 1) := by decide +kernel
theorem dX3_restore_11 : decode cX3_restore 11 = .ok (.aload_n 0, 1) := by decide +kernel
theorem dX3_restore_12 : decode cX3_restore 12 = .ok (.getfield 20, 3) := by decide +kernel
theorem dX3_restore_15 : decode cX3_restore 15 = .ok (.iload_n 1, 1) := by decide +kernel
theorem dX3_restore_16 : decode cX3_restore 16 = .ok (.baload, 1) := by decide +kernel
theorem dX3_restore_17 : decode cX3_restore 17 = .ok (.ifCond .ne 6, 3) := by decide +kernel
theorem dX3_restore_20 : decode cX3_restore 20 = .ok (.bipush (-3), 2) := by decide +kernel
theorem dX3_restore_22 : decode cX3_restore 22 = .ok (.ireturn, 1) := by decide +kernel
theorem dX3_restore_23 : decode cX3_restore 23 = .ok (.aload_n 0, 1) := by decide +kernel
theorem dX3_restore_24 : decode cX3_restore 24 = .ok (.getfield 10, 3) := by decide +kernel
theorem dX3_restore_27 : decode cX3_restore 27 = .ok (.aload_n 0, 1) := by decide +kernel
theorem dX3_restore_28 : decode cX3_restore 28 = .ok (.getfield 16, 3) := by decide +kernel
theorem dX3_restore_31 : decode cX3_restore 31 = .ok (.iload_n 1, 1) := by decide +kernel
theorem dX3_restore_32 : decode cX3_restore 32 = .ok (.aaload, 1) := by decide +kernel
theorem dX3_restore_33 : decode cX3_restore 33 = .ok (.invokevirtual 100, 3) := by decide +kernel
theorem dX3_restore_36 : decode cX3_restore 36 = .ok (.iconst 1, 1) := by decide +kernel
theorem dX3_restore_37 : decode cX3_restore 37 = .ok (.ireturn, 1) := by decide +kernel
theorem dX3_count_0 : decode cX3_count 0 = .ok (.iload_n 1, 1) := by decide +kernel
theorem dX3_count_1 : decode cX3_count 1 = .ok (.tableswitch 121 0 5 #[39, 50, 58, 69, 80, 91], 39) := by decide +kernel
theorem dX3_count_40 : decode cX3_count 40 = .ok (.aload_n 0, 1) := by decide +kernel
theorem dX3_count_41 : decode cX3_count 41 = .ok (.getfield 10, 3) := by decide +kernel
theorem dX3_count_44 : decode cX3_count 44 = .ok (.getfield 63, 3) := by decide +kernel
theorem dX3_count_47 : decode cX3_count 47 = .ok (.invokevirtual 104, 3) := by decide +kernel
theorem dX3_count_50 : decode cX3_count 50 = .ok (.ireturn, 1) := by decide +kernel
theorem dX3_count_51 : decode cX3_count 51 = .ok (.aload_n 0, 1) := by decide +kernel
theorem dX3_count_52 : decode cX3_count 52 = .ok (.getfield 10, 3) := by decide +kernel
theorem dX3_count_55 : decode cX3_count 55 = .ok (.getfield 107, 3) := by decide +kernel
theorem dX3_count_58 : decode cX3_count 58 = .ok (.ireturn, 1) := by decide +kernel
theorem dX3_count_59 : decode cX3_count 59 = .ok (.aload_n 0, 1) := by decide +kernel
theorem dX3_count_60 : decode cX3_count 60 = .ok (.getfield 10, 3) := by decide +kernel
theorem dX3_count_63 : decode cX3_count 63 = .ok (.getfield 63, 3) := by decide +kernel
theorem dX3_count_66 : decode cX3_count 66 = .ok (.invokevirtual 111, 3) := by decide +kernel
theorem dX3_count_69 : decode cX3_count 69 = .ok (.ireturn, 1) := by decide +kernel
theorem dX3_count_70 : decode cX3_count 70 = .ok (.aload_n 0, 1) := by decide +kernel
theorem dX3_count_71 : decode cX3_count 71 = .ok (.getfield 10, 3) := by decide +kernel
theorem dX3_count_74 : decode cX3_count 74 = .ok (.getfield 114, 3) := by decide +kernel
theorem dX3_count_77 : decode cX3_count 77 = .ok (.invokevirtual 118, 3) := by decide +kernel
theorem dX3_count_80 : decode cX3_count 80 = .ok (.ireturn, 1) := by decide +kernel
theorem dX3_count_81 : decode cX3_count 81 = .ok (.aload_n 0, 1) := by decide +kernel
theorem dX3_count_82 : decode cX3_count 82 = .ok (.getfield 10, 3) := by decide +kernel
theorem dX3_count_85 : decode cX3_count 85 = .ok (.getfield 114, 3) := by decide +kernel
theorem dX3_count_88 : decode cX3_count 88 = .ok (.invokevirtual 123, 3) := by decide +kernel
theorem dX3_count_91 : decode cX3_count 91 = .ok (.ireturn, 1) := by decide +kernel
theorem dX3_count_92 : decode cX3_count 92 = .ok (.aload_n 0, 1) := by decide +kernel
theorem dX3_count_93 : decode cX3_count 93 = .ok (.getfield 20, 3) := by decide +kernel
theorem dX3_count_96 : decode cX3_count 96 = .ok (.iconst 0, 1) := by decide +kernel
theorem dX3_count_97 : decode cX3_count 97 = .ok (.baload, 1) := by decide +kernel
theorem dX3_count_98 : decode cX3_count 98 = .ok (.ifCond .eq 7, 3) := by decide +kernel
theorem dX3_count_101 : decode cX3_count 101 = .ok (.iconst 1, 1) := by decide +kernel
theorem dX3_count_102 : decode cX3_count 102 = .ok (.goto 4, 3) := by decide +kernel
theorem dX3_count_105 : decode cX3_count 105 = .ok (.iconst 0, 1) := by decide +kernel
theorem dX3_count_106 : decode cX3_count 106 = .ok (.aload_n 0, 1) := by decide +kernel
theorem dX3_count_107 : decode cX3_count 107 = .ok (.getfield 20, 3) := by decide +kernel
theorem dX3_count_110 : decode cX3_count 110 = .ok (.iconst 1, 1) := by decide +kernel
theorem dX3_count_111 : decode cX3_count 111 = .ok (.baload, 1) := by decide +kernel
theorem dX3_count_112 : decode cX3_count 112 = .ok (.ifCond .eq 7, 3) := by decide +kernel
theorem dX3_count_115 : decode cX3_count 115 = .ok (.iconst 2, 1) := by decide +kernel
theorem dX3_count_116 : decode cX3_count 116 = .ok (.goto 4, 3) := by decide +kernel
theorem dX3_count_119 : decode cX3_count 119 = .ok (.iconst 0, 1) := by decide +kernel
theorem dX3_count_120 : decode cX3_count 120 = .ok (.iadd, 1) := by decide +kernel
theorem dX3_count_121 : decode cX3_count 121 = .ok (.ireturn, 1) := by decide +kernel
theorem dX3_count_122 : decode cX3_count 122 = .ok (.aload_n 0, 1) := by decide +kernel
theorem dX3_count_123 : decode cX3_count 123 = .ok (.iload_n 1, 1) := by decide +kernel
theorem dX3_count_124 : decode cX3_count 124 = .ok (.invokevirtual 126, 3) := by decide +kernel
theorem dX3_count_127 : decode cX3_count 127 = .ok (.ireturn, 1) := by decide +kernel
theorem dX3_ruleAt_0 : decode cX3_ruleAt 0 = .ok (.iload_n 1, 1) := by decide +kernel
theorem dX3_ruleAt_1 : decode cX3_ruleAt 1 = .ok (.bipush 10, 2) := by decide +kernel
theorem dX3_ruleAt_3 : decode cX3_ruleAt 3 = .ok (.if_icmp .lt 9, 3) := by decide +kernel
theorem dX3_ruleAt_6 : decode cX3_ruleAt 6 = .ok (.iload_n 1, 1) := by decide +kernel
theorem dX3_ruleAt_7 : decode cX3_ruleAt 7 = .ok (.bipush 16, 2) := by decide +kernel
theorem dX3_ruleAt_9 : decode cX3_ruleAt 9 = .ok (.if_icmp .lt 6, 3) := by decide +kernel
theorem dX3_ruleAt_12 : decode cX3_ruleAt 12 = .ok (.bipush (-2), 2) := by decide +kernel
theorem dX3_ruleAt_14 : decode cX3_ruleAt 14 = .ok (.ireturn, 1) := by decide +kernel
theorem dX3_ruleAt_15 : decode cX3_ruleAt 15 = .ok (.aload_n 0, 1) := by decide +kernel
theorem dX3_ruleAt_16 : decode cX3_ruleAt 16 = .ok (.getfield 10, 3) := by decide +kernel
theorem dX3_ruleAt_19 : decode cX3_ruleAt 19 = .ok (.getfield 129, 3) := by decide +kernel
theorem dX3_ruleAt_22 : decode cX3_ruleAt 22 = .ok (.iload_n 1, 1) := by decide +kernel
theorem dX3_ruleAt_23 : decode cX3_ruleAt 23 = .ok (.bipush 10, 2) := by decide +kernel
theorem dX3_ruleAt_25 : decode cX3_ruleAt 25 = .ok (.isub, 1) := by decide +kernel
theorem dX3_ruleAt_26 : decode cX3_ruleAt 26 = .ok (.iaload, 1) := by decide +kernel
theorem dX3_ruleAt_27 : decode cX3_ruleAt 27 = .ok (.ireturn, 1) := by decide +kernel
theorem dX3_isBelow_0 : decode cX3_isBelow 0 = .ok (.iload_n 0, 1) := by decide +kernel
theorem dX3_isBelow_1 : decode cX3_isBelow 1 = .ok (.ifCond .lt 12, 3) := by decide +kernel
theorem dX3_isBelow_4 : decode cX3_isBelow 4 = .ok (.iload_n 0, 1) := by decide +kernel
theorem dX3_isBelow_5 : decode cX3_isBelow 5 = .ok (.iload_n 1, 1) := by decide +kernel
theorem dX3_isBelow_6 : decode cX3_isBelow 6 = .ok (.if_icmp .ge 7, 3) := by decide +kernel
theorem dX3_isBelow_9 : decode cX3_isBelow 9 = .ok (.iconst 1, 1) := by decide +kernel
theorem dX3_isBelow_10 : decode cX3_isBelow 10 = .ok (.goto 4, 3) := by decide +kernel
theorem dX3_isBelow_13 : decode cX3_isBelow 13 = .ok (.iconst 0, 1) := by decide +kernel
theorem dX3_isBelow_14 : decode cX3_isBelow 14 = .ok (.ireturn, 1) := by decide +kernel
theorem dX3_isRemotePort_0 : decode cX3_isRemotePort 0 = .ok (.iload_n 0, 1) := by decide +kernel
theorem dX3_isRemotePort_1 : decode cX3_isRemotePort 1 = .ok (.iconst 5, 1) := by decide +kernel
theorem dX3_isRemotePort_2 : decode cX3_isRemotePort 2 = .ok (.invokestatic 24, 3) := by decide +kernel
theorem dX3_isRemotePort_5 : decode cX3_isRemotePort 5 = .ok (.ifCond .eq 26, 3) := by decide +kernel
theorem dX3_isRemotePort_8 : decode cX3_isRemotePort 8 = .ok (.iload_n 1, 1) := by decide +kernel
theorem dX3_isRemotePort_9 : decode cX3_isRemotePort 9 = .ok (.iload_n 0, 1) := by decide +kernel
theorem dX3_isRemotePort_10 : decode cX3_isRemotePort 10 = .ok (.iconst 4, 1) := by decide +kernel
theorem dX3_isRemotePort_11 : decode cX3_isRemotePort 11 = .ok (.if_icmp .ne 8, 3) := by decide +kernel
theorem dX3_isRemotePort_14 : decode cX3_isRemotePort 14 = .ok (.bipush 16, 2) := by decide +kernel
theorem dX3_isRemotePort_16 : decode cX3_isRemotePort 16 = .ok (.goto 5, 3) := by decide +kernel
theorem dX3_isRemotePort_19 : decode cX3_isRemotePort 19 = .ok (.bipush 32, 2) := by decide +kernel
theorem dX3_isRemotePort_21 : decode cX3_isRemotePort 21 = .ok (.invokestatic 24, 3) := by decide +kernel
theorem dX3_isRemotePort_24 : decode cX3_isRemotePort 24 = .ok (.ifCond .eq 7, 3) := by decide +kernel
theorem dX3_isRemotePort_27 : decode cX3_isRemotePort 27 = .ok (.iconst 1, 1) := by decide +kernel
theorem dX3_isRemotePort_28 : decode cX3_isRemotePort 28 = .ok (.goto 4, 3) := by decide +kernel
theorem dX3_isRemotePort_31 : decode cX3_isRemotePort 31 = .ok (.iconst 0, 1) := by decide +kernel
theorem dX3_isRemotePort_32 : decode cX3_isRemotePort 32 = .ok (.ireturn, 1) := by decide +kernel
