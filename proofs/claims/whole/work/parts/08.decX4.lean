theorem dX4_init_0 : decode cX4_init 0 = .ok (.aload_n 0, 1) := by decide +kernel
theorem dX4_init_1 : decode cX4_init 1 = .ok (.invokespecial 1, 3) := by decide +kernel
theorem dX4_init_4 : decode cX4_init 4 = .ok (.aload_n 0, 1) := by decide +kernel
theorem dX4_init_5 : decode cX4_init 5 = .ok (.sipush 503, 3) := by decide +kernel
theorem dX4_init_8 : decode cX4_init 8 = .ok (.newarray .int, 2) := by decide +kernel
theorem dX4_init_10 : decode cX4_init 10 = .ok (.putfield 7, 3) := by decide +kernel
theorem dX4_init_13 : decode cX4_init 13 = .ok (.aload_n 0, 1) := by decide +kernel
theorem dX4_init_14 : decode cX4_init 14 = .ok (.sipush 1006, 3) := by decide +kernel
theorem dX4_init_17 : decode cX4_init 17 = .ok (.newarray .int, 2) := by decide +kernel
theorem dX4_init_19 : decode cX4_init 19 = .ok (.putfield 13, 3) := by decide +kernel
theorem dX4_init_22 : decode cX4_init 22 = .ok (.aload_n 0, 1) := by decide +kernel
theorem dX4_init_23 : decode cX4_init 23 = .ok (.iconst 2, 1) := by decide +kernel
theorem dX4_init_24 : decode cX4_init 24 = .ok (.newarray .boolean, 2) := by decide +kernel
theorem dX4_init_26 : decode cX4_init 26 = .ok (.putfield 16, 3) := by decide +kernel
theorem dX4_init_29 : decode cX4_init 29 = .ok (.aload_n 0, 1) := by decide +kernel
theorem dX4_init_30 : decode cX4_init 30 = .ok (.getfield 7, 3) := by decide +kernel
theorem dX4_init_33 : decode cX4_init 33 = .ok (.iconst 3, 1) := by decide +kernel
theorem dX4_init_34 : decode cX4_init 34 = .ok (.iconst 4, 1) := by decide +kernel
theorem dX4_init_35 : decode cX4_init 35 = .ok (.iastore, 1) := by decide +kernel
theorem dX4_init_36 : decode cX4_init 36 = .ok (.aload_n 0, 1) := by decide +kernel
theorem dX4_init_37 : decode cX4_init 37 = .ok (.getfield 7, 3) := by decide +kernel
theorem dX4_init_40 : decode cX4_init 40 = .ok (.iconst 4, 1) := by decide +kernel
theorem dX4_init_41 : decode cX4_init 41 = .ok (.bipush 20, 2) := by decide +kernel
theorem dX4_init_43 : decode cX4_init 43 = .ok (.iastore, 1) := by decide +kernel
theorem dX4_init_44 : decode cX4_init 44 = .ok (.aload_n 0, 1) := by decide +kernel
theorem dX4_init_45 : decode cX4_init 45 = .ok (.getfield 7, 3) := by decide +kernel
theorem dX4_init_48 : decode cX4_init 48 = .ok (.iconst 5, 1) := by decide +kernel
theorem dX4_init_49 : decode cX4_init 49 = .ok (.iconst 2, 1) := by decide +kernel
theorem dX4_init_50 : decode cX4_init 50 = .ok (.iastore, 1) := by decide +kernel
theorem dX4_init_51 : decode cX4_init 51 = .ok (.iconst 0, 1) := by decide +kernel
theorem dX4_init_52 : decode cX4_init 52 = .ok (.istore_n 1, 1) := by decide +kernel
theorem dX4_init_53 : decode cX4_init 53 = .ok (.iload_n 1, 1) := by decide +kernel
theorem dX4_init_54 : decode cX4_init 54 = .ok (.bipush 16, 2) := by decide +kernel
theorem dX4_init_56 : decode cX4_init 56 = .ok (.if_icmp .ge 20, 3) := by decide +kernel
theorem dX4_init_59 : decode cX4_init 59 = .ok (.aload_n 0, 1) := by decide +kernel
theorem dX4_init_60 : decode cX4_init 60 = .ok (.getfield 7, 3) := by decide +kernel
theorem dX4_init_63 : decode cX4_init 63 = .ok (.bipush 7, 2) := by decide +kernel
theorem dX4_init_65 : decode cX4_init 65 = .ok (.iload_n 1, 1) := by decide +kernel
theorem dX4_init_66 : decode cX4_init 66 = .ok (.iadd, 1) := by decide +kernel
theorem dX4_init_67 : decode cX4_init 67 = .ok (.bipush (-6), 2) := by decide +kernel
theorem dX4_init_69 : decode cX4_init 69 = .ok (.iastore, 1) := by decide +kernel
theorem dX4_init_70 : decode cX4_init 70 = .ok (.iinc 1 1, 3) := by decide +kernel
theorem dX4_init_73 : decode cX4_init 73 = .ok (.goto (-20), 3) := by decide +kernel
theorem dX4_init_76 : decode cX4_init 76 = .ok (.return_, 1) := by decide +kernel
theorem dX4_isFrom_0 : decode cX4_isFrom 0 = .ok (.iload_n 0, 1) := by decide +kernel
theorem dX4_isFrom_1 : decode cX4_isFrom 1 = .ok (.iload_n 1, 1) := by decide +kernel
theorem dX4_isFrom_2 : decode cX4_isFrom 2 = .ok (.if_icmp .lt 12, 3) := by decide +kernel
theorem dX4_isFrom_5 : decode cX4_isFrom 5 = .ok (.iload_n 0, 1) := by decide +kernel
theorem dX4_isFrom_6 : decode cX4_isFrom 6 = .ok (.iload_n 2, 1) := by decide +kernel
theorem dX4_isFrom_7 : decode cX4_isFrom 7 = .ok (.if_icmp .gt 7, 3) := by decide +kernel
theorem dX4_isFrom_10 : decode cX4_isFrom 10 = .ok (.iconst 1, 1) := by decide +kernel
theorem dX4_isFrom_11 : decode cX4_isFrom 11 = .ok (.goto 4, 3) := by decide +kernel
theorem dX4_isFrom_14 : decode cX4_isFrom 14 = .ok (.iconst 0, 1) := by decide +kernel
theorem dX4_isFrom_15 : decode cX4_isFrom 15 = .ok (.ireturn, 1) := by decide +kernel
theorem dX4_isHost_0 : decode cX4_isHost 0 = .ok (.iload_n 0, 1) := by decide +kernel
theorem dX4_isHost_1 : decode cX4_isHost 1 = .ok (.iconst 0, 1) := by decide +kernel
theorem dX4_isHost_2 : decode cX4_isHost 2 = .ok (.iconst 3, 1) := by decide +kernel
theorem dX4_isHost_3 : decode cX4_isHost 3 = .ok (.invokestatic 20, 3) := by decide +kernel
theorem dX4_isHost_6 : decode cX4_isHost 6 = .ok (.ireturn, 1) := by decide +kernel
theorem dX4_isPort_0 : decode cX4_isPort 0 = .ok (.iload_n 0, 1) := by decide +kernel
theorem dX4_isPort_1 : decode cX4_isPort 1 = .ok (.iconst 0, 1) := by decide +kernel
theorem dX4_isPort_2 : decode cX4_isPort 2 = .ok (.bipush 31, 2) := by decide +kernel
theorem dX4_isPort_4 : decode cX4_isPort 4 = .ok (.invokestatic 20, 3) := by decide +kernel
theorem dX4_isPort_7 : decode cX4_isPort 7 = .ok (.ireturn, 1) := by decide +kernel
theorem dX4_isOuter_0 : decode cX4_isOuter 0 = .ok (.iload_n 0, 1) := by decide +kernel
theorem dX4_isOuter_1 : decode cX4_isOuter 1 = .ok (.iconst 0, 1) := by decide +kernel
theorem dX4_isOuter_2 : decode cX4_isOuter 2 = .ok (.bipush 15, 2) := by decide +kernel
theorem dX4_isOuter_4 : decode cX4_isOuter 4 = .ok (.invokestatic 20, 3) := by decide +kernel
theorem dX4_isOuter_7 : decode cX4_isOuter 7 = .ok (.ireturn, 1) := by decide +kernel
theorem dX4_isRemote_0 : decode cX4_isRemote 0 = .ok (.iload_n 0, 1) := by decide +kernel
theorem dX4_isRemote_1 : decode cX4_isRemote 1 = .ok (.iconst 0, 1) := by decide +kernel
theorem dX4_isRemote_2 : decode cX4_isRemote 2 = .ok (.iconst 4, 1) := by decide +kernel
theorem dX4_isRemote_3 : decode cX4_isRemote 3 = .ok (.invokestatic 20, 3) := by decide +kernel
theorem dX4_isRemote_6 : decode cX4_isRemote 6 = .ok (.ifCond .eq 27, 3) := by decide +kernel
theorem dX4_isRemote_9 : decode cX4_isRemote 9 = .ok (.iload_n 1, 1) := by decide +kernel
theorem dX4_isRemote_10 : decode cX4_isRemote 10 = .ok (.iconst 0, 1) := by decide +kernel
theorem dX4_isRemote_11 : decode cX4_isRemote 11 = .ok (.iload_n 0, 1) := by decide +kernel
theorem dX4_isRemote_12 : decode cX4_isRemote 12 = .ok (.iconst 4, 1) := by decide +kernel
theorem dX4_isRemote_13 : decode cX4_isRemote 13 = .ok (.if_icmp .ne 8, 3) := by decide +kernel
theorem dX4_isRemote_16 : decode cX4_isRemote 16 = .ok (.bipush 15, 2) := by decide +kernel
theorem dX4_isRemote_18 : decode cX4_isRemote 18 = .ok (.goto 5, 3) := by decide +kernel
theorem dX4_isRemote_21 : decode cX4_isRemote 21 = .ok (.bipush 31, 2) := by decide +kernel
theorem dX4_isRemote_23 : decode cX4_isRemote 23 = .ok (.invokestatic 20, 3) := by decide +kernel
theorem dX4_isRemote_26 : decode cX4_isRemote 26 = .ok (.ifCond .eq 7, 3) := by decide +kernel
theorem dX4_isRemote_29 : decode cX4_isRemote 29 = .ok (.iconst 1, 1) := by decide +kernel
theorem dX4_isRemote_30 : decode cX4_isRemote 30 = .ok (.goto 4, 3) := by decide +kernel
theorem dX4_isRemote_33 : decode cX4_isRemote 33 = .ok (.iconst 0, 1) := by decide +kernel
theorem dX4_isRemote_34 : decode cX4_isRemote 34 = .ok (.ireturn, 1) := by decide +kernel
theorem dX4_isFlag_0 : decode cX4_isFlag 0 = .ok (.iload_n 0, 1) := by decide +kernel
theorem dX4_isFlag_1 : decode cX4_isFlag 1 = .ok (.iconst 0, 1) := by decide +kernel
theorem dX4_isFlag_2 : decode cX4_isFlag 2 = .ok (.iconst 2, 1) := by decide +kernel
theorem dX4_isFlag_3 : decode cX4_isFlag 3 = .ok (.invokestatic 20, 3) := by decide +kernel
theorem dX4_isFlag_6 : decode cX4_isFlag 6 = .ok (.ireturn, 1) := by decide +kernel
theorem dX4_isLent_0 : decode cX4_isLent 0 = .ok (.aload_n 0, 1) := by decide +kernel
theorem dX4_isLent_1 : decode cX4_isLent 1 = .ok (.getfield 7, 3) := by decide +kernel
theorem dX4_isLent_4 : decode cX4_isLent 4 = .ok (.bipush 7, 2) := by decide +kernel
theorem dX4_isLent_6 : decode cX4_isLent 6 = .ok (.iload_n 1, 1) := by decide +kernel
theorem dX4_isLent_7 : decode cX4_isLent 7 = .ok (.iadd, 1) := by decide +kernel
theorem dX4_isLent_8 : decode cX4_isLent 8 = .ok (.iaload, 1) := by decide +kernel
theorem dX4_isLent_9 : decode cX4_isLent 9 = .ok (.ifCond .lt 7, 3) := by decide +kernel
theorem dX4_isLent_12 : decode cX4_isLent 12 = .ok (.iconst 1, 1) := by decide +kernel
theorem dX4_isLent_13 : decode cX4_isLent 13 = .ok (.goto 4, 3) := by decide +kernel
theorem dX4_isLent_16 : decode cX4_isLent 16 = .ok (.iconst 0, 1) := by decide +kernel
theorem dX4_isLent_17 : decode cX4_isLent 17 = .ok (.ireturn, 1) := by decide +kernel
theorem dX4_end_0 : decode cX4_end 0 = .ok (.aload_n 0, 1) := by decide +kernel
theorem dX4_end_1 : decode cX4_end 1 = .ok (.getfield 7, 3) := by decide +kernel
theorem dX4_end_4 : decode cX4_end 4 = .ok (.bipush 7, 2) := by decide +kernel
theorem dX4_end_6 : decode cX4_end 6 = .ok (.iload_n 1, 1) := by decide +kernel
theorem dX4_end_7 : decode cX4_end 7 = .ok (.iadd, 1) := by decide +kernel
theorem dX4_end_8 : decode cX4_end 8 = .ok (.bipush (-6), 2) := by decide +kernel
theorem dX4_end_10 : decode cX4_end 10 = .ok (.iastore, 1) := by decide +kernel
theorem dX4_end_11 : decode cX4_end 11 = .ok (.iconst 0, 1) := by decide +kernel
theorem dX4_end_12 : decode cX4_end 12 = .ok (.istore_n 2, 1) := by decide +kernel
theorem dX4_end_13 : decode cX4_end 13 = .ok (.iload_n 2, 1) := by decide +kernel
theorem dX4_end_14 : decode cX4_end 14 = .ok (.bipush 32, 2) := by decide +kernel
theorem dX4_end_16 : decode cX4_end 16 = .ok (.if_icmp .ge 54, 3) := by decide +kernel
theorem dX4_end_19 : decode cX4_end 19 = .ok (.aload_n 0, 1) := by decide +kernel
theorem dX4_end_20 : decode cX4_end 20 = .ok (.getfield 7, 3) := by decide +kernel
theorem dX4_end_23 : decode cX4_end 23 = .ok (.sipush 183, 3) := by decide +kernel
theorem dX4_end_26 : decode cX4_end 26 = .ok (.iload_n 2, 1) := by decide +kernel
theorem dX4_end_27 : decode cX4_end 27 = .ok (.iadd, 1) := by decide +kernel
theorem dX4_end_28 : decode cX4_end 28 = .ok (.iaload, 1) := by decide +kernel
theorem dX4_end_29 : decode cX4_end 29 = .ok (.aload_n 0, 1) := by decide +kernel
theorem dX4_end_30 : decode cX4_end 30 = .ok (.getfield 7, 3) := by decide +kernel
theorem dX4_end_33 : decode cX4_end 33 = .ok (.bipush 6, 2) := by decide +kernel
theorem dX4_end_35 : decode cX4_end 35 = .ok (.iaload, 1) := by decide +kernel
theorem dX4_end_36 : decode cX4_end 36 = .ok (.if_icmp .le 28, 3) := by decide +kernel
theorem dX4_end_39 : decode cX4_end 39 = .ok (.aload_n 0, 1) := by decide +kernel
theorem dX4_end_40 : decode cX4_end 40 = .ok (.getfield 7, 3) := by decide +kernel
theorem dX4_end_43 : decode cX4_end 43 = .ok (.sipush 215, 3) := by decide +kernel
theorem dX4_end_46 : decode cX4_end 46 = .ok (.iload_n 2, 1) := by decide +kernel
theorem dX4_end_47 : decode cX4_end 47 = .ok (.iadd, 1) := by decide +kernel
theorem dX4_end_48 : decode cX4_end 48 = .ok (.iaload, 1) := by decide +kernel
theorem dX4_end_49 : decode cX4_end 49 = .ok (.iload_n 1, 1) := by decide +kernel
theorem dX4_end_50 : decode cX4_end 50 = .ok (.if_icmp .ne 14, 3) := by decide +kernel
theorem dX4_end_53 : decode cX4_end 53 = .ok (.aload_n 0, 1) := by decide +kernel
theorem dX4_end_54 : decode cX4_end 54 = .ok (.getfield 7, 3) := by decide +kernel
theorem dX4_end_57 : decode cX4_end 57 = .ok (.sipush 183, 3) := by decide +kernel
theorem dX4_end_60 : decode cX4_end 60 = .ok (.iload_n 2, 1) := by decide +kernel
theorem dX4_end_61 : decode cX4_end 61 = .ok (.iadd, 1) := by decide +kernel
theorem dX4_end_62 : decode cX4_end 62 = .ok (.iconst 0, 1) := by decide +kernel
theorem dX4_end_63 : decode cX4_end 63 = .ok (.iastore, 1) := by decide +kernel
theorem dX4_end_64 : decode cX4_end 64 = .ok (.iinc 2 1, 3) := by decide +kernel
theorem dX4_end_67 : decode cX4_end 67 = .ok (.goto (-54), 3) := by decide +kernel
theorem dX4_end_70 : decode cX4_end 70 = .ok (.return_, 1) := by decide +kernel
theorem dX4_endOf_0 : decode cX4_endOf 0 = .ok (.aload_n 0, 1) := by decide +kernel
theorem dX4_endOf_1 : decode cX4_endOf 1 = .ok (.getfield 7, 3) := by decide +kernel
theorem dX4_endOf_4 : decode cX4_endOf 4 = .ok (.bipush 87, 2) := by decide +kernel
theorem dX4_endOf_6 : decode cX4_endOf 6 = .ok (.iload_n 1, 1) := by decide +kernel
theorem dX4_endOf_7 : decode cX4_endOf 7 = .ok (.iadd, 1) := by decide +kernel
theorem dX4_endOf_8 : decode cX4_endOf 8 = .ok (.iaload, 1) := by decide +kernel
theorem dX4_endOf_9 : decode cX4_endOf 9 = .ok (.aload_n 0, 1) := by decide +kernel
theorem dX4_endOf_10 : decode cX4_endOf 10 = .ok (.getfield 7, 3) := by decide +kernel
theorem dX4_endOf_13 : decode cX4_endOf 13 = .ok (.iconst 3, 1) := by decide +kernel
theorem dX4_endOf_14 : decode cX4_endOf 14 = .ok (.aload_n 0, 1) := by decide +kernel
theorem dX4_endOf_15 : decode cX4_endOf 15 = .ok (.getfield 7, 3) := by decide +kernel
theorem dX4_endOf_18 : decode cX4_endOf 18 = .ok (.bipush 71, 2) := by decide +kernel
theorem dX4_endOf_20 : decode cX4_endOf 20 = .ok (.iload_n 1, 1) := by decide +kernel
theorem dX4_endOf_21 : decode cX4_endOf 21 = .ok (.iadd, 1) := by decide +kernel
theorem dX4_endOf_22 : decode cX4_endOf 22 = .ok (.iaload, 1) := by decide +kernel
theorem dX4_endOf_23 : decode cX4_endOf 23 = .ok (.iadd, 1) := by decide +kernel
theorem dX4_endOf_24 : decode cX4_endOf 24 = .ok (.iaload, 1) := by decide +kernel
theorem dX4_endOf_25 : decode cX4_endOf 25 = .ok (.iadd, 1) := by decide +kernel
theorem dX4_endOf_26 : decode cX4_endOf 26 = .ok (.ireturn, 1) := by decide +kernel
theorem dX4_lapse_0 : decode cX4_lapse 0 = .ok (.iconst 0, 1) := by decide +kernel
theorem dX4_lapse_1 : decode cX4_lapse 1 = .ok (.istore_n 1, 1) := by decide +kernel
theorem dX4_lapse_2 : decode cX4_lapse 2 = .ok (.iconst 0, 1) := by decide +kernel
theorem dX4_lapse_3 : decode cX4_lapse 3 = .ok (.istore_n 2, 1) := by decide +kernel
theorem dX4_lapse_4 : decode cX4_lapse 4 = .ok (.iload_n 2, 1) := by decide +kernel
theorem dX4_lapse_5 : decode cX4_lapse 5 = .ok (.bipush 16, 2) := by decide +kernel
theorem dX4_lapse_7 : decode cX4_lapse 7 = .ok (.if_icmp .ge 40, 3) := by decide +kernel
theorem dX4_lapse_10 : decode cX4_lapse 10 = .ok (.aload_n 0, 1) := by decide +kernel
theorem dX4_lapse_11 : decode cX4_lapse 11 = .ok (.iload_n 2, 1) := by decide +kernel
theorem dX4_lapse_12 : decode cX4_lapse 12 = .ok (.invokevirtual 24, 3) := by decide +kernel
theorem dX4_lapse_15 : decode cX4_lapse 15 = .ok (.ifCond .eq 26, 3) := by decide +kernel
theorem dX4_lapse_18 : decode cX4_lapse 18 = .ok (.aload_n 0, 1) := by decide +kernel
theorem dX4_lapse_19 : decode cX4_lapse 19 = .ok (.getfield 7, 3) := by decide +kernel
theorem dX4_lapse_22 : decode cX4_lapse 22 = .ok (.bipush 6, 2) := by decide +kernel
theorem dX4_lapse_24 : decode cX4_lapse 24 = .ok (.iaload, 1) := by decide +kernel
theorem dX4_lapse_25 : decode cX4_lapse 25 = .ok (.aload_n 0, 1) := by decide +kernel
theorem dX4_lapse_26 : decode cX4_lapse 26 = .ok (.iload_n 2, 1) := by decide +kernel
theorem dX4_lapse_27 : decode cX4_lapse 27 = .ok (.invokevirtual 28, 3) := by decide +kernel
theorem dX4_lapse_30 : decode cX4_lapse 30 = .ok (.if_icmp .lt 11, 3) := by decide +kernel
theorem dX4_lapse_33 : decode cX4_lapse 33 = .ok (.aload_n 0, 1) := by decide +kernel
theorem dX4_lapse_34 : decode cX4_lapse 34 = .ok (.iload_n 2, 1) := by decide +kernel
theorem dX4_lapse_35 : decode cX4_lapse 35 = .ok (.invokevirtual 32, 3) := by decide +kernel
theorem dX4_lapse_38 : decode cX4_lapse 38 = .ok (.iinc 1 1, 3) := by decide +kernel
theorem dX4_lapse_41 : decode cX4_lapse 41 = .ok (.iinc 2 1, 3) := by decide +kernel
theorem dX4_lapse_44 : decode cX4_lapse 44 = .ok (.goto (-40), 3) := by decide +kernel
theorem dX4_lapse_47 : decode cX4_lapse 47 = .ok (.iload_n 1, 1) := by decide +kernel
theorem dX4_lapse_48 : decode cX4_lapse 48 = .ok (.ireturn, 1) := by decide +kernel
theorem dX4_least_0 : decode cX4_least 0 = .ok (.iload_n 0, 1) := by decide +kernel
theorem dX4_least_1 : decode cX4_least 1 = .ok (.iconst 3, 1) := by decide +kernel
theorem dX4_least_2 : decode cX4_least 2 = .ok (.if_icmp .ge 7, 3) := by decide +kernel
theorem dX4_least_5 : decode cX4_least 5 = .ok (.iconst 0, 1) := by decide +kernel
theorem dX4_least_6 : decode cX4_least 6 = .ok (.goto 4, 3) := by decide +kernel
theorem dX4_least_9 : decode cX4_least 9 = .ok (.iconst 1, 1) := by decide +kernel
theorem dX4_least_10 : decode cX4_least 10 = .ok (.ireturn, 1) := by decide +kernel
theorem dX4_most_0 : decode cX4_most 0 = .ok (.iload_n 0, 1) := by decide +kernel
theorem dX4_most_1 : decode cX4_most 1 = .ok (.iconst 2, 1) := by decide +kernel
theorem dX4_most_2 : decode cX4_most 2 = .ok (.if_icmp .ge 7, 3) := by decide +kernel
theorem dX4_most_5 : decode cX4_most 5 = .ok (.iconst 2, 1) := by decide +kernel
theorem dX4_most_6 : decode cX4_most 6 = .ok (.goto 14, 3) := by decide +kernel
theorem dX4_most_9 : decode cX4_most 9 = .ok (.iload_n 0, 1) := by decide +kernel
theorem dX4_most_10 : decode cX4_most 10 = .ok (.iconst 2, 1) := by decide +kernel
theorem dX4_most_11 : decode cX4_most 11 = .ok (.if_icmp .ne 7, 3) := by decide +kernel
theorem dX4_most_14 : decode cX4_most 14 = .ok (.iconst 1, 1) := by decide +kernel
theorem dX4_most_15 : decode cX4_most 15 = .ok (.goto 5, 3) := by decide +kernel
theorem dX4_most_18 : decode cX4_most 18 = .ok (.bipush 60, 2) := by decide +kernel
theorem dX4_most_20 : decode cX4_most 20 = .ok (.ireturn, 1) := by decide +kernel
theorem dX4_rule_0 : decode cX4_rule 0 = .ok (.iload_n 1, 1) := by decide +kernel
theorem dX4_rule_1 : decode cX4_rule 1 = .ok (.iconst 0, 1) := by decide +kernel
theorem dX4_rule_2 : decode cX4_rule 2 = .ok (.iconst 5, 1) := by decide +kernel
theorem dX4_rule_3 : decode cX4_rule 3 = .ok (.invokestatic 20, 3) := by decide +kernel
theorem dX4_rule_6 : decode cX4_rule 6 = .ok (.ifCond .eq 18, 3) := by decide +kernel
theorem dX4_rule_9 : decode cX4_rule 9 = .ok (.iload_n 2, 1) := by decide +kernel
theorem dX4_rule_10 : decode cX4_rule 10 = .ok (.iload_n 1, 1) := by decide +kernel
theorem dX4_rule_11 : decode cX4_rule 11 = .ok (.invokestatic 36, 3) := by decide +kernel
theorem dX4_rule_14 : decode cX4_rule 14 = .ok (.iload_n 1, 1) := by decide +kernel
theorem dX4_rule_15 : decode cX4_rule 15 = .ok (.invokestatic 39, 3) := by decide +kernel
theorem dX4_rule_18 : decode cX4_rule 18 = .ok (.invokestatic 20, 3) := by decide +kernel
theorem dX4_rule_21 : decode cX4_rule 21 = .ok (.ifCond .ne 6, 3) := by decide +kernel
theorem dX4_rule_24 : decode cX4_rule 24 = .ok (.bipush (-2), 2) := by decide +kernel
theorem dX4_rule_26 : decode cX4_rule 26 = .ok (.ireturn, 1) := by decide +kernel
theorem dX4_rule_27 : decode cX4_rule 27 = .ok (.aload_n 0, 1) := by decide +kernel
theorem dX4_rule_28 : decode cX4_rule 28 = .ok (.getfield 7, 3) := by decide +kernel
theorem dX4_rule_31 : decode cX4_rule 31 = .ok (.iload_n 1, 1) := by decide +kernel
theorem dX4_rule_32 : decode cX4_rule 32 = .ok (.iaload, 1) := by decide +kernel
theorem dX4_rule_33 : decode cX4_rule 33 = .ok (.istore_n 3, 1) := by decide +kernel
theorem dX4_rule_34 : decode cX4_rule 34 = .ok (.aload_n 0, 1) := by decide +kernel
theorem dX4_rule_35 : decode cX4_rule 35 = .ok (.getfield 7, 3) := by decide +kernel
theorem dX4_rule_38 : decode cX4_rule 38 = .ok (.iload_n 1, 1) := by decide +kernel
theorem dX4_rule_39 : decode cX4_rule 39 = .ok (.iload_n 2, 1) := by decide +kernel
theorem dX4_rule_40 : decode cX4_rule 40 = .ok (.iastore, 1) := by decide +kernel
theorem dX4_rule_41 : decode cX4_rule 41 = .ok (.iconst 0, 1) := by decide +kernel
theorem dX4_rule_42 : decode cX4_rule 42 = .ok (.istore 4, 2) := by decide +kernel
theorem dX4_rule_44 : decode cX4_rule 44 = .ok (.iload 4, 2) := by decide +kernel
theorem dX4_rule_46 : decode cX4_rule 46 = .ok (.bipush 16, 2) := by decide +kernel
theorem dX4_rule_48 : decode cX4_rule 48 = .ok (.if_icmp .ge 33, 3) := by decide +kernel
theorem dX4_rule_51 : decode cX4_rule 51 = .ok (.iload_n 1, 1) := by decide +kernel
theorem dX4_rule_52 : decode cX4_rule 52 = .ok (.ifCond .ne 29, 3) := by decide +kernel
theorem dX4_rule_55 : decode cX4_rule 55 = .ok (.iload_n 2, 1) := by decide +kernel
theorem dX4_rule_56 : decode cX4_rule 56 = .ok (.iload_n 3, 1) := by decide +kernel
theorem dX4_rule_57 : decode cX4_rule 57 = .ok (.if_icmp .eq 24, 3) := by decide +kernel
theorem dX4_rule_60 : decode cX4_rule 60 = .ok (.aload_n 0, 1) := by decide +kernel
theorem dX4_rule_61 : decode cX4_rule 61 = .ok (.iload 4, 2) := by decide +kernel
theorem dX4_rule_63 : decode cX4_rule 63 = .ok (.invokevirtual 24, 3) := by decide +kernel
theorem dX4_rule_66 : decode cX4_rule 66 = .ok (.ifCond .eq 9, 3) := by decide +kernel
theorem dX4_rule_69 : decode cX4_rule 69 = .ok (.aload_n 0, 1) := by decide +kernel
theorem dX4_rule_70 : decode cX4_rule 70 = .ok (.iload 4, 2) := by decide +kernel
theorem dX4_rule_72 : decode cX4_rule 72 = .ok (.invokevirtual 32, 3) := by decide +kernel
theorem dX4_rule_75 : decode cX4_rule 75 = .ok (.iinc 4 1, 3) := by decide +kernel
theorem dX4_rule_78 : decode cX4_rule 78 = .ok (.goto (-34), 3) := by decide +kernel
theorem dX4_rule_81 : decode cX4_rule 81 = .ok (.aload_n 0, 1) := by decide +kernel
theorem dX4_rule_82 : decode cX4_rule 82 = .ok (.invokevirtual 42, 3) := by decide +kernel
theorem dX4_rule_85 : decode cX4_rule 85 = .ok (.pop, 1) := by decide +kernel
theorem dX4_rule_86 : decode cX4_rule 86 = .ok (.iload_n 3, 1) := by decide +kernel
theorem dX4_rule_87 : decode cX4_rule 87 = .ok (.ireturn, 1) := by decide +kernel
theorem dX4_bindingOf_0 : decode cX4_bindingOf 0 = .ok (.bipush (-6), 2) := by decide +kernel
theorem dX4_bindingOf_2 : decode cX4_bindingOf 2 = .ok (.istore 5, 2) := by decide +kernel
theorem dX4_bindingOf_4 : decode cX4_bindingOf 4 = .ok (.iconst 0, 1) := by decide +kernel
theorem dX4_bindingOf_5 : decode cX4_bindingOf 5 = .ok (.istore 6, 2) := by decide +kernel
theorem dX4_bindingOf_7 : decode cX4_bindingOf 7 = .ok (.iload 6, 2) := by decide +kernel
theorem dX4_bindingOf_9 : decode cX4_bindingOf 9 = .ok (.bipush 16, 2) := by decide +kernel
theorem dX4_bindingOf_11 : decode cX4_bindingOf 11 = .ok (.if_icmp .ge 130, 3) := by decide +kernel
theorem dX4_bindingOf_14 : decode cX4_bindingOf 14 = .ok (.aload_n 0, 1) := by decide +kernel
theorem dX4_bindingOf_15 : decode cX4_bindingOf 15 = .ok (.getfield 7, 3) := by decide +kernel
theorem dX4_bindingOf_18 : decode cX4_bindingOf 18 = .ok (.bipush 7, 2) := by decide +kernel
theorem dX4_bindingOf_20 : decode cX4_bindingOf 20 = .ok (.iload 6, 2) := by decide +kernel
theorem dX4_bindingOf_22 : decode cX4_bindingOf 22 = .ok (.iadd, 1) := by decide +kernel
theorem dX4_bindingOf_23 : decode cX4_bindingOf 23 = .ok (.iaload, 1) := by decide +kernel
theorem dX4_bindingOf_24 : decode cX4_bindingOf 24 = .ok (.iload_n 1, 1) := by decide +kernel
theorem dX4_bindingOf_25 : decode cX4_bindingOf 25 = .ok (.if_icmp .ne 21, 3) := by decide +kernel
theorem dX4_bindingOf_28 : decode cX4_bindingOf 28 = .ok (.aload_n 0, 1) := by decide +kernel
theorem dX4_bindingOf_29 : decode cX4_bindingOf 29 = .ok (.getfield 7, 3) := by decide +kernel
theorem dX4_bindingOf_32 : decode cX4_bindingOf 32 = .ok (.bipush 23, 2) := by decide +kernel
theorem dX4_bindingOf_34 : decode cX4_bindingOf 34 = .ok (.iload 6, 2) := by decide +kernel
theorem dX4_bindingOf_36 : decode cX4_bindingOf 36 = .ok (.iadd, 1) := by decide +kernel
theorem dX4_bindingOf_37 : decode cX4_bindingOf 37 = .ok (.iaload, 1) := by decide +kernel
theorem dX4_bindingOf_38 : decode cX4_bindingOf 38 = .ok (.iload_n 2, 1) := by decide +kernel
theorem dX4_bindingOf_39 : decode cX4_bindingOf 39 = .ok (.if_icmp .ne 7, 3) := by decide +kernel
theorem dX4_bindingOf_42 : decode cX4_bindingOf 42 = .ok (.iconst 1, 1) := by decide +kernel
theorem dX4_bindingOf_43 : decode cX4_bindingOf 43 = .ok (.goto 4, 3) := by decide +kernel
theorem dX4_bindingOf_46 : decode cX4_bindingOf 46 = .ok (.iconst 0, 1) := by decide +kernel
theorem dX4_bindingOf_47 : decode cX4_bindingOf 47 = .ok (.istore 7, 2) := by decide +kernel
theorem dX4_bindingOf_49 : decode cX4_bindingOf 49 = .ok (.iload 7, 2) := by decide +kernel
theorem dX4_bindingOf_51 : decode cX4_bindingOf 51 = .ok (.ifCond .eq 30, 3) := by decide +kernel
theorem dX4_bindingOf_54 : decode cX4_bindingOf 54 = .ok (.aload_n 0, 1) := by decide +kernel
theorem dX4_bindingOf_55 : decode cX4_bindingOf 55 = .ok (.getfield 7, 3) := by decide +kernel
theorem dX4_bindingOf_58 : decode cX4_bindingOf 58 = .ok (.iconst 0, 1) := by decide +kernel
theorem dX4_bindingOf_59 : decode cX4_bindingOf 59 = .ok (.iaload, 1) := by decide +kernel
theorem dX4_bindingOf_60 : decode cX4_bindingOf 60 = .ok (.ifCond .eq 17, 3) := by decide +kernel
theorem dX4_bindingOf_63 : decode cX4_bindingOf 63 = .ok (.aload_n 0, 1) := by decide +kernel
theorem dX4_bindingOf_64 : decode cX4_bindingOf 64 = .ok (.getfield 7, 3) := by decide +kernel
theorem dX4_bindingOf_67 : decode cX4_bindingOf 67 = .ok (.bipush 39, 2) := by decide +kernel
theorem dX4_bindingOf_69 : decode cX4_bindingOf 69 = .ok (.iload 6, 2) := by decide +kernel
theorem dX4_bindingOf_71 : decode cX4_bindingOf 71 = .ok (.iadd, 1) := by decide +kernel
theorem dX4_bindingOf_72 : decode cX4_bindingOf 72 = .ok (.iaload, 1) := by decide +kernel
theorem dX4_bindingOf_73 : decode cX4_bindingOf 73 = .ok (.iload_n 3, 1) := by decide +kernel
theorem dX4_bindingOf_74 : decode cX4_bindingOf 74 = .ok (.if_icmp .ne 7, 3) := by decide +kernel
theorem dX4_bindingOf_77 : decode cX4_bindingOf 77 = .ok (.iconst 1, 1) := by decide +kernel
theorem dX4_bindingOf_78 : decode cX4_bindingOf 78 = .ok (.goto 4, 3) := by decide +kernel
theorem dX4_bindingOf_81 : decode cX4_bindingOf 81 = .ok (.iconst 0, 1) := by decide +kernel
theorem dX4_bindingOf_82 : decode cX4_bindingOf 82 = .ok (.istore 7, 2) := by decide +kernel
theorem dX4_bindingOf_84 : decode cX4_bindingOf 84 = .ok (.iload 7, 2) := by decide +kernel
theorem dX4_bindingOf_86 : decode cX4_bindingOf 86 = .ok (.ifCond .eq 32, 3) := by decide +kernel
theorem dX4_bindingOf_89 : decode cX4_bindingOf 89 = .ok (.aload_n 0, 1) := by decide +kernel
theorem dX4_bindingOf_90 : decode cX4_bindingOf 90 = .ok (.getfield 7, 3) := by decide +kernel
theorem dX4_bindingOf_93 : decode cX4_bindingOf 93 = .ok (.iconst 0, 1) := by decide +kernel
theorem dX4_bindingOf_94 : decode cX4_bindingOf 94 = .ok (.iaload, 1) := by decide +kernel
theorem dX4_bindingOf_95 : decode cX4_bindingOf 95 = .ok (.iconst 2, 1) := by decide +kernel
theorem dX4_bindingOf_96 : decode cX4_bindingOf 96 = .ok (.if_icmp .lt 18, 3) := by decide +kernel
theorem dX4_bindingOf_99 : decode cX4_bindingOf 99 = .ok (.aload_n 0, 1) := by decide +kernel
theorem dX4_bindingOf_100 : decode cX4_bindingOf 100 = .ok (.getfield 7, 3) := by decide +kernel
theorem dX4_bindingOf_103 : decode cX4_bindingOf 103 = .ok (.bipush 55, 2) := by decide +kernel
theorem dX4_bindingOf_105 : decode cX4_bindingOf 105 = .ok (.iload 6, 2) := by decide +kernel
theorem dX4_bindingOf_107 : decode cX4_bindingOf 107 = .ok (.iadd, 1) := by decide +kernel
theorem dX4_bindingOf_108 : decode cX4_bindingOf 108 = .ok (.iaload, 1) := by decide +kernel
theorem dX4_bindingOf_109 : decode cX4_bindingOf 109 = .ok (.iload 4, 2) := by decide +kernel
theorem dX4_bindingOf_111 : decode cX4_bindingOf 111 = .ok (.if_icmp .ne 7, 3) := by decide +kernel
theorem dX4_bindingOf_114 : decode cX4_bindingOf 114 = .ok (.iconst 1, 1) := by decide +kernel
theorem dX4_bindingOf_115 : decode cX4_bindingOf 115 = .ok (.goto 4, 3) := by decide +kernel
theorem dX4_bindingOf_118 : decode cX4_bindingOf 118 = .ok (.iconst 0, 1) := by decide +kernel
theorem dX4_bindingOf_119 : decode cX4_bindingOf 119 = .ok (.istore 7, 2) := by decide +kernel
theorem dX4_bindingOf_121 : decode cX4_bindingOf 121 = .ok (.iload 7, 2) := by decide +kernel
theorem dX4_bindingOf_123 : decode cX4_bindingOf 123 = .ok (.ifCond .eq 8, 3) := by decide +kernel
theorem dX4_bindingOf_126 : decode cX4_bindingOf 126 = .ok (.iload 6, 2) := by decide +kernel
theorem dX4_bindingOf_128 : decode cX4_bindingOf 128 = .ok (.goto 5, 3) := by decide +kernel
theorem dX4_bindingOf_131 : decode cX4_bindingOf 131 = .ok (.iload 5, 2) := by decide +kernel
theorem dX4_bindingOf_133 : decode cX4_bindingOf 133 = .ok (.istore 5, 2) := by decide +kernel
theorem dX4_bindingOf_135 : decode cX4_bindingOf 135 = .ok (.iinc 6 1, 3) := by decide +kernel
theorem dX4_bindingOf_138 : decode cX4_bindingOf 138 = .ok (.goto (-131), 3) := by decide +kernel
theorem dX4_bindingOf_141 : decode cX4_bindingOf 141 = .ok (.iload 5, 2) := by decide +kernel
theorem dX4_bindingOf_143 : decode cX4_bindingOf 143 = .ok (.ireturn, 1) := by decide +kernel
theorem dX4_blockOf_0 : decode cX4_blockOf 0 = .ok (.bipush (-6), 2) := by decide +kernel
theorem dX4_blockOf_2 : decode cX4_blockOf 2 = .ok (.istore_n 2, 1) := by decide +kernel
theorem dX4_blockOf_3 : decode cX4_blockOf 3 = .ok (.iconst 4, 1) := by decide +kernel
theorem dX4_blockOf_4 : decode cX4_blockOf 4 = .ok (.iload_n 1, 1) := by decide +kernel
theorem dX4_blockOf_5 : decode cX4_blockOf 5 = .ok (.imul, 1) := by decide +kernel
theorem dX4_blockOf_6 : decode cX4_blockOf 6 = .ok (.istore_n 3, 1) := by decide +kernel
theorem dX4_blockOf_7 : decode cX4_blockOf 7 = .ok (.iload_n 3, 1) := by decide +kernel
theorem dX4_blockOf_8 : decode cX4_blockOf 8 = .ok (.iconst 4, 1) := by decide +kernel
theorem dX4_blockOf_9 : decode cX4_blockOf 9 = .ok (.iload_n 1, 1) := by decide +kernel
theorem dX4_blockOf_10 : decode cX4_blockOf 10 = .ok (.imul, 1) := by decide +kernel
theorem dX4_blockOf_11 : decode cX4_blockOf 11 = .ok (.iconst 4, 1) := by decide +kernel
theorem dX4_blockOf_12 : decode cX4_blockOf 12 = .ok (.iadd, 1) := by decide +kernel
theorem dX4_blockOf_13 : decode cX4_blockOf 13 = .ok (.if_icmp .ge 31, 3) := by decide +kernel
theorem dX4_blockOf_16 : decode cX4_blockOf 16 = .ok (.aload_n 0, 1) := by decide +kernel
theorem dX4_blockOf_17 : decode cX4_blockOf 17 = .ok (.iload_n 3, 1) := by decide +kernel
theorem dX4_blockOf_18 : decode cX4_blockOf 18 = .ok (.invokevirtual 24, 3) := by decide +kernel
theorem dX4_blockOf_21 : decode cX4_blockOf 21 = .ok (.ifCond .eq 15, 3) := by decide +kernel
theorem dX4_blockOf_24 : decode cX4_blockOf 24 = .ok (.aload_n 0, 1) := by decide +kernel
theorem dX4_blockOf_25 : decode cX4_blockOf 25 = .ok (.getfield 7, 3) := by decide +kernel
theorem dX4_blockOf_28 : decode cX4_blockOf 28 = .ok (.bipush 7, 2) := by decide +kernel
theorem dX4_blockOf_30 : decode cX4_blockOf 30 = .ok (.iload_n 3, 1) := by decide +kernel
theorem dX4_blockOf_31 : decode cX4_blockOf 31 = .ok (.iadd, 1) := by decide +kernel
theorem dX4_blockOf_32 : decode cX4_blockOf 32 = .ok (.iaload, 1) := by decide +kernel
theorem dX4_blockOf_33 : decode cX4_blockOf 33 = .ok (.goto 4, 3) := by decide +kernel
theorem dX4_blockOf_36 : decode cX4_blockOf 36 = .ok (.iload_n 2, 1) := by decide +kernel
theorem dX4_blockOf_37 : decode cX4_blockOf 37 = .ok (.istore_n 2, 1) := by decide +kernel
theorem dX4_blockOf_38 : decode cX4_blockOf 38 = .ok (.iinc 3 1, 3) := by decide +kernel
theorem dX4_blockOf_41 : decode cX4_blockOf 41 = .ok (.goto (-34), 3) := by decide +kernel
theorem dX4_blockOf_44 : decode cX4_blockOf 44 = .ok (.iload_n 2, 1) := by decide +kernel
theorem dX4_blockOf_45 : decode cX4_blockOf 45 = .ok (.ireturn, 1) := by decide +kernel
theorem dX4_fits_0 : decode cX4_fits 0 = .ok (.aload_n 0, 1) := by decide +kernel
theorem dX4_fits_1 : decode cX4_fits 1 = .ok (.iload_n 1, 1) := by decide +kernel
theorem dX4_fits_2 : decode cX4_fits 2 = .ok (.invokevirtual 24, 3) := by decide +kernel
theorem dX4_fits_5 : decode cX4_fits 5 = .ok (.ifCond .ne 25, 3) := by decide +kernel
theorem dX4_fits_8 : decode cX4_fits 8 = .ok (.aload_n 0, 1) := by decide +kernel
theorem dX4_fits_9 : decode cX4_fits 9 = .ok (.getfield 7, 3) := by decide +kernel
theorem dX4_fits_12 : decode cX4_fits 12 = .ok (.iconst 2, 1) := by decide +kernel
theorem dX4_fits_13 : decode cX4_fits 13 = .ok (.iaload, 1) := by decide +kernel
theorem dX4_fits_14 : decode cX4_fits 14 = .ok (.ifCond .eq 12, 3) := by decide +kernel
theorem dX4_fits_17 : decode cX4_fits 17 = .ok (.iload_n 1, 1) := by decide +kernel
theorem dX4_fits_18 : decode cX4_fits 18 = .ok (.iconst 2, 1) := by decide +kernel
theorem dX4_fits_19 : decode cX4_fits 19 = .ok (.irem, 1) := by decide +kernel
theorem dX4_fits_20 : decode cX4_fits 20 = .ok (.iload_n 2, 1) := by decide +kernel
theorem dX4_fits_21 : decode cX4_fits 21 = .ok (.iconst 2, 1) := by decide +kernel
theorem dX4_fits_22 : decode cX4_fits 22 = .ok (.irem, 1) := by decide +kernel
theorem dX4_fits_23 : decode cX4_fits 23 = .ok (.if_icmp .ne 7, 3) := by decide +kernel
theorem dX4_fits_26 : decode cX4_fits 26 = .ok (.iconst 1, 1) := by decide +kernel
theorem dX4_fits_27 : decode cX4_fits 27 = .ok (.goto 4, 3) := by decide +kernel
theorem dX4_fits_30 : decode cX4_fits 30 = .ok (.iconst 0, 1) := by decide +kernel
theorem dX4_fits_31 : decode cX4_fits 31 = .ok (.ireturn, 1) := by decide +kernel
theorem dX4_leastOf_0 : decode cX4_leastOf 0 = .ok (.iconst 0, 1) := by decide +kernel
theorem dX4_leastOf_1 : decode cX4_leastOf 1 = .ok (.istore_n 3, 1) := by decide +kernel
theorem dX4_leastOf_2 : decode cX4_leastOf 2 = .ok (.iload_n 3, 1) := by decide +kernel
theorem dX4_leastOf_3 : decode cX4_leastOf 3 = .ok (.bipush 16, 2) := by decide +kernel
theorem dX4_leastOf_5 : decode cX4_leastOf 5 = .ok (.if_icmp .ge 31, 3) := by decide +kernel
theorem dX4_leastOf_8 : decode cX4_leastOf 8 = .ok (.aload_n 0, 1) := by decide +kernel
theorem dX4_leastOf_9 : decode cX4_leastOf 9 = .ok (.iload_n 3, 1) := by decide +kernel
theorem dX4_leastOf_10 : decode cX4_leastOf 10 = .ok (.iconst 4, 1) := by decide +kernel
theorem dX4_leastOf_11 : decode cX4_leastOf 11 = .ok (.idiv, 1) := by decide +kernel
theorem dX4_leastOf_12 : decode cX4_leastOf 12 = .ok (.invokevirtual 46, 3) := by decide +kernel
theorem dX4_leastOf_15 : decode cX4_leastOf 15 = .ok (.iload_n 1, 1) := by decide +kernel
theorem dX4_leastOf_16 : decode cX4_leastOf 16 = .ok (.if_icmp .ne 14, 3) := by decide +kernel
theorem dX4_leastOf_19 : decode cX4_leastOf 19 = .ok (.aload_n 0, 1) := by decide +kernel
theorem dX4_leastOf_20 : decode cX4_leastOf 20 = .ok (.iload_n 3, 1) := by decide +kernel
theorem dX4_leastOf_21 : decode cX4_leastOf 21 = .ok (.iload_n 2, 1) := by decide +kernel
theorem dX4_leastOf_22 : decode cX4_leastOf 22 = .ok (.invokevirtual 49, 3) := by decide +kernel
theorem dX4_leastOf_25 : decode cX4_leastOf 25 = .ok (.ifCond .eq 5, 3) := by decide +kernel
theorem dX4_leastOf_28 : decode cX4_leastOf 28 = .ok (.iload_n 3, 1) := by decide +kernel
theorem dX4_leastOf_29 : decode cX4_leastOf 29 = .ok (.ireturn, 1) := by decide +kernel
theorem dX4_leastOf_30 : decode cX4_leastOf 30 = .ok (.iinc 3 1, 3) := by decide +kernel
theorem dX4_leastOf_33 : decode cX4_leastOf 33 = .ok (.goto (-31), 3) := by decide +kernel
theorem dX4_leastOf_36 : decode cX4_leastOf 36 = .ok (.bipush (-6), 2) := by decide +kernel
theorem dX4_leastOf_38 : decode cX4_leastOf 38 = .ok (.ireturn, 1) := by decide +kernel
theorem dX4_chosen_0 : decode cX4_chosen 0 = .ok (.iload_n 2, 1) := by decide +kernel
theorem dX4_chosen_1 : decode cX4_chosen 1 = .ok (.bipush 16, 2) := by decide +kernel
theorem dX4_chosen_3 : decode cX4_chosen 3 = .ok (.irem, 1) := by decide +kernel
theorem dX4_chosen_4 : decode cX4_chosen 4 = .ok (.istore_n 3, 1) := by decide +kernel
theorem dX4_chosen_5 : decode cX4_chosen 5 = .ok (.aload_n 0, 1) := by decide +kernel
theorem dX4_chosen_6 : decode cX4_chosen 6 = .ok (.iload_n 3, 1) := by decide +kernel
theorem dX4_chosen_7 : decode cX4_chosen 7 = .ok (.iconst 4, 1) := by decide +kernel
theorem dX4_chosen_8 : decode cX4_chosen 8 = .ok (.idiv, 1) := by decide +kernel
theorem dX4_chosen_9 : decode cX4_chosen 9 = .ok (.invokevirtual 46, 3) := by decide +kernel
theorem dX4_chosen_12 : decode cX4_chosen 12 = .ok (.iload_n 1, 1) := by decide +kernel
theorem dX4_chosen_13 : decode cX4_chosen 13 = .ok (.if_icmp .ne 14, 3) := by decide +kernel
theorem dX4_chosen_16 : decode cX4_chosen 16 = .ok (.aload_n 0, 1) := by decide +kernel
theorem dX4_chosen_17 : decode cX4_chosen 17 = .ok (.iload_n 3, 1) := by decide +kernel
theorem dX4_chosen_18 : decode cX4_chosen 18 = .ok (.iload_n 2, 1) := by decide +kernel
theorem dX4_chosen_19 : decode cX4_chosen 19 = .ok (.invokevirtual 49, 3) := by decide +kernel
theorem dX4_chosen_22 : decode cX4_chosen 22 = .ok (.ifCond .eq 5, 3) := by decide +kernel
theorem dX4_chosen_25 : decode cX4_chosen 25 = .ok (.iload_n 3, 1) := by decide +kernel
theorem dX4_chosen_26 : decode cX4_chosen 26 = .ok (.ireturn, 1) := by decide +kernel
theorem dX4_chosen_27 : decode cX4_chosen 27 = .ok (.aload_n 0, 1) := by decide +kernel
theorem dX4_chosen_28 : decode cX4_chosen 28 = .ok (.iload_n 1, 1) := by decide +kernel
theorem dX4_chosen_29 : decode cX4_chosen 29 = .ok (.iload_n 2, 1) := by decide +kernel
theorem dX4_chosen_30 : decode cX4_chosen 30 = .ok (.invokevirtual 53, 3) := by decide +kernel
theorem dX4_chosen_33 : decode cX4_chosen 33 = .ok (.istore 4, 2) := by decide +kernel
theorem dX4_chosen_35 : decode cX4_chosen 35 = .ok (.iload 4, 2) := by decide +kernel
theorem dX4_chosen_37 : decode cX4_chosen 37 = .ok (.ifCond .lt 6, 3) := by decide +kernel
theorem dX4_chosen_40 : decode cX4_chosen 40 = .ok (.iload 4, 2) := by decide +kernel
theorem dX4_chosen_42 : decode cX4_chosen 42 = .ok (.ireturn, 1) := by decide +kernel
theorem dX4_chosen_43 : decode cX4_chosen 43 = .ok (.aload_n 0, 1) := by decide +kernel
theorem dX4_chosen_44 : decode cX4_chosen 44 = .ok (.iload_n 3, 1) := by decide +kernel
theorem dX4_chosen_45 : decode cX4_chosen 45 = .ok (.iconst 4, 1) := by decide +kernel
theorem dX4_chosen_46 : decode cX4_chosen 46 = .ok (.idiv, 1) := by decide +kernel
theorem dX4_chosen_47 : decode cX4_chosen 47 = .ok (.invokevirtual 46, 3) := by decide +kernel
theorem dX4_chosen_50 : decode cX4_chosen 50 = .ok (.bipush (-6), 2) := by decide +kernel
theorem dX4_chosen_52 : decode cX4_chosen 52 = .ok (.if_icmp .ne 7, 3) := by decide +kernel
theorem dX4_chosen_55 : decode cX4_chosen 55 = .ok (.iload_n 3, 1) := by decide +kernel
theorem dX4_chosen_56 : decode cX4_chosen 56 = .ok (.goto 10, 3) := by decide +kernel
theorem dX4_chosen_59 : decode cX4_chosen 59 = .ok (.aload_n 0, 1) := by decide +kernel
theorem dX4_chosen_60 : decode cX4_chosen 60 = .ok (.bipush (-6), 2) := by decide +kernel
theorem dX4_chosen_62 : decode cX4_chosen 62 = .ok (.iload_n 2, 1) := by decide +kernel
theorem dX4_chosen_63 : decode cX4_chosen 63 = .ok (.invokevirtual 53, 3) := by decide +kernel
theorem dX4_chosen_66 : decode cX4_chosen 66 = .ok (.ireturn, 1) := by decide +kernel
theorem dX4_make_0 : decode cX4_make 0 = .ok (.aload_n 0, 1) := by decide +kernel
theorem dX4_make_1 : decode cX4_make 1 = .ok (.getfield 7, 3) := by decide +kernel
theorem dX4_make_4 : decode cX4_make 4 = .ok (.bipush 7, 2) := by decide +kernel
theorem dX4_make_6 : decode cX4_make 6 = .ok (.iload_n 1, 1) := by decide +kernel
theorem dX4_make_7 : decode cX4_make 7 = .ok (.iadd, 1) := by decide +kernel
theorem dX4_make_8 : decode cX4_make 8 = .ok (.iload_n 2, 1) := by decide +kernel
theorem dX4_make_9 : decode cX4_make 9 = .ok (.iastore, 1) := by decide +kernel
theorem dX4_make_10 : decode cX4_make 10 = .ok (.aload_n 0, 1) := by decide +kernel
theorem dX4_make_11 : decode cX4_make 11 = .ok (.getfield 7, 3) := by decide +kernel
theorem dX4_make_14 : decode cX4_make 14 = .ok (.bipush 23, 2) := by decide +kernel
theorem dX4_make_16 : decode cX4_make 16 = .ok (.iload_n 1, 1) := by decide +kernel
theorem dX4_make_17 : decode cX4_make 17 = .ok (.iadd, 1) := by decide +kernel
theorem dX4_make_18 : decode cX4_make 18 = .ok (.iload_n 3, 1) := by decide +kernel
theorem dX4_make_19 : decode cX4_make 19 = .ok (.iastore, 1) := by decide +kernel
theorem dX4_make_20 : decode cX4_make 20 = .ok (.aload_n 0, 1) := by decide +kernel
theorem dX4_make_21 : decode cX4_make 21 = .ok (.getfield 7, 3) := by decide +kernel
theorem dX4_make_24 : decode cX4_make 24 = .ok (.bipush 39, 2) := by decide +kernel
theorem dX4_make_26 : decode cX4_make 26 = .ok (.iload_n 1, 1) := by decide +kernel
theorem dX4_make_27 : decode cX4_make 27 = .ok (.iadd, 1) := by decide +kernel
theorem dX4_make_28 : decode cX4_make 28 = .ok (.aload_n 0, 1) := by decide +kernel
theorem dX4_make_29 : decode cX4_make 29 = .ok (.getfield 7, 3) := by decide +kernel
theorem dX4_make_32 : decode cX4_make 32 = .ok (.iconst 0, 1) := by decide +kernel
theorem dX4_make_33 : decode cX4_make 33 = .ok (.iaload, 1) := by decide +kernel
theorem dX4_make_34 : decode cX4_make 34 = .ok (.ifCond .le 8, 3) := by decide +kernel
theorem dX4_make_37 : decode cX4_make 37 = .ok (.iload 4, 2) := by decide +kernel
theorem dX4_make_39 : decode cX4_make 39 = .ok (.goto 5, 3) := by decide +kernel
theorem dX4_make_42 : decode cX4_make 42 = .ok (.bipush (-6), 2) := by decide +kernel
theorem dX4_make_44 : decode cX4_make 44 = .ok (.iastore, 1) := by decide +kernel
theorem dX4_make_45 : decode cX4_make 45 = .ok (.aload_n 0, 1) := by decide +kernel
theorem dX4_make_46 : decode cX4_make 46 = .ok (.getfield 7, 3) := by decide +kernel
theorem dX4_make_49 : decode cX4_make 49 = .ok (.bipush 55, 2) := by decide +kernel
theorem dX4_make_51 : decode cX4_make 51 = .ok (.iload_n 1, 1) := by decide +kernel
theorem dX4_make_52 : decode cX4_make 52 = .ok (.iadd, 1) := by decide +kernel
theorem dX4_make_53 : decode cX4_make 53 = .ok (.aload_n 0, 1) := by decide +kernel
theorem dX4_make_54 : decode cX4_make 54 = .ok (.getfield 7, 3) := by decide +kernel
theorem dX4_make_57 : decode cX4_make 57 = .ok (.iconst 0, 1) := by decide +kernel
theorem dX4_make_58 : decode cX4_make 58 = .ok (.iaload, 1) := by decide +kernel
theorem dX4_make_59 : decode cX4_make 59 = .ok (.iconst 1, 1) := by decide +kernel
theorem dX4_make_60 : decode cX4_make 60 = .ok (.if_icmp .le 8, 3) := by decide +kernel
theorem dX4_make_63 : decode cX4_make 63 = .ok (.iload 5, 2) := by decide +kernel
theorem dX4_make_65 : decode cX4_make 65 = .ok (.goto 5, 3) := by decide +kernel
theorem dX4_make_68 : decode cX4_make 68 = .ok (.bipush (-6), 2) := by decide +kernel
theorem dX4_make_70 : decode cX4_make 70 = .ok (.iastore, 1) := by decide +kernel
theorem dX4_make_71 : decode cX4_make 71 = .ok (.aload_n 0, 1) := by decide +kernel
theorem dX4_make_72 : decode cX4_make 72 = .ok (.getfield 7, 3) := by decide +kernel
theorem dX4_make_75 : decode cX4_make 75 = .ok (.bipush 71, 2) := by decide +kernel
theorem dX4_make_77 : decode cX4_make 77 = .ok (.iload_n 1, 1) := by decide +kernel
theorem dX4_make_78 : decode cX4_make 78 = .ok (.iadd, 1) := by decide +kernel
theorem dX4_make_79 : decode cX4_make 79 = .ok (.iconst 0, 1) := by decide +kernel
theorem dX4_make_80 : decode cX4_make 80 = .ok (.iastore, 1) := by decide +kernel
theorem dX4_make_81 : decode cX4_make 81 = .ok (.iconst 0, 1) := by decide +kernel
theorem dX4_make_82 : decode cX4_make 82 = .ok (.istore 6, 2) := by decide +kernel
theorem dX4_make_84 : decode cX4_make 84 = .ok (.iload 6, 2) := by decide +kernel
theorem dX4_make_86 : decode cX4_make 86 = .ok (.iconst 4, 1) := by decide +kernel
theorem dX4_make_87 : decode cX4_make 87 = .ok (.if_icmp .gt 24, 3) := by decide +kernel
theorem dX4_make_90 : decode cX4_make 90 = .ok (.aload_n 0, 1) := by decide +kernel
theorem dX4_make_91 : decode cX4_make 91 = .ok (.getfield 7, 3) := by decide +kernel
theorem dX4_make_94 : decode cX4_make 94 = .ok (.bipush 103, 2) := by decide +kernel
theorem dX4_make_96 : decode cX4_make 96 = .ok (.iconst 5, 1) := by decide +kernel
theorem dX4_make_97 : decode cX4_make 97 = .ok (.iload_n 1, 1) := by decide +kernel
theorem dX4_make_98 : decode cX4_make 98 = .ok (.imul, 1) := by decide +kernel
theorem dX4_make_99 : decode cX4_make 99 = .ok (.iadd, 1) := by decide +kernel
theorem dX4_make_100 : decode cX4_make 100 = .ok (.iload 6, 2) := by decide +kernel
theorem dX4_make_102 : decode cX4_make 102 = .ok (.iadd, 1) := by decide +kernel
theorem dX4_make_103 : decode cX4_make 103 = .ok (.iconst 0, 1) := by decide +kernel
theorem dX4_make_104 : decode cX4_make 104 = .ok (.iastore, 1) := by decide +kernel
theorem dX4_make_105 : decode cX4_make 105 = .ok (.iinc 6 1, 3) := by decide +kernel
theorem dX4_make_108 : decode cX4_make 108 = .ok (.goto (-24), 3) := by decide +kernel
theorem dX4_make_111 : decode cX4_make 111 = .ok (.return_, 1) := by decide +kernel
theorem dX4_send_0 : decode cX4_send 0 = .ok (.aload_n 0, 1) := by decide +kernel
theorem dX4_send_1 : decode cX4_send 1 = .ok (.iload_n 1, 1) := by decide +kernel
theorem dX4_send_2 : decode cX4_send 2 = .ok (.iload_n 2, 1) := by decide +kernel
theorem dX4_send_3 : decode cX4_send 3 = .ok (.iload_n 3, 1) := by decide +kernel
theorem dX4_send_4 : decode cX4_send 4 = .ok (.iload 4, 2) := by decide +kernel
theorem dX4_send_6 : decode cX4_send 6 = .ok (.invokevirtual 57, 3) := by decide +kernel
theorem dX4_send_9 : decode cX4_send 9 = .ok (.istore 6, 2) := by decide +kernel
theorem dX4_send_11 : decode cX4_send 11 = .ok (.iload 6, 2) := by decide +kernel
theorem dX4_send_13 : decode cX4_send 13 = .ok (.ifCond .ge 30, 3) := by decide +kernel
theorem dX4_send_16 : decode cX4_send 16 = .ok (.aload_n 0, 1) := by decide +kernel
theorem dX4_send_17 : decode cX4_send 17 = .ok (.iload_n 1, 1) := by decide +kernel
theorem dX4_send_18 : decode cX4_send 18 = .ok (.iload_n 2, 1) := by decide +kernel
theorem dX4_send_19 : decode cX4_send 19 = .ok (.invokevirtual 61, 3) := by decide +kernel
theorem dX4_send_22 : decode cX4_send 22 = .ok (.istore 6, 2) := by decide +kernel
theorem dX4_send_24 : decode cX4_send 24 = .ok (.iload 6, 2) := by decide +kernel
theorem dX4_send_26 : decode cX4_send 26 = .ok (.ifCond .ge 6, 3) := by decide +kernel
theorem dX4_send_29 : decode cX4_send 29 = .ok (.bipush (-5), 2) := by decide +kernel
theorem dX4_send_31 : decode cX4_send 31 = .ok (.ireturn, 1) := by decide +kernel
theorem dX4_send_32 : decode cX4_send 32 = .ok (.aload_n 0, 1) := by decide +kernel
theorem dX4_send_33 : decode cX4_send 33 = .ok (.iload 6, 2) := by decide +kernel
theorem dX4_send_35 : decode cX4_send 35 = .ok (.iload_n 1, 1) := by decide +kernel
theorem dX4_send_36 : decode cX4_send 36 = .ok (.iload_n 2, 1) := by decide +kernel
theorem dX4_send_37 : decode cX4_send 37 = .ok (.iload_n 3, 1) := by decide +kernel
theorem dX4_send_38 : decode cX4_send 38 = .ok (.iload 4, 2) := by decide +kernel
theorem dX4_send_40 : decode cX4_send 40 = .ok (.invokevirtual 64, 3) := by decide +kernel
theorem dX4_send_43 : decode cX4_send 43 = .ok (.aload_n 0, 1) := by decide +kernel
theorem dX4_send_44 : decode cX4_send 44 = .ok (.getfield 7, 3) := by decide +kernel
theorem dX4_send_47 : decode cX4_send 47 = .ok (.bipush 103, 2) := by decide +kernel
theorem dX4_send_49 : decode cX4_send 49 = .ok (.iconst 5, 1) := by decide +kernel
theorem dX4_send_50 : decode cX4_send 50 = .ok (.iload 6, 2) := by decide +kernel
theorem dX4_send_52 : decode cX4_send 52 = .ok (.imul, 1) := by decide +kernel
theorem dX4_send_53 : decode cX4_send 53 = .ok (.iadd, 1) := by decide +kernel
theorem dX4_send_54 : decode cX4_send 54 = .ok (.iload_n 3, 1) := by decide +kernel
theorem dX4_send_55 : decode cX4_send 55 = .ok (.iadd, 1) := by decide +kernel
theorem dX4_send_56 : decode cX4_send 56 = .ok (.dup2, 1) := by decide +kernel
theorem dX4_send_57 : decode cX4_send 57 = .ok (.iaload, 1) := by decide +kernel
theorem dX4_send_58 : decode cX4_send 58 = .ok (.iconst 1, 1) := by decide +kernel
theorem dX4_send_59 : decode cX4_send 59 = .ok (.iload 4, 2) := by decide +kernel
theorem dX4_send_61 : decode cX4_send 61 = .ok (.ishl, 1) := by decide +kernel
theorem dX4_send_62 : decode cX4_send 62 = .ok (.ior, 1) := by decide +kernel
theorem dX4_send_63 : decode cX4_send 63 = .ok (.iastore, 1) := by decide +kernel
theorem dX4_send_64 : decode cX4_send 64 = .ok (.aload_n 0, 1) := by decide +kernel
theorem dX4_send_65 : decode cX4_send 65 = .ok (.getfield 7, 3) := by decide +kernel
theorem dX4_send_68 : decode cX4_send 68 = .ok (.bipush 87, 2) := by decide +kernel
theorem dX4_send_70 : decode cX4_send 70 = .ok (.iload 6, 2) := by decide +kernel
theorem dX4_send_72 : decode cX4_send 72 = .ok (.iadd, 1) := by decide +kernel
theorem dX4_send_73 : decode cX4_send 73 = .ok (.aload_n 0, 1) := by decide +kernel
theorem dX4_send_74 : decode cX4_send 74 = .ok (.getfield 7, 3) := by decide +kernel
theorem dX4_send_77 : decode cX4_send 77 = .ok (.bipush 6, 2) := by decide +kernel
theorem dX4_send_79 : decode cX4_send 79 = .ok (.iaload, 1) := by decide +kernel
theorem dX4_send_80 : decode cX4_send 80 = .ok (.iastore, 1) := by decide +kernel
theorem dX4_send_81 : decode cX4_send 81 = .ok (.iload 5, 2) := by decide +kernel
theorem dX4_send_83 : decode cX4_send 83 = .ok (.iconst 2, 1) := by decide +kernel
theorem dX4_send_84 : decode cX4_send 84 = .ok (.if_icmp .ne 17, 3) := by decide +kernel
theorem dX4_send_87 : decode cX4_send 87 = .ok (.aload_n 0, 1) := by decide +kernel
theorem dX4_send_88 : decode cX4_send 88 = .ok (.getfield 7, 3) := by decide +kernel
theorem dX4_send_91 : decode cX4_send 91 = .ok (.bipush 71, 2) := by decide +kernel
theorem dX4_send_93 : decode cX4_send 93 = .ok (.iload 6, 2) := by decide +kernel
theorem dX4_send_95 : decode cX4_send 95 = .ok (.iadd, 1) := by decide +kernel
theorem dX4_send_96 : decode cX4_send 96 = .ok (.iconst 2, 1) := by decide +kernel
theorem dX4_send_97 : decode cX4_send 97 = .ok (.iastore, 1) := by decide +kernel
theorem dX4_send_98 : decode cX4_send 98 = .ok (.goto 34, 3) := by decide +kernel
theorem dX4_send_101 : decode cX4_send 101 = .ok (.iload 5, 2) := by decide +kernel
theorem dX4_send_103 : decode cX4_send 103 = .ok (.iconst 1, 1) := by decide +kernel
theorem dX4_send_104 : decode cX4_send 104 = .ok (.if_icmp .ne 28, 3) := by decide +kernel
theorem dX4_send_107 : decode cX4_send 107 = .ok (.aload_n 0, 1) := by decide +kernel
theorem dX4_send_108 : decode cX4_send 108 = .ok (.getfield 7, 3) := by decide +kernel
theorem dX4_send_111 : decode cX4_send 111 = .ok (.bipush 71, 2) := by decide +kernel
theorem dX4_send_113 : decode cX4_send 113 = .ok (.iload 6, 2) := by decide +kernel
theorem dX4_send_115 : decode cX4_send 115 = .ok (.iadd, 1) := by decide +kernel
theorem dX4_send_116 : decode cX4_send 116 = .ok (.iaload, 1) := by decide +kernel
theorem dX4_send_117 : decode cX4_send 117 = .ok (.iconst 2, 1) := by decide +kernel
theorem dX4_send_118 : decode cX4_send 118 = .ok (.if_icmp .ne 14, 3) := by decide +kernel
theorem dX4_send_121 : decode cX4_send 121 = .ok (.aload_n 0, 1) := by decide +kernel
theorem dX4_send_122 : decode cX4_send 122 = .ok (.getfield 7, 3) := by decide +kernel
theorem dX4_send_125 : decode cX4_send 125 = .ok (.bipush 71, 2) := by decide +kernel
theorem dX4_send_127 : decode cX4_send 127 = .ok (.iload 6, 2) := by decide +kernel
theorem dX4_send_129 : decode cX4_send 129 = .ok (.iadd, 1) := by decide +kernel
theorem dX4_send_130 : decode cX4_send 130 = .ok (.iconst 0, 1) := by decide +kernel
theorem dX4_send_131 : decode cX4_send 131 = .ok (.iastore, 1) := by decide +kernel
theorem dX4_send_132 : decode cX4_send 132 = .ok (.iload 6, 2) := by decide +kernel
theorem dX4_send_134 : decode cX4_send 134 = .ok (.ireturn, 1) := by decide +kernel
theorem dX4_out_0 : decode cX4_out 0 = .ok (.iload_n 1, 1) := by decide +kernel
theorem dX4_out_1 : decode cX4_out 1 = .ok (.invokestatic 68, 3) := by decide +kernel
theorem dX4_out_4 : decode cX4_out 4 = .ok (.ifCond .ne 5, 3) := by decide +kernel
theorem dX4_out_7 : decode cX4_out 7 = .ok (.iconst (-1), 1) := by decide +kernel
theorem dX4_out_8 : decode cX4_out 8 = .ok (.ireturn, 1) := by decide +kernel
theorem dX4_out_9 : decode cX4_out 9 = .ok (.iload_n 2, 1) := by decide +kernel
theorem dX4_out_10 : decode cX4_out 10 = .ok (.invokestatic 71, 3) := by decide +kernel
theorem dX4_out_13 : decode cX4_out 13 = .ok (.ifCond .eq 20, 3) := by decide +kernel
theorem dX4_out_16 : decode cX4_out 16 = .ok (.iload_n 3, 1) := by decide +kernel
theorem dX4_out_17 : decode cX4_out 17 = .ok (.iload 4, 2) := by decide +kernel
theorem dX4_out_19 : decode cX4_out 19 = .ok (.invokestatic 74, 3) := by decide +kernel
theorem dX4_out_22 : decode cX4_out 22 = .ok (.ifCond .eq 11, 3) := by decide +kernel
theorem dX4_out_25 : decode cX4_out 25 = .ok (.iload 5, 2) := by decide +kernel
theorem dX4_out_27 : decode cX4_out 27 = .ok (.invokestatic 77, 3) := by decide +kernel
theorem dX4_out_30 : decode cX4_out 30 = .ok (.ifCond .ne 6, 3) := by decide +kernel
theorem dX4_out_33 : decode cX4_out 33 = .ok (.bipush (-2), 2) := by decide +kernel
theorem dX4_out_35 : decode cX4_out 35 = .ok (.ireturn, 1) := by decide +kernel
theorem dX4_out_36 : decode cX4_out 36 = .ok (.aload_n 0, 1) := by decide +kernel
theorem dX4_out_37 : decode cX4_out 37 = .ok (.iload_n 1, 1) := by decide +kernel
theorem dX4_out_38 : decode cX4_out 38 = .ok (.iload_n 2, 1) := by decide +kernel
theorem dX4_out_39 : decode cX4_out 39 = .ok (.iload_n 3, 1) := by decide +kernel
theorem dX4_out_40 : decode cX4_out 40 = .ok (.iload 4, 2) := by decide +kernel
theorem dX4_out_42 : decode cX4_out 42 = .ok (.iload 5, 2) := by decide +kernel
theorem dX4_out_44 : decode cX4_out 44 = .ok (.invokevirtual 80, 3) := by decide +kernel
theorem dX4_out_47 : decode cX4_out 47 = .ok (.ireturn, 1) := by decide +kernel
theorem dX4_whyNot_0 : decode cX4_whyNot 0 = .ok (.aload_n 0, 1) := by decide +kernel
theorem dX4_whyNot_1 : decode cX4_whyNot 1 = .ok (.iload_n 3, 1) := by decide +kernel
theorem dX4_whyNot_2 : decode cX4_whyNot 2 = .ok (.invokevirtual 24, 3) := by decide +kernel
theorem dX4_whyNot_5 : decode cX4_whyNot 5 = .ok (.ifCond .ne 5, 3) := by decide +kernel
theorem dX4_whyNot_8 : decode cX4_whyNot 8 = .ok (.iconst 1, 1) := by decide +kernel
theorem dX4_whyNot_9 : decode cX4_whyNot 9 = .ok (.ireturn, 1) := by decide +kernel
theorem dX4_whyNot_10 : decode cX4_whyNot 10 = .ok (.aload_n 0, 1) := by decide +kernel
theorem dX4_whyNot_11 : decode cX4_whyNot 11 = .ok (.getfield 7, 3) := by decide +kernel
theorem dX4_whyNot_14 : decode cX4_whyNot 14 = .ok (.bipush 103, 2) := by decide +kernel
theorem dX4_whyNot_16 : decode cX4_whyNot 16 = .ok (.iconst 5, 1) := by decide +kernel
theorem dX4_whyNot_17 : decode cX4_whyNot 17 = .ok (.iload_n 3, 1) := by decide +kernel
theorem dX4_whyNot_18 : decode cX4_whyNot 18 = .ok (.imul, 1) := by decide +kernel
theorem dX4_whyNot_19 : decode cX4_whyNot 19 = .ok (.iadd, 1) := by decide +kernel
theorem dX4_whyNot_20 : decode cX4_whyNot 20 = .ok (.iload_n 1, 1) := by decide +kernel
theorem dX4_whyNot_21 : decode cX4_whyNot 21 = .ok (.iadd, 1) := by decide +kernel
theorem dX4_whyNot_22 : decode cX4_whyNot 22 = .ok (.iaload, 1) := by decide +kernel
theorem dX4_whyNot_23 : decode cX4_whyNot 23 = .ok (.istore 4, 2) := by decide +kernel
theorem dX4_whyNot_25 : decode cX4_whyNot 25 = .ok (.aload_n 0, 1) := by decide +kernel
theorem dX4_whyNot_26 : decode cX4_whyNot 26 = .ok (.getfield 7, 3) := by decide +kernel
theorem dX4_whyNot_29 : decode cX4_whyNot 29 = .ok (.iconst 1, 1) := by decide +kernel
theorem dX4_whyNot_30 : decode cX4_whyNot 30 = .ok (.iaload, 1) := by decide +kernel
theorem dX4_whyNot_31 : decode cX4_whyNot 31 = .ok (.iconst 1, 1) := by decide +kernel
theorem dX4_whyNot_32 : decode cX4_whyNot 32 = .ok (.if_icmp .ne 8, 3) := by decide +kernel
theorem dX4_whyNot_35 : decode cX4_whyNot 35 = .ok (.iload 4, 2) := by decide +kernel
theorem dX4_whyNot_37 : decode cX4_whyNot 37 = .ok (.ifCond .eq 22, 3) := by decide +kernel
theorem dX4_whyNot_40 : decode cX4_whyNot 40 = .ok (.aload_n 0, 1) := by decide +kernel
theorem dX4_whyNot_41 : decode cX4_whyNot 41 = .ok (.getfield 7, 3) := by decide +kernel
theorem dX4_whyNot_44 : decode cX4_whyNot 44 = .ok (.iconst 1, 1) := by decide +kernel
theorem dX4_whyNot_45 : decode cX4_whyNot 45 = .ok (.iaload, 1) := by decide +kernel
theorem dX4_whyNot_46 : decode cX4_whyNot 46 = .ok (.iconst 2, 1) := by decide +kernel
theorem dX4_whyNot_47 : decode cX4_whyNot 47 = .ok (.if_icmp .ne 14, 3) := by decide +kernel
theorem dX4_whyNot_50 : decode cX4_whyNot 50 = .ok (.iload 4, 2) := by decide +kernel
theorem dX4_whyNot_52 : decode cX4_whyNot 52 = .ok (.iload_n 2, 1) := by decide +kernel
theorem dX4_whyNot_53 : decode cX4_whyNot 53 = .ok (.ishr, 1) := by decide +kernel
theorem dX4_whyNot_54 : decode cX4_whyNot 54 = .ok (.iconst 1, 1) := by decide +kernel
theorem dX4_whyNot_55 : decode cX4_whyNot 55 = .ok (.iand, 1) := by decide +kernel
theorem dX4_whyNot_56 : decode cX4_whyNot 56 = .ok (.ifCond .ne 5, 3) := by decide +kernel
theorem dX4_whyNot_59 : decode cX4_whyNot 59 = .ok (.iconst 2, 1) := by decide +kernel
theorem dX4_whyNot_60 : decode cX4_whyNot 60 = .ok (.ireturn, 1) := by decide +kernel
theorem dX4_whyNot_61 : decode cX4_whyNot 61 = .ok (.iconst 0, 1) := by decide +kernel
theorem dX4_whyNot_62 : decode cX4_whyNot 62 = .ok (.ireturn, 1) := by decide +kernel
theorem dX4_insideOf_0 : decode cX4_insideOf 0 = .ok (.bipush 32, 2) := by decide +kernel
theorem dX4_insideOf_2 : decode cX4_insideOf 2 = .ok (.aload_n 0, 1) := by decide +kernel
theorem dX4_insideOf_3 : decode cX4_insideOf 3 = .ok (.getfield 7, 3) := by decide +kernel
theorem dX4_insideOf_6 : decode cX4_insideOf 6 = .ok (.bipush 7, 2) := by decide +kernel
theorem dX4_insideOf_8 : decode cX4_insideOf 8 = .ok (.iload_n 1, 1) := by decide +kernel
theorem dX4_insideOf_9 : decode cX4_insideOf 9 = .ok (.iadd, 1) := by decide +kernel
theorem dX4_insideOf_10 : decode cX4_insideOf 10 = .ok (.iaload, 1) := by decide +kernel
theorem dX4_insideOf_11 : decode cX4_insideOf 11 = .ok (.imul, 1) := by decide +kernel
theorem dX4_insideOf_12 : decode cX4_insideOf 12 = .ok (.aload_n 0, 1) := by decide +kernel
theorem dX4_insideOf_13 : decode cX4_insideOf 13 = .ok (.getfield 7, 3) := by decide +kernel
theorem dX4_insideOf_16 : decode cX4_insideOf 16 = .ok (.bipush 23, 2) := by decide +kernel
theorem dX4_insideOf_18 : decode cX4_insideOf 18 = .ok (.iload_n 1, 1) := by decide +kernel
theorem dX4_insideOf_19 : decode cX4_insideOf 19 = .ok (.iadd, 1) := by decide +kernel
theorem dX4_insideOf_20 : decode cX4_insideOf 20 = .ok (.iaload, 1) := by decide +kernel
theorem dX4_insideOf_21 : decode cX4_insideOf 21 = .ok (.iadd, 1) := by decide +kernel
theorem dX4_insideOf_22 : decode cX4_insideOf 22 = .ok (.ireturn, 1) := by decide +kernel
theorem dX4_receive_0 : decode cX4_receive 0 = .ok (.aload_n 0, 1) := by decide +kernel
theorem dX4_receive_1 : decode cX4_receive 1 = .ok (.iload_n 1, 1) := by decide +kernel
theorem dX4_receive_2 : decode cX4_receive 2 = .ok (.iload_n 2, 1) := by decide +kernel
theorem dX4_receive_3 : decode cX4_receive 3 = .ok (.iload_n 3, 1) := by decide +kernel
theorem dX4_receive_4 : decode cX4_receive 4 = .ok (.invokevirtual 84, 3) := by decide +kernel
theorem dX4_receive_7 : decode cX4_receive 7 = .ok (.ifCond .le 6, 3) := by decide +kernel
theorem dX4_receive_10 : decode cX4_receive 10 = .ok (.bipush (-6), 2) := by decide +kernel
theorem dX4_receive_12 : decode cX4_receive 12 = .ok (.ireturn, 1) := by decide +kernel
theorem dX4_receive_13 : decode cX4_receive 13 = .ok (.aload_n 0, 1) := by decide +kernel
theorem dX4_receive_14 : decode cX4_receive 14 = .ok (.getfield 7, 3) := by decide +kernel
theorem dX4_receive_17 : decode cX4_receive 17 = .ok (.bipush 87, 2) := by decide +kernel
theorem dX4_receive_19 : decode cX4_receive 19 = .ok (.iload_n 3, 1) := by decide +kernel
theorem dX4_receive_20 : decode cX4_receive 20 = .ok (.iadd, 1) := by decide +kernel
theorem dX4_receive_21 : decode cX4_receive 21 = .ok (.aload_n 0, 1) := by decide +kernel
theorem dX4_receive_22 : decode cX4_receive 22 = .ok (.getfield 7, 3) := by decide +kernel
theorem dX4_receive_25 : decode cX4_receive 25 = .ok (.bipush 6, 2) := by decide +kernel
theorem dX4_receive_27 : decode cX4_receive 27 = .ok (.iaload, 1) := by decide +kernel
theorem dX4_receive_28 : decode cX4_receive 28 = .ok (.iastore, 1) := by decide +kernel
theorem dX4_receive_29 : decode cX4_receive 29 = .ok (.iload 4, 2) := by decide +kernel
theorem dX4_receive_31 : decode cX4_receive 31 = .ok (.iconst 2, 1) := by decide +kernel
theorem dX4_receive_32 : decode cX4_receive 32 = .ok (.if_icmp .ne 16, 3) := by decide +kernel
theorem dX4_receive_35 : decode cX4_receive 35 = .ok (.aload_n 0, 1) := by decide +kernel
theorem dX4_receive_36 : decode cX4_receive 36 = .ok (.getfield 7, 3) := by decide +kernel
theorem dX4_receive_39 : decode cX4_receive 39 = .ok (.bipush 71, 2) := by decide +kernel
theorem dX4_receive_41 : decode cX4_receive 41 = .ok (.iload_n 3, 1) := by decide +kernel
theorem dX4_receive_42 : decode cX4_receive 42 = .ok (.iadd, 1) := by decide +kernel
theorem dX4_receive_43 : decode cX4_receive 43 = .ok (.iconst 2, 1) := by decide +kernel
theorem dX4_receive_44 : decode cX4_receive 44 = .ok (.iastore, 1) := by decide +kernel
theorem dX4_receive_45 : decode cX4_receive 45 = .ok (.goto 25, 3) := by decide +kernel
theorem dX4_receive_48 : decode cX4_receive 48 = .ok (.aload_n 0, 1) := by decide +kernel
theorem dX4_receive_49 : decode cX4_receive 49 = .ok (.getfield 7, 3) := by decide +kernel
theorem dX4_receive_52 : decode cX4_receive 52 = .ok (.bipush 71, 2) := by decide +kernel
theorem dX4_receive_54 : decode cX4_receive 54 = .ok (.iload_n 3, 1) := by decide +kernel
theorem dX4_receive_55 : decode cX4_receive 55 = .ok (.iadd, 1) := by decide +kernel
theorem dX4_receive_56 : decode cX4_receive 56 = .ok (.iaload, 1) := by decide +kernel
theorem dX4_receive_57 : decode cX4_receive 57 = .ok (.ifCond .ne 13, 3) := by decide +kernel
theorem dX4_receive_60 : decode cX4_receive 60 = .ok (.aload_n 0, 1) := by decide +kernel
theorem dX4_receive_61 : decode cX4_receive 61 = .ok (.getfield 7, 3) := by decide +kernel
theorem dX4_receive_64 : decode cX4_receive 64 = .ok (.bipush 71, 2) := by decide +kernel
theorem dX4_receive_66 : decode cX4_receive 66 = .ok (.iload_n 3, 1) := by decide +kernel
theorem dX4_receive_67 : decode cX4_receive 67 = .ok (.iadd, 1) := by decide +kernel
theorem dX4_receive_68 : decode cX4_receive 68 = .ok (.iconst 1, 1) := by decide +kernel
theorem dX4_receive_69 : decode cX4_receive 69 = .ok (.iastore, 1) := by decide +kernel
theorem dX4_receive_70 : decode cX4_receive 70 = .ok (.aload_n 0, 1) := by decide +kernel
theorem dX4_receive_71 : decode cX4_receive 71 = .ok (.iload_n 3, 1) := by decide +kernel
theorem dX4_receive_72 : decode cX4_receive 72 = .ok (.invokevirtual 88, 3) := by decide +kernel
theorem dX4_receive_75 : decode cX4_receive 75 = .ok (.ireturn, 1) := by decide +kernel
theorem dX4_in_0 : decode cX4_in 0 = .ok (.iload_n 1, 1) := by decide +kernel
theorem dX4_in_1 : decode cX4_in 1 = .ok (.iload_n 2, 1) := by decide +kernel
theorem dX4_in_2 : decode cX4_in 2 = .ok (.invokestatic 74, 3) := by decide +kernel
theorem dX4_in_5 : decode cX4_in 5 = .ok (.ifCond .ne 6, 3) := by decide +kernel
theorem dX4_in_8 : decode cX4_in 8 = .ok (.bipush (-2), 2) := by decide +kernel
theorem dX4_in_10 : decode cX4_in 10 = .ok (.ireturn, 1) := by decide +kernel
theorem dX4_in_11 : decode cX4_in 11 = .ok (.iload_n 3, 1) := by decide +kernel
theorem dX4_in_12 : decode cX4_in 12 = .ok (.invokestatic 91, 3) := by decide +kernel
theorem dX4_in_15 : decode cX4_in 15 = .ok (.ifCond .ne 5, 3) := by decide +kernel
theorem dX4_in_18 : decode cX4_in 18 = .ok (.iconst (-1), 1) := by decide +kernel
theorem dX4_in_19 : decode cX4_in 19 = .ok (.ireturn, 1) := by decide +kernel
theorem dX4_in_20 : decode cX4_in 20 = .ok (.iload 4, 2) := by decide +kernel
theorem dX4_in_22 : decode cX4_in 22 = .ok (.invokestatic 77, 3) := by decide +kernel
theorem dX4_in_25 : decode cX4_in 25 = .ok (.ifCond .ne 6, 3) := by decide +kernel
theorem dX4_in_28 : decode cX4_in 28 = .ok (.bipush (-2), 2) := by decide +kernel
theorem dX4_in_30 : decode cX4_in 30 = .ok (.ireturn, 1) := by decide +kernel
theorem dX4_in_31 : decode cX4_in 31 = .ok (.aload_n 0, 1) := by decide +kernel
theorem dX4_in_32 : decode cX4_in 32 = .ok (.iload_n 1, 1) := by decide +kernel
theorem dX4_in_33 : decode cX4_in 33 = .ok (.iload_n 2, 1) := by decide +kernel
theorem dX4_in_34 : decode cX4_in 34 = .ok (.iload_n 3, 1) := by decide +kernel
theorem dX4_in_35 : decode cX4_in 35 = .ok (.iload 4, 2) := by decide +kernel
theorem dX4_in_37 : decode cX4_in 37 = .ok (.invokevirtual 94, 3) := by decide +kernel
theorem dX4_in_40 : decode cX4_in 40 = .ok (.ireturn, 1) := by decide +kernel
theorem dX4_turn_0 : decode cX4_turn 0 = .ok (.iload_n 1, 1) := by decide +kernel
theorem dX4_turn_1 : decode cX4_turn 1 = .ok (.invokestatic 68, 3) := by decide +kernel
theorem dX4_turn_4 : decode cX4_turn 4 = .ok (.ifCond .ne 5, 3) := by decide +kernel
theorem dX4_turn_7 : decode cX4_turn 7 = .ok (.iconst (-1), 1) := by decide +kernel
theorem dX4_turn_8 : decode cX4_turn 8 = .ok (.ireturn, 1) := by decide +kernel
theorem dX4_turn_9 : decode cX4_turn 9 = .ok (.iload_n 2, 1) := by decide +kernel
theorem dX4_turn_10 : decode cX4_turn 10 = .ok (.invokestatic 71, 3) := by decide +kernel
theorem dX4_turn_13 : decode cX4_turn 13 = .ok (.ifCond .ne 6, 3) := by decide +kernel
theorem dX4_turn_16 : decode cX4_turn 16 = .ok (.bipush (-2), 2) := by decide +kernel
theorem dX4_turn_18 : decode cX4_turn 18 = .ok (.ireturn, 1) := by decide +kernel
theorem dX4_turn_19 : decode cX4_turn 19 = .ok (.iload_n 3, 1) := by decide +kernel
theorem dX4_turn_20 : decode cX4_turn 20 = .ok (.invokestatic 91, 3) := by decide +kernel
theorem dX4_turn_23 : decode cX4_turn 23 = .ok (.ifCond .ne 5, 3) := by decide +kernel
theorem dX4_turn_26 : decode cX4_turn 26 = .ok (.iconst (-1), 1) := by decide +kernel
theorem dX4_turn_27 : decode cX4_turn 27 = .ok (.ireturn, 1) := by decide +kernel
theorem dX4_turn_28 : decode cX4_turn 28 = .ok (.iload 4, 2) := by decide +kernel
theorem dX4_turn_30 : decode cX4_turn 30 = .ok (.invokestatic 77, 3) := by decide +kernel
theorem dX4_turn_33 : decode cX4_turn 33 = .ok (.ifCond .ne 6, 3) := by decide +kernel
theorem dX4_turn_36 : decode cX4_turn 36 = .ok (.bipush (-2), 2) := by decide +kernel
theorem dX4_turn_38 : decode cX4_turn 38 = .ok (.ireturn, 1) := by decide +kernel
theorem dX4_turn_39 : decode cX4_turn 39 = .ok (.aload_n 0, 1) := by decide +kernel
theorem dX4_turn_40 : decode cX4_turn 40 = .ok (.iload_n 1, 1) := by decide +kernel
theorem dX4_turn_41 : decode cX4_turn 41 = .ok (.iload_n 2, 1) := by decide +kernel
theorem dX4_turn_42 : decode cX4_turn 42 = .ok (.iconst 4, 1) := by decide +kernel
theorem dX4_turn_43 : decode cX4_turn 43 = .ok (.iload_n 3, 1) := by decide +kernel
theorem dX4_turn_44 : decode cX4_turn 44 = .ok (.iload 4, 2) := by decide +kernel
theorem dX4_turn_46 : decode cX4_turn 46 = .ok (.invokevirtual 80, 3) := by decide +kernel
theorem dX4_turn_49 : decode cX4_turn 49 = .ok (.istore 5, 2) := by decide +kernel
theorem dX4_turn_51 : decode cX4_turn 51 = .ok (.iload 5, 2) := by decide +kernel
theorem dX4_turn_53 : decode cX4_turn 53 = .ok (.ifCond .ge 8, 3) := by decide +kernel
theorem dX4_turn_56 : decode cX4_turn 56 = .ok (.iload 5, 2) := by decide +kernel
theorem dX4_turn_58 : decode cX4_turn 58 = .ok (.goto 13, 3) := by decide +kernel
theorem dX4_turn_61 : decode cX4_turn 61 = .ok (.aload_n 0, 1) := by decide +kernel
theorem dX4_turn_62 : decode cX4_turn 62 = .ok (.iconst 4, 1) := by decide +kernel
theorem dX4_turn_63 : decode cX4_turn 63 = .ok (.iload 5, 2) := by decide +kernel
theorem dX4_turn_65 : decode cX4_turn 65 = .ok (.iload_n 3, 1) := by decide +kernel
theorem dX4_turn_66 : decode cX4_turn 66 = .ok (.iload 4, 2) := by decide +kernel
theorem dX4_turn_68 : decode cX4_turn 68 = .ok (.invokevirtual 94, 3) := by decide +kernel
theorem dX4_turn_71 : decode cX4_turn 71 = .ok (.ireturn, 1) := by decide +kernel
theorem dX4_isKnown_0 : decode cX4_isKnown 0 = .ok (.aload_n 0, 1) := by decide +kernel
theorem dX4_isKnown_1 : decode cX4_isKnown 1 = .ok (.getfield 7, 3) := by decide +kernel
theorem dX4_isKnown_4 : decode cX4_isKnown 4 = .ok (.sipush 183, 3) := by decide +kernel
theorem dX4_isKnown_7 : decode cX4_isKnown 7 = .ok (.iload_n 1, 1) := by decide +kernel
theorem dX4_isKnown_8 : decode cX4_isKnown 8 = .ok (.iadd, 1) := by decide +kernel
theorem dX4_isKnown_9 : decode cX4_isKnown 9 = .ok (.iaload, 1) := by decide +kernel
theorem dX4_isKnown_10 : decode cX4_isKnown 10 = .ok (.aload_n 0, 1) := by decide +kernel
theorem dX4_isKnown_11 : decode cX4_isKnown 11 = .ok (.getfield 7, 3) := by decide +kernel
theorem dX4_isKnown_14 : decode cX4_isKnown 14 = .ok (.bipush 6, 2) := by decide +kernel
theorem dX4_isKnown_16 : decode cX4_isKnown 16 = .ok (.iaload, 1) := by decide +kernel
theorem dX4_isKnown_17 : decode cX4_isKnown 17 = .ok (.if_icmp .le 7, 3) := by decide +kernel
theorem dX4_isKnown_20 : decode cX4_isKnown 20 = .ok (.iconst 1, 1) := by decide +kernel
theorem dX4_isKnown_21 : decode cX4_isKnown 21 = .ok (.goto 4, 3) := by decide +kernel
theorem dX4_isKnown_24 : decode cX4_isKnown 24 = .ok (.iconst 0, 1) := by decide +kernel
theorem dX4_isKnown_25 : decode cX4_isKnown 25 = .ok (.ireturn, 1) := by decide +kernel
theorem dX4_isHeld_0 : decode cX4_isHeld 0 = .ok (.aload_n 0, 1) := by decide +kernel
theorem dX4_isHeld_1 : decode cX4_isHeld 1 = .ok (.getfield 7, 3) := by decide +kernel
theorem dX4_isHeld_4 : decode cX4_isHeld 4 = .ok (.sipush 247, 3) := by decide +kernel
theorem dX4_isHeld_7 : decode cX4_isHeld 7 = .ok (.bipush 8, 2) := by decide +kernel
theorem dX4_isHeld_9 : decode cX4_isHeld 9 = .ok (.iload_n 1, 1) := by decide +kernel
theorem dX4_isHeld_10 : decode cX4_isHeld 10 = .ok (.imul, 1) := by decide +kernel
theorem dX4_isHeld_11 : decode cX4_isHeld 11 = .ok (.iadd, 1) := by decide +kernel
theorem dX4_isHeld_12 : decode cX4_isHeld 12 = .ok (.iload_n 2, 1) := by decide +kernel
theorem dX4_isHeld_13 : decode cX4_isHeld 13 = .ok (.iadd, 1) := by decide +kernel
theorem dX4_isHeld_14 : decode cX4_isHeld 14 = .ok (.iaload, 1) := by decide +kernel
theorem dX4_isHeld_15 : decode cX4_isHeld 15 = .ok (.aload_n 0, 1) := by decide +kernel
theorem dX4_isHeld_16 : decode cX4_isHeld 16 = .ok (.getfield 7, 3) := by decide +kernel
theorem dX4_isHeld_19 : decode cX4_isHeld 19 = .ok (.bipush 6, 2) := by decide +kernel
theorem dX4_isHeld_21 : decode cX4_isHeld 21 = .ok (.iaload, 1) := by decide +kernel
theorem dX4_isHeld_22 : decode cX4_isHeld 22 = .ok (.if_icmp .le 7, 3) := by decide +kernel
theorem dX4_isHeld_25 : decode cX4_isHeld 25 = .ok (.iconst 1, 1) := by decide +kernel
theorem dX4_isHeld_26 : decode cX4_isHeld 26 = .ok (.goto 4, 3) := by decide +kernel
theorem dX4_isHeld_29 : decode cX4_isHeld 29 = .ok (.iconst 0, 1) := by decide +kernel
theorem dX4_isHeld_30 : decode cX4_isHeld 30 = .ok (.ireturn, 1) := by decide +kernel
theorem dX4_heldMany_0 : decode cX4_heldMany 0 = .ok (.iconst 0, 1) := by decide +kernel
theorem dX4_heldMany_1 : decode cX4_heldMany 1 = .ok (.istore_n 1, 1) := by decide +kernel
theorem dX4_heldMany_2 : decode cX4_heldMany 2 = .ok (.iconst 0, 1) := by decide +kernel
theorem dX4_heldMany_3 : decode cX4_heldMany 3 = .ok (.istore_n 2, 1) := by decide +kernel
theorem dX4_heldMany_4 : decode cX4_heldMany 4 = .ok (.iload_n 2, 1) := by decide +kernel
theorem dX4_heldMany_5 : decode cX4_heldMany 5 = .ok (.sipush 256, 3) := by decide +kernel
theorem dX4_heldMany_8 : decode cX4_heldMany 8 = .ok (.if_icmp .ge 37, 3) := by decide +kernel
theorem dX4_heldMany_11 : decode cX4_heldMany 11 = .ok (.iload_n 1, 1) := by decide +kernel
theorem dX4_heldMany_12 : decode cX4_heldMany 12 = .ok (.aload_n 0, 1) := by decide +kernel
theorem dX4_heldMany_13 : decode cX4_heldMany 13 = .ok (.getfield 7, 3) := by decide +kernel
theorem dX4_heldMany_16 : decode cX4_heldMany 16 = .ok (.sipush 247, 3) := by decide +kernel
theorem dX4_heldMany_19 : decode cX4_heldMany 19 = .ok (.iload_n 2, 1) := by decide +kernel
theorem dX4_heldMany_20 : decode cX4_heldMany 20 = .ok (.iadd, 1) := by decide +kernel
theorem dX4_heldMany_21 : decode cX4_heldMany 21 = .ok (.iaload, 1) := by decide +kernel
theorem dX4_heldMany_22 : decode cX4_heldMany 22 = .ok (.aload_n 0, 1) := by decide +kernel
theorem dX4_heldMany_23 : decode cX4_heldMany 23 = .ok (.getfield 7, 3) := by decide +kernel
theorem dX4_heldMany_26 : decode cX4_heldMany 26 = .ok (.bipush 6, 2) := by decide +kernel
theorem dX4_heldMany_28 : decode cX4_heldMany 28 = .ok (.iaload, 1) := by decide +kernel
theorem dX4_heldMany_29 : decode cX4_heldMany 29 = .ok (.if_icmp .le 7, 3) := by decide +kernel
theorem dX4_heldMany_32 : decode cX4_heldMany 32 = .ok (.iconst 1, 1) := by decide +kernel
theorem dX4_heldMany_33 : decode cX4_heldMany 33 = .ok (.goto 4, 3) := by decide +kernel
theorem dX4_heldMany_36 : decode cX4_heldMany 36 = .ok (.iconst 0, 1) := by decide +kernel
theorem dX4_heldMany_37 : decode cX4_heldMany 37 = .ok (.iadd, 1) := by decide +kernel
theorem dX4_heldMany_38 : decode cX4_heldMany 38 = .ok (.istore_n 1, 1) := by decide +kernel
theorem dX4_heldMany_39 : decode cX4_heldMany 39 = .ok (.iinc 2 1, 3) := by decide +kernel
theorem dX4_heldMany_42 : decode cX4_heldMany 42 = .ok (.goto (-38), 3) := by decide +kernel
theorem dX4_heldMany_45 : decode cX4_heldMany 45 = .ok (.iload_n 1, 1) := by decide +kernel
theorem dX4_heldMany_46 : decode cX4_heldMany 46 = .ok (.ireturn, 1) := by decide +kernel
theorem dX4_letGo_0 : decode cX4_letGo 0 = .ok (.iconst 0, 1) := by decide +kernel
theorem dX4_letGo_1 : decode cX4_letGo 1 = .ok (.istore_n 2, 1) := by decide +kernel
theorem dX4_letGo_2 : decode cX4_letGo 2 = .ok (.iconst 0, 1) := by decide +kernel
theorem dX4_letGo_3 : decode cX4_letGo 3 = .ok (.istore_n 3, 1) := by decide +kernel
theorem dX4_letGo_4 : decode cX4_letGo 4 = .ok (.iload_n 3, 1) := by decide +kernel
theorem dX4_letGo_5 : decode cX4_letGo 5 = .ok (.bipush 8, 2) := by decide +kernel
theorem dX4_letGo_7 : decode cX4_letGo 7 = .ok (.if_icmp .ge 42, 3) := by decide +kernel
theorem dX4_letGo_10 : decode cX4_letGo 10 = .ok (.iload_n 2, 1) := by decide +kernel
theorem dX4_letGo_11 : decode cX4_letGo 11 = .ok (.aload_n 0, 1) := by decide +kernel
theorem dX4_letGo_12 : decode cX4_letGo 12 = .ok (.iload_n 1, 1) := by decide +kernel
theorem dX4_letGo_13 : decode cX4_letGo 13 = .ok (.iload_n 3, 1) := by decide +kernel
theorem dX4_letGo_14 : decode cX4_letGo 14 = .ok (.invokevirtual 97, 3) := by decide +kernel
theorem dX4_letGo_17 : decode cX4_letGo 17 = .ok (.ifCond .eq 7, 3) := by decide +kernel
theorem dX4_letGo_20 : decode cX4_letGo 20 = .ok (.iconst 1, 1) := by decide +kernel
theorem dX4_letGo_21 : decode cX4_letGo 21 = .ok (.goto 4, 3) := by decide +kernel
theorem dX4_letGo_24 : decode cX4_letGo 24 = .ok (.iconst 0, 1) := by decide +kernel
theorem dX4_letGo_25 : decode cX4_letGo 25 = .ok (.iadd, 1) := by decide +kernel
theorem dX4_letGo_26 : decode cX4_letGo 26 = .ok (.istore_n 2, 1) := by decide +kernel
theorem dX4_letGo_27 : decode cX4_letGo 27 = .ok (.aload_n 0, 1) := by decide +kernel
theorem dX4_letGo_28 : decode cX4_letGo 28 = .ok (.getfield 7, 3) := by decide +kernel
theorem dX4_letGo_31 : decode cX4_letGo 31 = .ok (.sipush 247, 3) := by decide +kernel
theorem dX4_letGo_34 : decode cX4_letGo 34 = .ok (.bipush 8, 2) := by decide +kernel
theorem dX4_letGo_36 : decode cX4_letGo 36 = .ok (.iload_n 1, 1) := by decide +kernel
theorem dX4_letGo_37 : decode cX4_letGo 37 = .ok (.imul, 1) := by decide +kernel
theorem dX4_letGo_38 : decode cX4_letGo 38 = .ok (.iadd, 1) := by decide +kernel
theorem dX4_letGo_39 : decode cX4_letGo 39 = .ok (.iload_n 3, 1) := by decide +kernel
theorem dX4_letGo_40 : decode cX4_letGo 40 = .ok (.iadd, 1) := by decide +kernel
theorem dX4_letGo_41 : decode cX4_letGo 41 = .ok (.iconst 0, 1) := by decide +kernel
theorem dX4_letGo_42 : decode cX4_letGo 42 = .ok (.iastore, 1) := by decide +kernel
theorem dX4_letGo_43 : decode cX4_letGo 43 = .ok (.iinc 3 1, 3) := by decide +kernel
theorem dX4_letGo_46 : decode cX4_letGo 46 = .ok (.goto (-42), 3) := by decide +kernel
theorem dX4_letGo_49 : decode cX4_letGo 49 = .ok (.iload_n 2, 1) := by decide +kernel
theorem dX4_letGo_50 : decode cX4_letGo 50 = .ok (.ireturn, 1) := by decide +kernel
theorem dX4_first_0 : decode cX4_first 0 = .ok (.aload_n 0, 1) := by decide +kernel
theorem dX4_first_1 : decode cX4_first 1 = .ok (.iload_n 2, 1) := by decide +kernel
theorem dX4_first_2 : decode cX4_first 2 = .ok (.invokevirtual 100, 3) := by decide +kernel
theorem dX4_first_5 : decode cX4_first 5 = .ok (.istore 5, 2) := by decide +kernel
theorem dX4_first_7 : decode cX4_first 7 = .ok (.aload_n 0, 1) := by decide +kernel
theorem dX4_first_8 : decode cX4_first 8 = .ok (.iload_n 1, 1) := by decide +kernel
theorem dX4_first_9 : decode cX4_first 9 = .ok (.iload_n 3, 1) := by decide +kernel
theorem dX4_first_10 : decode cX4_first 10 = .ok (.iload 4, 2) := by decide +kernel
theorem dX4_first_12 : decode cX4_first 12 = .ok (.iconst 0, 1) := by decide +kernel
theorem dX4_first_13 : decode cX4_first 13 = .ok (.invokevirtual 94, 3) := by decide +kernel
theorem dX4_first_16 : decode cX4_first 16 = .ok (.ifCond .ge 17, 3) := by decide +kernel
theorem dX4_first_19 : decode cX4_first 19 = .ok (.aload_n 0, 1) := by decide +kernel
theorem dX4_first_20 : decode cX4_first 20 = .ok (.getfield 7, 3) := by decide +kernel
theorem dX4_first_23 : decode cX4_first 23 = .ok (.sipush 183, 3) := by decide +kernel
theorem dX4_first_26 : decode cX4_first 26 = .ok (.iload_n 2, 1) := by decide +kernel
theorem dX4_first_27 : decode cX4_first 27 = .ok (.iadd, 1) := by decide +kernel
theorem dX4_first_28 : decode cX4_first 28 = .ok (.iconst 0, 1) := by decide +kernel
theorem dX4_first_29 : decode cX4_first 29 = .ok (.iastore, 1) := by decide +kernel
theorem dX4_first_30 : decode cX4_first 30 = .ok (.bipush (-6), 2) := by decide +kernel
theorem dX4_first_32 : decode cX4_first 32 = .ok (.ireturn, 1) := by decide +kernel
theorem dX4_first_33 : decode cX4_first 33 = .ok (.aload_n 0, 1) := by decide +kernel
theorem dX4_first_34 : decode cX4_first 34 = .ok (.getfield 7, 3) := by decide +kernel
theorem dX4_first_37 : decode cX4_first 37 = .ok (.sipush 183, 3) := by decide +kernel
theorem dX4_first_40 : decode cX4_first 40 = .ok (.iload_n 2, 1) := by decide +kernel
theorem dX4_first_41 : decode cX4_first 41 = .ok (.iadd, 1) := by decide +kernel
theorem dX4_first_42 : decode cX4_first 42 = .ok (.aload_n 0, 1) := by decide +kernel
theorem dX4_first_43 : decode cX4_first 43 = .ok (.getfield 7, 3) := by decide +kernel
theorem dX4_first_46 : decode cX4_first 46 = .ok (.bipush 6, 2) := by decide +kernel
theorem dX4_first_48 : decode cX4_first 48 = .ok (.iaload, 1) := by decide +kernel
theorem dX4_first_49 : decode cX4_first 49 = .ok (.iconst 5, 1) := by decide +kernel
theorem dX4_first_50 : decode cX4_first 50 = .ok (.iadd, 1) := by decide +kernel
theorem dX4_first_51 : decode cX4_first 51 = .ok (.iastore, 1) := by decide +kernel
theorem dX4_first_52 : decode cX4_first 52 = .ok (.aload_n 0, 1) := by decide +kernel
theorem dX4_first_53 : decode cX4_first 53 = .ok (.getfield 7, 3) := by decide +kernel
theorem dX4_first_56 : decode cX4_first 56 = .ok (.sipush 215, 3) := by decide +kernel
theorem dX4_first_59 : decode cX4_first 59 = .ok (.iload_n 2, 1) := by decide +kernel
theorem dX4_first_60 : decode cX4_first 60 = .ok (.iadd, 1) := by decide +kernel
theorem dX4_first_61 : decode cX4_first 61 = .ok (.iload 4, 2) := by decide +kernel
theorem dX4_first_63 : decode cX4_first 63 = .ok (.iastore, 1) := by decide +kernel
theorem dX4_first_64 : decode cX4_first 64 = .ok (.iload 5, 2) := by decide +kernel
theorem dX4_first_66 : decode cX4_first 66 = .ok (.iconst 1, 1) := by decide +kernel
theorem dX4_first_67 : decode cX4_first 67 = .ok (.iadd, 1) := by decide +kernel
theorem dX4_first_68 : decode cX4_first 68 = .ok (.ireturn, 1) := by decide +kernel
theorem dX4_hold_0 : decode cX4_hold 0 = .ok (.aload_n 0, 1) := by decide +kernel
theorem dX4_hold_1 : decode cX4_hold 1 = .ok (.iload_n 1, 1) := by decide +kernel
theorem dX4_hold_2 : decode cX4_hold 2 = .ok (.iload_n 2, 1) := by decide +kernel
theorem dX4_hold_3 : decode cX4_hold 3 = .ok (.invokevirtual 97, 3) := by decide +kernel
theorem dX4_hold_6 : decode cX4_hold 6 = .ok (.ifCond .eq 5, 3) := by decide +kernel
theorem dX4_hold_9 : decode cX4_hold 9 = .ok (.iconst 0, 1) := by decide +kernel
theorem dX4_hold_10 : decode cX4_hold 10 = .ok (.ireturn, 1) := by decide +kernel
theorem dX4_hold_11 : decode cX4_hold 11 = .ok (.aload_n 0, 1) := by decide +kernel
theorem dX4_hold_12 : decode cX4_hold 12 = .ok (.invokevirtual 103, 3) := by decide +kernel
theorem dX4_hold_15 : decode cX4_hold 15 = .ok (.bipush 6, 2) := by decide +kernel
theorem dX4_hold_17 : decode cX4_hold 17 = .ok (.if_icmp .ne 6, 3) := by decide +kernel
theorem dX4_hold_20 : decode cX4_hold 20 = .ok (.bipush (-4), 2) := by decide +kernel
theorem dX4_hold_22 : decode cX4_hold 22 = .ok (.ireturn, 1) := by decide +kernel
theorem dX4_hold_23 : decode cX4_hold 23 = .ok (.aload_n 0, 1) := by decide +kernel
theorem dX4_hold_24 : decode cX4_hold 24 = .ok (.getfield 7, 3) := by decide +kernel
theorem dX4_hold_27 : decode cX4_hold 27 = .ok (.sipush 247, 3) := by decide +kernel
theorem dX4_hold_30 : decode cX4_hold 30 = .ok (.bipush 8, 2) := by decide +kernel
theorem dX4_hold_32 : decode cX4_hold 32 = .ok (.iload_n 1, 1) := by decide +kernel
theorem dX4_hold_33 : decode cX4_hold 33 = .ok (.imul, 1) := by decide +kernel
theorem dX4_hold_34 : decode cX4_hold 34 = .ok (.iadd, 1) := by decide +kernel
theorem dX4_hold_35 : decode cX4_hold 35 = .ok (.iload_n 2, 1) := by decide +kernel
theorem dX4_hold_36 : decode cX4_hold 36 = .ok (.iadd, 1) := by decide +kernel
theorem dX4_hold_37 : decode cX4_hold 37 = .ok (.aload_n 0, 1) := by decide +kernel
theorem dX4_hold_38 : decode cX4_hold 38 = .ok (.getfield 7, 3) := by decide +kernel
theorem dX4_hold_41 : decode cX4_hold 41 = .ok (.bipush 6, 2) := by decide +kernel
theorem dX4_hold_43 : decode cX4_hold 43 = .ok (.iaload, 1) := by decide +kernel
theorem dX4_hold_44 : decode cX4_hold 44 = .ok (.iconst 5, 1) := by decide +kernel
theorem dX4_hold_45 : decode cX4_hold 45 = .ok (.iadd, 1) := by decide +kernel
theorem dX4_hold_46 : decode cX4_hold 46 = .ok (.iastore, 1) := by decide +kernel
theorem dX4_hold_47 : decode cX4_hold 47 = .ok (.iconst 0, 1) := by decide +kernel
theorem dX4_hold_48 : decode cX4_hold 48 = .ok (.ireturn, 1) := by decide +kernel
theorem dX4_part_0 : decode cX4_part 0 = .ok (.iload_n 1, 1) := by decide +kernel
theorem dX4_part_1 : decode cX4_part 1 = .ok (.iconst 0, 1) := by decide +kernel
theorem dX4_part_2 : decode cX4_part 2 = .ok (.iconst 3, 1) := by decide +kernel
theorem dX4_part_3 : decode cX4_part 3 = .ok (.invokestatic 20, 3) := by decide +kernel
theorem dX4_part_6 : decode cX4_part 6 = .ok (.ifCond .eq 23, 3) := by decide +kernel
theorem dX4_part_9 : decode cX4_part 9 = .ok (.iload_n 2, 1) := by decide +kernel
theorem dX4_part_10 : decode cX4_part 10 = .ok (.iconst 0, 1) := by decide +kernel
theorem dX4_part_11 : decode cX4_part 11 = .ok (.bipush 7, 2) := by decide +kernel
theorem dX4_part_13 : decode cX4_part 13 = .ok (.invokestatic 20, 3) := by decide +kernel
theorem dX4_part_16 : decode cX4_part 16 = .ok (.ifCond .eq 13, 3) := by decide +kernel
theorem dX4_part_19 : decode cX4_part 19 = .ok (.iload_n 3, 1) := by decide +kernel
theorem dX4_part_20 : decode cX4_part 20 = .ok (.iconst 0, 1) := by decide +kernel
theorem dX4_part_21 : decode cX4_part 21 = .ok (.bipush 7, 2) := by decide +kernel
theorem dX4_part_23 : decode cX4_part 23 = .ok (.invokestatic 20, 3) := by decide +kernel
theorem dX4_part_26 : decode cX4_part 26 = .ok (.ifCond .ne 6, 3) := by decide +kernel
theorem dX4_part_29 : decode cX4_part 29 = .ok (.bipush (-2), 2) := by decide +kernel
theorem dX4_part_31 : decode cX4_part 31 = .ok (.ireturn, 1) := by decide +kernel
theorem dX4_part_32 : decode cX4_part 32 = .ok (.bipush 8, 2) := by decide +kernel
theorem dX4_part_34 : decode cX4_part 34 = .ok (.iload_n 1, 1) := by decide +kernel
theorem dX4_part_35 : decode cX4_part 35 = .ok (.imul, 1) := by decide +kernel
theorem dX4_part_36 : decode cX4_part 36 = .ok (.iload_n 2, 1) := by decide +kernel
theorem dX4_part_37 : decode cX4_part 37 = .ok (.iadd, 1) := by decide +kernel
theorem dX4_part_38 : decode cX4_part 38 = .ok (.istore 6, 2) := by decide +kernel
theorem dX4_part_40 : decode cX4_part 40 = .ok (.iload_n 3, 1) := by decide +kernel
theorem dX4_part_41 : decode cX4_part 41 = .ok (.ifCond .le 24, 3) := by decide +kernel
theorem dX4_part_44 : decode cX4_part 44 = .ok (.aload_n 0, 1) := by decide +kernel
theorem dX4_part_45 : decode cX4_part 45 = .ok (.iload 6, 2) := by decide +kernel
theorem dX4_part_47 : decode cX4_part 47 = .ok (.invokevirtual 106, 3) := by decide +kernel
theorem dX4_part_50 : decode cX4_part 50 = .ok (.ifCond .eq 7, 3) := by decide +kernel
theorem dX4_part_53 : decode cX4_part 53 = .ok (.iconst 1, 1) := by decide +kernel
theorem dX4_part_54 : decode cX4_part 54 = .ok (.goto 10, 3) := by decide +kernel
theorem dX4_part_57 : decode cX4_part 57 = .ok (.aload_n 0, 1) := by decide +kernel
theorem dX4_part_58 : decode cX4_part 58 = .ok (.iload 6, 2) := by decide +kernel
theorem dX4_part_60 : decode cX4_part 60 = .ok (.iload_n 3, 1) := by decide +kernel
theorem dX4_part_61 : decode cX4_part 61 = .ok (.invokevirtual 109, 3) := by decide +kernel
theorem dX4_part_64 : decode cX4_part 64 = .ok (.ireturn, 1) := by decide +kernel
theorem dX4_part_65 : decode cX4_part 65 = .ok (.iload 4, 2) := by decide +kernel
theorem dX4_part_67 : decode cX4_part 67 = .ok (.invokestatic 71, 3) := by decide +kernel
theorem dX4_part_70 : decode cX4_part 70 = .ok (.ifCond .ne 6, 3) := by decide +kernel
theorem dX4_part_73 : decode cX4_part 73 = .ok (.bipush (-2), 2) := by decide +kernel
theorem dX4_part_75 : decode cX4_part 75 = .ok (.ireturn, 1) := by decide +kernel
theorem dX4_part_76 : decode cX4_part 76 = .ok (.iload 5, 2) := by decide +kernel
theorem dX4_part_78 : decode cX4_part 78 = .ok (.invokestatic 91, 3) := by decide +kernel
theorem dX4_part_81 : decode cX4_part 81 = .ok (.ifCond .eq 17, 3) := by decide +kernel
theorem dX4_part_84 : decode cX4_part 84 = .ok (.aload_n 0, 1) := by decide +kernel
theorem dX4_part_85 : decode cX4_part 85 = .ok (.iload_n 1, 1) := by decide +kernel
theorem dX4_part_86 : decode cX4_part 86 = .ok (.iload 6, 2) := by decide +kernel
theorem dX4_part_88 : decode cX4_part 88 = .ok (.iload 4, 2) := by decide +kernel
theorem dX4_part_90 : decode cX4_part 90 = .ok (.iload 5, 2) := by decide +kernel
theorem dX4_part_92 : decode cX4_part 92 = .ok (.invokevirtual 112, 3) := by decide +kernel
theorem dX4_part_95 : decode cX4_part 95 = .ok (.goto 4, 3) := by decide +kernel
theorem dX4_part_98 : decode cX4_part 98 = .ok (.iconst (-1), 1) := by decide +kernel
theorem dX4_part_99 : decode cX4_part 99 = .ok (.ireturn, 1) := by decide +kernel
theorem dX4_tick_0 : decode cX4_tick 0 = .ok (.iload_n 1, 1) := by decide +kernel
theorem dX4_tick_1 : decode cX4_tick 1 = .ok (.iconst 1, 1) := by decide +kernel
theorem dX4_tick_2 : decode cX4_tick 2 = .ok (.bipush 100, 2) := by decide +kernel
theorem dX4_tick_4 : decode cX4_tick 4 = .ok (.invokestatic 20, 3) := by decide +kernel
theorem dX4_tick_7 : decode cX4_tick 7 = .ok (.ifCond .ne 6, 3) := by decide +kernel
theorem dX4_tick_10 : decode cX4_tick 10 = .ok (.bipush (-2), 2) := by decide +kernel
theorem dX4_tick_12 : decode cX4_tick 12 = .ok (.ireturn, 1) := by decide +kernel
theorem dX4_tick_13 : decode cX4_tick 13 = .ok (.iconst 0, 1) := by decide +kernel
theorem dX4_tick_14 : decode cX4_tick 14 = .ok (.istore_n 2, 1) := by decide +kernel
theorem dX4_tick_15 : decode cX4_tick 15 = .ok (.iconst 0, 1) := by decide +kernel
theorem dX4_tick_16 : decode cX4_tick 16 = .ok (.istore_n 3, 1) := by decide +kernel
theorem dX4_tick_17 : decode cX4_tick 17 = .ok (.iload_n 3, 1) := by decide +kernel
theorem dX4_tick_18 : decode cX4_tick 18 = .ok (.iload_n 1, 1) := by decide +kernel
theorem dX4_tick_19 : decode cX4_tick 19 = .ok (.if_icmp .ge 27, 3) := by decide +kernel
theorem dX4_tick_22 : decode cX4_tick 22 = .ok (.aload_n 0, 1) := by decide +kernel
theorem dX4_tick_23 : decode cX4_tick 23 = .ok (.getfield 7, 3) := by decide +kernel
theorem dX4_tick_26 : decode cX4_tick 26 = .ok (.bipush 6, 2) := by decide +kernel
theorem dX4_tick_28 : decode cX4_tick 28 = .ok (.dup2, 1) := by decide +kernel
theorem dX4_tick_29 : decode cX4_tick 29 = .ok (.iaload, 1) := by decide +kernel
theorem dX4_tick_30 : decode cX4_tick 30 = .ok (.iconst 1, 1) := by decide +kernel
theorem dX4_tick_31 : decode cX4_tick 31 = .ok (.iadd, 1) := by decide +kernel
theorem dX4_tick_32 : decode cX4_tick 32 = .ok (.iastore, 1) := by decide +kernel
theorem dX4_tick_33 : decode cX4_tick 33 = .ok (.iload_n 2, 1) := by decide +kernel
theorem dX4_tick_34 : decode cX4_tick 34 = .ok (.aload_n 0, 1) := by decide +kernel
theorem dX4_tick_35 : decode cX4_tick 35 = .ok (.invokevirtual 42, 3) := by decide +kernel
theorem dX4_tick_38 : decode cX4_tick 38 = .ok (.iadd, 1) := by decide +kernel
theorem dX4_tick_39 : decode cX4_tick 39 = .ok (.istore_n 2, 1) := by decide +kernel
theorem dX4_tick_40 : decode cX4_tick 40 = .ok (.iinc 3 1, 3) := by decide +kernel
theorem dX4_tick_43 : decode cX4_tick 43 = .ok (.goto (-26), 3) := by decide +kernel
theorem dX4_tick_46 : decode cX4_tick 46 = .ok (.iload_n 2, 1) := by decide +kernel
theorem dX4_tick_47 : decode cX4_tick 47 = .ok (.ireturn, 1) := by decide +kernel
theorem dX4_drop_0 : decode cX4_drop 0 = .ok (.iload_n 1, 1) := by decide +kernel
theorem dX4_drop_1 : decode cX4_drop 1 = .ok (.invokestatic 68, 3) := by decide +kernel
theorem dX4_drop_4 : decode cX4_drop 4 = .ok (.ifCond .ne 5, 3) := by decide +kernel
theorem dX4_drop_7 : decode cX4_drop 7 = .ok (.iconst (-1), 1) := by decide +kernel
theorem dX4_drop_8 : decode cX4_drop 8 = .ok (.ireturn, 1) := by decide +kernel
theorem dX4_drop_9 : decode cX4_drop 9 = .ok (.iconst 0, 1) := by decide +kernel
theorem dX4_drop_10 : decode cX4_drop 10 = .ok (.istore_n 2, 1) := by decide +kernel
theorem dX4_drop_11 : decode cX4_drop 11 = .ok (.iconst 0, 1) := by decide +kernel
theorem dX4_drop_12 : decode cX4_drop 12 = .ok (.istore_n 3, 1) := by decide +kernel
theorem dX4_drop_13 : decode cX4_drop 13 = .ok (.iload_n 3, 1) := by decide +kernel
theorem dX4_drop_14 : decode cX4_drop 14 = .ok (.bipush 16, 2) := by decide +kernel
theorem dX4_drop_16 : decode cX4_drop 16 = .ok (.if_icmp .ge 30, 3) := by decide +kernel
theorem dX4_drop_19 : decode cX4_drop 19 = .ok (.aload_n 0, 1) := by decide +kernel
theorem dX4_drop_20 : decode cX4_drop 20 = .ok (.getfield 7, 3) := by decide +kernel
theorem dX4_drop_23 : decode cX4_drop 23 = .ok (.bipush 7, 2) := by decide +kernel
theorem dX4_drop_25 : decode cX4_drop 25 = .ok (.iload_n 3, 1) := by decide +kernel
theorem dX4_drop_26 : decode cX4_drop 26 = .ok (.iadd, 1) := by decide +kernel
theorem dX4_drop_27 : decode cX4_drop 27 = .ok (.iaload, 1) := by decide +kernel
theorem dX4_drop_28 : decode cX4_drop 28 = .ok (.iload_n 1, 1) := by decide +kernel
theorem dX4_drop_29 : decode cX4_drop 29 = .ok (.if_icmp .ne 11, 3) := by decide +kernel
theorem dX4_drop_32 : decode cX4_drop 32 = .ok (.aload_n 0, 1) := by decide +kernel
theorem dX4_drop_33 : decode cX4_drop 33 = .ok (.iload_n 3, 1) := by decide +kernel
theorem dX4_drop_34 : decode cX4_drop 34 = .ok (.invokevirtual 32, 3) := by decide +kernel
theorem dX4_drop_37 : decode cX4_drop 37 = .ok (.iinc 2 1, 3) := by decide +kernel
theorem dX4_drop_40 : decode cX4_drop 40 = .ok (.iinc 3 1, 3) := by decide +kernel
theorem dX4_drop_43 : decode cX4_drop 43 = .ok (.goto (-30), 3) := by decide +kernel
theorem dX4_drop_46 : decode cX4_drop 46 = .ok (.iload_n 2, 1) := by decide +kernel
theorem dX4_drop_47 : decode cX4_drop 47 = .ok (.ireturn, 1) := by decide +kernel
theorem dX4_sentMany_0 : decode cX4_sentMany 0 = .ok (.iconst 0, 1) := by decide +kernel
theorem dX4_sentMany_1 : decode cX4_sentMany 1 = .ok (.istore_n 2, 1) := by decide +kernel
theorem dX4_sentMany_2 : decode cX4_sentMany 2 = .ok (.iconst 0, 1) := by decide +kernel
theorem dX4_sentMany_3 : decode cX4_sentMany 3 = .ok (.istore_n 3, 1) := by decide +kernel
theorem dX4_sentMany_4 : decode cX4_sentMany 4 = .ok (.iload_n 3, 1) := by decide +kernel
theorem dX4_sentMany_5 : decode cX4_sentMany 5 = .ok (.iconst 4, 1) := by decide +kernel
theorem dX4_sentMany_6 : decode cX4_sentMany 6 = .ok (.if_icmp .gt 46, 3) := by decide +kernel
theorem dX4_sentMany_9 : decode cX4_sentMany 9 = .ok (.iconst 0, 1) := by decide +kernel
theorem dX4_sentMany_10 : decode cX4_sentMany 10 = .ok (.istore 4, 2) := by decide +kernel
theorem dX4_sentMany_12 : decode cX4_sentMany 12 = .ok (.iload 4, 2) := by decide +kernel
theorem dX4_sentMany_14 : decode cX4_sentMany 14 = .ok (.bipush 32, 2) := by decide +kernel
theorem dX4_sentMany_16 : decode cX4_sentMany 16 = .ok (.if_icmp .ge 30, 3) := by decide +kernel
theorem dX4_sentMany_19 : decode cX4_sentMany 19 = .ok (.iload_n 2, 1) := by decide +kernel
theorem dX4_sentMany_20 : decode cX4_sentMany 20 = .ok (.aload_n 0, 1) := by decide +kernel
theorem dX4_sentMany_21 : decode cX4_sentMany 21 = .ok (.getfield 7, 3) := by decide +kernel
theorem dX4_sentMany_24 : decode cX4_sentMany 24 = .ok (.bipush 103, 2) := by decide +kernel
theorem dX4_sentMany_26 : decode cX4_sentMany 26 = .ok (.iconst 5, 1) := by decide +kernel
theorem dX4_sentMany_27 : decode cX4_sentMany 27 = .ok (.iload_n 1, 1) := by decide +kernel
theorem dX4_sentMany_28 : decode cX4_sentMany 28 = .ok (.imul, 1) := by decide +kernel
theorem dX4_sentMany_29 : decode cX4_sentMany 29 = .ok (.iadd, 1) := by decide +kernel
theorem dX4_sentMany_30 : decode cX4_sentMany 30 = .ok (.iload_n 3, 1) := by decide +kernel
theorem dX4_sentMany_31 : decode cX4_sentMany 31 = .ok (.iadd, 1) := by decide +kernel
theorem dX4_sentMany_32 : decode cX4_sentMany 32 = .ok (.iaload, 1) := by decide +kernel
theorem dX4_sentMany_33 : decode cX4_sentMany 33 = .ok (.iload 4, 2) := by decide +kernel
theorem dX4_sentMany_35 : decode cX4_sentMany 35 = .ok (.ishr, 1) := by decide +kernel
theorem dX4_sentMany_36 : decode cX4_sentMany 36 = .ok (.iconst 1, 1) := by decide +kernel
theorem dX4_sentMany_37 : decode cX4_sentMany 37 = .ok (.iand, 1) := by decide +kernel
theorem dX4_sentMany_38 : decode cX4_sentMany 38 = .ok (.iadd, 1) := by decide +kernel
theorem dX4_sentMany_39 : decode cX4_sentMany 39 = .ok (.istore_n 2, 1) := by decide +kernel
theorem dX4_sentMany_40 : decode cX4_sentMany 40 = .ok (.iinc 4 1, 3) := by decide +kernel
theorem dX4_sentMany_43 : decode cX4_sentMany 43 = .ok (.goto (-31), 3) := by decide +kernel
theorem dX4_sentMany_46 : decode cX4_sentMany 46 = .ok (.iinc 3 1, 3) := by decide +kernel
theorem dX4_sentMany_49 : decode cX4_sentMany 49 = .ok (.goto (-45), 3) := by decide +kernel
theorem dX4_sentMany_52 : decode cX4_sentMany 52 = .ok (.iload_n 2, 1) := by decide +kernel
theorem dX4_sentMany_53 : decode cX4_sentMany 53 = .ok (.ireturn, 1) := by decide +kernel
theorem dX4_toldOf_0 : decode cX4_toldOf 0 = .ok (.iload_n 2, 1) := by decide +kernel
theorem dX4_toldOf_1 : decode cX4_toldOf 1 = .ok (.tableswitch 81 0 4 #[35, 41, 51, 65, 71], 35) := by decide +kernel
theorem dX4_toldOf_36 : decode cX4_toldOf 36 = .ok (.aload_n 0, 1) := by decide +kernel
theorem dX4_toldOf_37 : decode cX4_toldOf 37 = .ok (.iload_n 1, 1) := by decide +kernel
theorem dX4_toldOf_38 : decode cX4_toldOf 38 = .ok (.invokevirtual 88, 3) := by decide +kernel
theorem dX4_toldOf_41 : decode cX4_toldOf 41 = .ok (.ireturn, 1) := by decide +kernel
theorem dX4_toldOf_42 : decode cX4_toldOf 42 = .ok (.aload_n 0, 1) := by decide +kernel
theorem dX4_toldOf_43 : decode cX4_toldOf 43 = .ok (.getfield 7, 3) := by decide +kernel
theorem dX4_toldOf_46 : decode cX4_toldOf 46 = .ok (.bipush 71, 2) := by decide +kernel
theorem dX4_toldOf_48 : decode cX4_toldOf 48 = .ok (.iload_n 1, 1) := by decide +kernel
theorem dX4_toldOf_49 : decode cX4_toldOf 49 = .ok (.iadd, 1) := by decide +kernel
theorem dX4_toldOf_50 : decode cX4_toldOf 50 = .ok (.iaload, 1) := by decide +kernel
theorem dX4_toldOf_51 : decode cX4_toldOf 51 = .ok (.ireturn, 1) := by decide +kernel
theorem dX4_toldOf_52 : decode cX4_toldOf 52 = .ok (.aload_n 0, 1) := by decide +kernel
theorem dX4_toldOf_53 : decode cX4_toldOf 53 = .ok (.iload_n 1, 1) := by decide +kernel
theorem dX4_toldOf_54 : decode cX4_toldOf 54 = .ok (.invokevirtual 28, 3) := by decide +kernel
theorem dX4_toldOf_57 : decode cX4_toldOf 57 = .ok (.aload_n 0, 1) := by decide +kernel
theorem dX4_toldOf_58 : decode cX4_toldOf 58 = .ok (.getfield 7, 3) := by decide +kernel
theorem dX4_toldOf_61 : decode cX4_toldOf 61 = .ok (.bipush 6, 2) := by decide +kernel
theorem dX4_toldOf_63 : decode cX4_toldOf 63 = .ok (.iaload, 1) := by decide +kernel
theorem dX4_toldOf_64 : decode cX4_toldOf 64 = .ok (.isub, 1) := by decide +kernel
theorem dX4_toldOf_65 : decode cX4_toldOf 65 = .ok (.ireturn, 1) := by decide +kernel
theorem dX4_toldOf_66 : decode cX4_toldOf 66 = .ok (.aload_n 0, 1) := by decide +kernel
theorem dX4_toldOf_67 : decode cX4_toldOf 67 = .ok (.iload_n 1, 1) := by decide +kernel
theorem dX4_toldOf_68 : decode cX4_toldOf 68 = .ok (.invokevirtual 115, 3) := by decide +kernel
theorem dX4_toldOf_71 : decode cX4_toldOf 71 = .ok (.ireturn, 1) := by decide +kernel
theorem dX4_toldOf_72 : decode cX4_toldOf 72 = .ok (.aload_n 0, 1) := by decide +kernel
theorem dX4_toldOf_73 : decode cX4_toldOf 73 = .ok (.getfield 7, 3) := by decide +kernel
theorem dX4_toldOf_76 : decode cX4_toldOf 76 = .ok (.bipush 39, 2) := by decide +kernel
theorem dX4_toldOf_78 : decode cX4_toldOf 78 = .ok (.iload_n 1, 1) := by decide +kernel
theorem dX4_toldOf_79 : decode cX4_toldOf 79 = .ok (.iadd, 1) := by decide +kernel
theorem dX4_toldOf_80 : decode cX4_toldOf 80 = .ok (.iaload, 1) := by decide +kernel
theorem dX4_toldOf_81 : decode cX4_toldOf 81 = .ok (.ireturn, 1) := by decide +kernel
theorem dX4_toldOf_82 : decode cX4_toldOf 82 = .ok (.aload_n 0, 1) := by decide +kernel
theorem dX4_toldOf_83 : decode cX4_toldOf 83 = .ok (.getfield 7, 3) := by decide +kernel
theorem dX4_toldOf_86 : decode cX4_toldOf 86 = .ok (.bipush 55, 2) := by decide +kernel
theorem dX4_toldOf_88 : decode cX4_toldOf 88 = .ok (.iload_n 1, 1) := by decide +kernel
theorem dX4_toldOf_89 : decode cX4_toldOf 89 = .ok (.iadd, 1) := by decide +kernel
theorem dX4_toldOf_90 : decode cX4_toldOf 90 = .ok (.iaload, 1) := by decide +kernel
theorem dX4_toldOf_91 : decode cX4_toldOf 91 = .ok (.ireturn, 1) := by decide +kernel
theorem dX4_of_0 : decode cX4_of 0 = .ok (.iload_n 1, 1) := by decide +kernel
theorem dX4_of_1 : decode cX4_of 1 = .ok (.invokestatic 91, 3) := by decide +kernel
theorem dX4_of_4 : decode cX4_of 4 = .ok (.ifCond .ne 5, 3) := by decide +kernel
theorem dX4_of_7 : decode cX4_of 7 = .ok (.iconst (-1), 1) := by decide +kernel
theorem dX4_of_8 : decode cX4_of 8 = .ok (.ireturn, 1) := by decide +kernel
theorem dX4_of_9 : decode cX4_of 9 = .ok (.iload_n 2, 1) := by decide +kernel
theorem dX4_of_10 : decode cX4_of 10 = .ok (.iconst 0, 1) := by decide +kernel
theorem dX4_of_11 : decode cX4_of 11 = .ok (.iconst 5, 1) := by decide +kernel
theorem dX4_of_12 : decode cX4_of 12 = .ok (.invokestatic 20, 3) := by decide +kernel
theorem dX4_of_15 : decode cX4_of 15 = .ok (.ifCond .ne 6, 3) := by decide +kernel
theorem dX4_of_18 : decode cX4_of 18 = .ok (.bipush (-2), 2) := by decide +kernel
theorem dX4_of_20 : decode cX4_of 20 = .ok (.ireturn, 1) := by decide +kernel
theorem dX4_of_21 : decode cX4_of 21 = .ok (.aload_n 0, 1) := by decide +kernel
theorem dX4_of_22 : decode cX4_of 22 = .ok (.iload_n 1, 1) := by decide +kernel
theorem dX4_of_23 : decode cX4_of 23 = .ok (.invokevirtual 24, 3) := by decide +kernel
theorem dX4_of_26 : decode cX4_of 26 = .ok (.ifCond .eq 12, 3) := by decide +kernel
theorem dX4_of_29 : decode cX4_of 29 = .ok (.aload_n 0, 1) := by decide +kernel
theorem dX4_of_30 : decode cX4_of 30 = .ok (.iload_n 1, 1) := by decide +kernel
theorem dX4_of_31 : decode cX4_of 31 = .ok (.iload_n 2, 1) := by decide +kernel
theorem dX4_of_32 : decode cX4_of 32 = .ok (.invokevirtual 118, 3) := by decide +kernel
theorem dX4_of_35 : decode cX4_of 35 = .ok (.goto 5, 3) := by decide +kernel
theorem dX4_of_38 : decode cX4_of 38 = .ok (.bipush (-6), 2) := by decide +kernel
theorem dX4_of_40 : decode cX4_of 40 = .ok (.ireturn, 1) := by decide +kernel
theorem dX4_sent_0 : decode cX4_sent 0 = .ok (.iload_n 1, 1) := by decide +kernel
theorem dX4_sent_1 : decode cX4_sent 1 = .ok (.invokestatic 91, 3) := by decide +kernel
theorem dX4_sent_4 : decode cX4_sent 4 = .ok (.ifCond .ne 5, 3) := by decide +kernel
theorem dX4_sent_7 : decode cX4_sent 7 = .ok (.iconst (-1), 1) := by decide +kernel
theorem dX4_sent_8 : decode cX4_sent 8 = .ok (.ireturn, 1) := by decide +kernel
theorem dX4_sent_9 : decode cX4_sent 9 = .ok (.iload_n 2, 1) := by decide +kernel
theorem dX4_sent_10 : decode cX4_sent 10 = .ok (.iload_n 3, 1) := by decide +kernel
theorem dX4_sent_11 : decode cX4_sent 11 = .ok (.invokestatic 74, 3) := by decide +kernel
theorem dX4_sent_14 : decode cX4_sent 14 = .ok (.ifCond .ne 6, 3) := by decide +kernel
theorem dX4_sent_17 : decode cX4_sent 17 = .ok (.bipush (-2), 2) := by decide +kernel
theorem dX4_sent_19 : decode cX4_sent 19 = .ok (.ireturn, 1) := by decide +kernel
theorem dX4_sent_20 : decode cX4_sent 20 = .ok (.aload_n 0, 1) := by decide +kernel
theorem dX4_sent_21 : decode cX4_sent 21 = .ok (.iload_n 1, 1) := by decide +kernel
theorem dX4_sent_22 : decode cX4_sent 22 = .ok (.invokevirtual 24, 3) := by decide +kernel
theorem dX4_sent_25 : decode cX4_sent 25 = .ok (.ifCond .eq 23, 3) := by decide +kernel
theorem dX4_sent_28 : decode cX4_sent 28 = .ok (.aload_n 0, 1) := by decide +kernel
theorem dX4_sent_29 : decode cX4_sent 29 = .ok (.getfield 7, 3) := by decide +kernel
theorem dX4_sent_32 : decode cX4_sent 32 = .ok (.bipush 103, 2) := by decide +kernel
theorem dX4_sent_34 : decode cX4_sent 34 = .ok (.iconst 5, 1) := by decide +kernel
theorem dX4_sent_35 : decode cX4_sent 35 = .ok (.iload_n 1, 1) := by decide +kernel
theorem dX4_sent_36 : decode cX4_sent 36 = .ok (.imul, 1) := by decide +kernel
theorem dX4_sent_37 : decode cX4_sent 37 = .ok (.iadd, 1) := by decide +kernel
theorem dX4_sent_38 : decode cX4_sent 38 = .ok (.iload_n 2, 1) := by decide +kernel
theorem dX4_sent_39 : decode cX4_sent 39 = .ok (.iadd, 1) := by decide +kernel
theorem dX4_sent_40 : decode cX4_sent 40 = .ok (.iaload, 1) := by decide +kernel
theorem dX4_sent_41 : decode cX4_sent 41 = .ok (.iload_n 3, 1) := by decide +kernel
theorem dX4_sent_42 : decode cX4_sent 42 = .ok (.ishr, 1) := by decide +kernel
theorem dX4_sent_43 : decode cX4_sent 43 = .ok (.iconst 1, 1) := by decide +kernel
theorem dX4_sent_44 : decode cX4_sent 44 = .ok (.iand, 1) := by decide +kernel
theorem dX4_sent_45 : decode cX4_sent 45 = .ok (.goto 5, 3) := by decide +kernel
theorem dX4_sent_48 : decode cX4_sent 48 = .ok (.bipush (-6), 2) := by decide +kernel
theorem dX4_sent_50 : decode cX4_sent 50 = .ok (.ireturn, 1) := by decide +kernel
theorem dX4_find_0 : decode cX4_find 0 = .ok (.iload_n 1, 1) := by decide +kernel
theorem dX4_find_1 : decode cX4_find 1 = .ok (.invokestatic 68, 3) := by decide +kernel
theorem dX4_find_4 : decode cX4_find 4 = .ok (.ifCond .ne 5, 3) := by decide +kernel
theorem dX4_find_7 : decode cX4_find 7 = .ok (.iconst (-1), 1) := by decide +kernel
theorem dX4_find_8 : decode cX4_find 8 = .ok (.ireturn, 1) := by decide +kernel
theorem dX4_find_9 : decode cX4_find 9 = .ok (.iload_n 2, 1) := by decide +kernel
theorem dX4_find_10 : decode cX4_find 10 = .ok (.invokestatic 71, 3) := by decide +kernel
theorem dX4_find_13 : decode cX4_find 13 = .ok (.ifCond .eq 24, 3) := by decide +kernel
theorem dX4_find_16 : decode cX4_find 16 = .ok (.iload_n 3, 1) := by decide +kernel
theorem dX4_find_17 : decode cX4_find 17 = .ok (.iload 4, 2) := by decide +kernel
theorem dX4_find_19 : decode cX4_find 19 = .ok (.invokestatic 74, 3) := by decide +kernel
theorem dX4_find_22 : decode cX4_find 22 = .ok (.ifCond .eq 15, 3) := by decide +kernel
theorem dX4_find_25 : decode cX4_find 25 = .ok (.aload_n 0, 1) := by decide +kernel
theorem dX4_find_26 : decode cX4_find 26 = .ok (.iload_n 1, 1) := by decide +kernel
theorem dX4_find_27 : decode cX4_find 27 = .ok (.iload_n 2, 1) := by decide +kernel
theorem dX4_find_28 : decode cX4_find 28 = .ok (.iload_n 3, 1) := by decide +kernel
theorem dX4_find_29 : decode cX4_find 29 = .ok (.iload 4, 2) := by decide +kernel
theorem dX4_find_31 : decode cX4_find 31 = .ok (.invokevirtual 57, 3) := by decide +kernel
theorem dX4_find_34 : decode cX4_find 34 = .ok (.goto 5, 3) := by decide +kernel
theorem dX4_find_37 : decode cX4_find 37 = .ok (.bipush (-2), 2) := by decide +kernel
theorem dX4_find_39 : decode cX4_find 39 = .ok (.ireturn, 1) := by decide +kernel
theorem dX4_next_0 : decode cX4_next 0 = .ok (.iload_n 1, 1) := by decide +kernel
theorem dX4_next_1 : decode cX4_next 1 = .ok (.invokestatic 68, 3) := by decide +kernel
theorem dX4_next_4 : decode cX4_next 4 = .ok (.ifCond .ne 5, 3) := by decide +kernel
theorem dX4_next_7 : decode cX4_next 7 = .ok (.iconst (-1), 1) := by decide +kernel
theorem dX4_next_8 : decode cX4_next 8 = .ok (.ireturn, 1) := by decide +kernel
theorem dX4_next_9 : decode cX4_next 9 = .ok (.iload_n 2, 1) := by decide +kernel
theorem dX4_next_10 : decode cX4_next 10 = .ok (.invokestatic 71, 3) := by decide +kernel
theorem dX4_next_13 : decode cX4_next 13 = .ok (.ifCond .eq 12, 3) := by decide +kernel
theorem dX4_next_16 : decode cX4_next 16 = .ok (.aload_n 0, 1) := by decide +kernel
theorem dX4_next_17 : decode cX4_next 17 = .ok (.iload_n 1, 1) := by decide +kernel
theorem dX4_next_18 : decode cX4_next 18 = .ok (.iload_n 2, 1) := by decide +kernel
theorem dX4_next_19 : decode cX4_next 19 = .ok (.invokevirtual 61, 3) := by decide +kernel
theorem dX4_next_22 : decode cX4_next 22 = .ok (.goto 5, 3) := by decide +kernel
theorem dX4_next_25 : decode cX4_next 25 = .ok (.bipush (-2), 2) := by decide +kernel
theorem dX4_next_27 : decode cX4_next 27 = .ok (.ireturn, 1) := by decide +kernel
theorem dX4_why_0 : decode cX4_why 0 = .ok (.iload_n 1, 1) := by decide +kernel
theorem dX4_why_1 : decode cX4_why 1 = .ok (.iload_n 2, 1) := by decide +kernel
theorem dX4_why_2 : decode cX4_why 2 = .ok (.invokestatic 74, 3) := by decide +kernel
theorem dX4_why_5 : decode cX4_why 5 = .ok (.ifCond .ne 6, 3) := by decide +kernel
theorem dX4_why_8 : decode cX4_why 8 = .ok (.bipush (-2), 2) := by decide +kernel
theorem dX4_why_10 : decode cX4_why 10 = .ok (.ireturn, 1) := by decide +kernel
theorem dX4_why_11 : decode cX4_why 11 = .ok (.iload_n 3, 1) := by decide +kernel
theorem dX4_why_12 : decode cX4_why 12 = .ok (.invokestatic 91, 3) := by decide +kernel
theorem dX4_why_15 : decode cX4_why 15 = .ok (.ifCond .eq 13, 3) := by decide +kernel
theorem dX4_why_18 : decode cX4_why 18 = .ok (.aload_n 0, 1) := by decide +kernel
theorem dX4_why_19 : decode cX4_why 19 = .ok (.iload_n 1, 1) := by decide +kernel
theorem dX4_why_20 : decode cX4_why 20 = .ok (.iload_n 2, 1) := by decide +kernel
theorem dX4_why_21 : decode cX4_why 21 = .ok (.iload_n 3, 1) := by decide +kernel
theorem dX4_why_22 : decode cX4_why 22 = .ok (.invokevirtual 84, 3) := by decide +kernel
theorem dX4_why_25 : decode cX4_why 25 = .ok (.goto 4, 3) := by decide +kernel
theorem dX4_why_28 : decode cX4_why 28 = .ok (.iconst (-1), 1) := by decide +kernel
theorem dX4_why_29 : decode cX4_why 29 = .ok (.ireturn, 1) := by decide +kernel
theorem dX4_block_0 : decode cX4_block 0 = .ok (.iload_n 1, 1) := by decide +kernel
theorem dX4_block_1 : decode cX4_block 1 = .ok (.iconst 0, 1) := by decide +kernel
theorem dX4_block_2 : decode cX4_block 2 = .ok (.iconst 3, 1) := by decide +kernel
theorem dX4_block_3 : decode cX4_block 3 = .ok (.invokestatic 20, 3) := by decide +kernel
theorem dX4_block_6 : decode cX4_block 6 = .ok (.ifCond .eq 11, 3) := by decide +kernel
theorem dX4_block_9 : decode cX4_block 9 = .ok (.aload_n 0, 1) := by decide +kernel
theorem dX4_block_10 : decode cX4_block 10 = .ok (.iload_n 1, 1) := by decide +kernel
theorem dX4_block_11 : decode cX4_block 11 = .ok (.invokevirtual 46, 3) := by decide +kernel
theorem dX4_block_14 : decode cX4_block 14 = .ok (.goto 4, 3) := by decide +kernel
theorem dX4_block_17 : decode cX4_block 17 = .ok (.iconst (-1), 1) := by decide +kernel
theorem dX4_block_18 : decode cX4_block 18 = .ok (.ireturn, 1) := by decide +kernel
theorem dX4_bindingsOf_0 : decode cX4_bindingsOf 0 = .ok (.iconst 0, 1) := by decide +kernel
theorem dX4_bindingsOf_1 : decode cX4_bindingsOf 1 = .ok (.istore_n 2, 1) := by decide +kernel
theorem dX4_bindingsOf_2 : decode cX4_bindingsOf 2 = .ok (.iconst 0, 1) := by decide +kernel
theorem dX4_bindingsOf_3 : decode cX4_bindingsOf 3 = .ok (.istore_n 3, 1) := by decide +kernel
theorem dX4_bindingsOf_4 : decode cX4_bindingsOf 4 = .ok (.iload_n 3, 1) := by decide +kernel
theorem dX4_bindingsOf_5 : decode cX4_bindingsOf 5 = .ok (.bipush 16, 2) := by decide +kernel
theorem dX4_bindingsOf_7 : decode cX4_bindingsOf 7 = .ok (.if_icmp .ge 30, 3) := by decide +kernel
theorem dX4_bindingsOf_10 : decode cX4_bindingsOf 10 = .ok (.iload_n 2, 1) := by decide +kernel
theorem dX4_bindingsOf_11 : decode cX4_bindingsOf 11 = .ok (.aload_n 0, 1) := by decide +kernel
theorem dX4_bindingsOf_12 : decode cX4_bindingsOf 12 = .ok (.getfield 7, 3) := by decide +kernel
theorem dX4_bindingsOf_15 : decode cX4_bindingsOf 15 = .ok (.bipush 7, 2) := by decide +kernel
theorem dX4_bindingsOf_17 : decode cX4_bindingsOf 17 = .ok (.iload_n 3, 1) := by decide +kernel
theorem dX4_bindingsOf_18 : decode cX4_bindingsOf 18 = .ok (.iadd, 1) := by decide +kernel
theorem dX4_bindingsOf_19 : decode cX4_bindingsOf 19 = .ok (.iaload, 1) := by decide +kernel
theorem dX4_bindingsOf_20 : decode cX4_bindingsOf 20 = .ok (.iload_n 1, 1) := by decide +kernel
theorem dX4_bindingsOf_21 : decode cX4_bindingsOf 21 = .ok (.if_icmp .ne 7, 3) := by decide +kernel
theorem dX4_bindingsOf_24 : decode cX4_bindingsOf 24 = .ok (.iconst 1, 1) := by decide +kernel
theorem dX4_bindingsOf_25 : decode cX4_bindingsOf 25 = .ok (.goto 4, 3) := by decide +kernel
theorem dX4_bindingsOf_28 : decode cX4_bindingsOf 28 = .ok (.iconst 0, 1) := by decide +kernel
theorem dX4_bindingsOf_29 : decode cX4_bindingsOf 29 = .ok (.iadd, 1) := by decide +kernel
theorem dX4_bindingsOf_30 : decode cX4_bindingsOf 30 = .ok (.istore_n 2, 1) := by decide +kernel
theorem dX4_bindingsOf_31 : decode cX4_bindingsOf 31 = .ok (.iinc 3 1, 3) := by decide +kernel
theorem dX4_bindingsOf_34 : decode cX4_bindingsOf 34 = .ok (.goto (-30), 3) := by decide +kernel
theorem dX4_bindingsOf_37 : decode cX4_bindingsOf 37 = .ok (.iload_n 2, 1) := by decide +kernel
theorem dX4_bindingsOf_38 : decode cX4_bindingsOf 38 = .ok (.ireturn, 1) := by decide +kernel
theorem dX4_blocksOf_0 : decode cX4_blocksOf 0 = .ok (.iconst 0, 1) := by decide +kernel
theorem dX4_blocksOf_1 : decode cX4_blocksOf 1 = .ok (.istore_n 2, 1) := by decide +kernel
theorem dX4_blocksOf_2 : decode cX4_blocksOf 2 = .ok (.iconst 0, 1) := by decide +kernel
theorem dX4_blocksOf_3 : decode cX4_blocksOf 3 = .ok (.istore_n 3, 1) := by decide +kernel
theorem dX4_blocksOf_4 : decode cX4_blocksOf 4 = .ok (.iload_n 3, 1) := by decide +kernel
theorem dX4_blocksOf_5 : decode cX4_blocksOf 5 = .ok (.iconst 4, 1) := by decide +kernel
theorem dX4_blocksOf_6 : decode cX4_blocksOf 6 = .ok (.if_icmp .ge 28, 3) := by decide +kernel
theorem dX4_blocksOf_9 : decode cX4_blocksOf 9 = .ok (.iload_n 2, 1) := by decide +kernel
theorem dX4_blocksOf_10 : decode cX4_blocksOf 10 = .ok (.aload_n 0, 1) := by decide +kernel
theorem dX4_blocksOf_11 : decode cX4_blocksOf 11 = .ok (.iload_n 3, 1) := by decide +kernel
theorem dX4_blocksOf_12 : decode cX4_blocksOf 12 = .ok (.invokevirtual 46, 3) := by decide +kernel
theorem dX4_blocksOf_15 : decode cX4_blocksOf 15 = .ok (.iload_n 1, 1) := by decide +kernel
theorem dX4_blocksOf_16 : decode cX4_blocksOf 16 = .ok (.if_icmp .ne 9, 3) := by decide +kernel
theorem dX4_blocksOf_19 : decode cX4_blocksOf 19 = .ok (.iconst 1, 1) := by decide +kernel
theorem dX4_blocksOf_20 : decode cX4_blocksOf 20 = .ok (.iload_n 3, 1) := by decide +kernel
theorem dX4_blocksOf_21 : decode cX4_blocksOf 21 = .ok (.ishl, 1) := by decide +kernel
theorem dX4_blocksOf_22 : decode cX4_blocksOf 22 = .ok (.goto 4, 3) := by decide +kernel
theorem dX4_blocksOf_25 : decode cX4_blocksOf 25 = .ok (.iconst 0, 1) := by decide +kernel
theorem dX4_blocksOf_26 : decode cX4_blocksOf 26 = .ok (.ior, 1) := by decide +kernel
theorem dX4_blocksOf_27 : decode cX4_blocksOf 27 = .ok (.istore_n 2, 1) := by decide +kernel
theorem dX4_blocksOf_28 : decode cX4_blocksOf 28 = .ok (.iinc 3 1, 3) := by decide +kernel
theorem dX4_blocksOf_31 : decode cX4_blocksOf 31 = .ok (.goto (-27), 3) := by decide +kernel
theorem dX4_blocksOf_34 : decode cX4_blocksOf 34 = .ok (.iload_n 2, 1) := by decide +kernel
theorem dX4_blocksOf_35 : decode cX4_blocksOf 35 = .ok (.ireturn, 1) := by decide +kernel
theorem dX4_roomFor_0 : decode cX4_roomFor 0 = .ok (.iconst 0, 1) := by decide +kernel
theorem dX4_roomFor_1 : decode cX4_roomFor 1 = .ok (.istore_n 3, 1) := by decide +kernel
theorem dX4_roomFor_2 : decode cX4_roomFor 2 = .ok (.iconst 0, 1) := by decide +kernel
theorem dX4_roomFor_3 : decode cX4_roomFor 3 = .ok (.istore 4, 2) := by decide +kernel
theorem dX4_roomFor_5 : decode cX4_roomFor 5 = .ok (.iload 4, 2) := by decide +kernel
theorem dX4_roomFor_7 : decode cX4_roomFor 7 = .ok (.bipush 16, 2) := by decide +kernel
theorem dX4_roomFor_9 : decode cX4_roomFor 9 = .ok (.if_icmp .ge 50, 3) := by decide +kernel
theorem dX4_roomFor_12 : decode cX4_roomFor 12 = .ok (.aload_n 0, 1) := by decide +kernel
theorem dX4_roomFor_13 : decode cX4_roomFor 13 = .ok (.iload 4, 2) := by decide +kernel
theorem dX4_roomFor_15 : decode cX4_roomFor 15 = .ok (.iconst 4, 1) := by decide +kernel
theorem dX4_roomFor_16 : decode cX4_roomFor 16 = .ok (.idiv, 1) := by decide +kernel
theorem dX4_roomFor_17 : decode cX4_roomFor 17 = .ok (.invokevirtual 46, 3) := by decide +kernel
theorem dX4_roomFor_20 : decode cX4_roomFor 20 = .ok (.istore 5, 2) := by decide +kernel
theorem dX4_roomFor_22 : decode cX4_roomFor 22 = .ok (.iload_n 3, 1) := by decide +kernel
theorem dX4_roomFor_23 : decode cX4_roomFor 23 = .ok (.iload 5, 2) := by decide +kernel
theorem dX4_roomFor_25 : decode cX4_roomFor 25 = .ok (.iload_n 1, 1) := by decide +kernel
theorem dX4_roomFor_26 : decode cX4_roomFor 26 = .ok (.if_icmp .eq 10, 3) := by decide +kernel
theorem dX4_roomFor_29 : decode cX4_roomFor 29 = .ok (.iload 5, 2) := by decide +kernel
theorem dX4_roomFor_31 : decode cX4_roomFor 31 = .ok (.bipush (-6), 2) := by decide +kernel
theorem dX4_roomFor_33 : decode cX4_roomFor 33 = .ok (.if_icmp .ne 17, 3) := by decide +kernel
theorem dX4_roomFor_36 : decode cX4_roomFor 36 = .ok (.aload_n 0, 1) := by decide +kernel
theorem dX4_roomFor_37 : decode cX4_roomFor 37 = .ok (.iload 4, 2) := by decide +kernel
theorem dX4_roomFor_39 : decode cX4_roomFor 39 = .ok (.iload_n 2, 1) := by decide +kernel
theorem dX4_roomFor_40 : decode cX4_roomFor 40 = .ok (.invokevirtual 49, 3) := by decide +kernel
theorem dX4_roomFor_43 : decode cX4_roomFor 43 = .ok (.ifCond .eq 7, 3) := by decide +kernel
theorem dX4_roomFor_46 : decode cX4_roomFor 46 = .ok (.iconst 1, 1) := by decide +kernel
theorem dX4_roomFor_47 : decode cX4_roomFor 47 = .ok (.goto 4, 3) := by decide +kernel
theorem dX4_roomFor_50 : decode cX4_roomFor 50 = .ok (.iconst 0, 1) := by decide +kernel
theorem dX4_roomFor_51 : decode cX4_roomFor 51 = .ok (.iadd, 1) := by decide +kernel
theorem dX4_roomFor_52 : decode cX4_roomFor 52 = .ok (.istore_n 3, 1) := by decide +kernel
theorem dX4_roomFor_53 : decode cX4_roomFor 53 = .ok (.iinc 4 1, 3) := by decide +kernel
theorem dX4_roomFor_56 : decode cX4_roomFor 56 = .ok (.goto (-51), 3) := by decide +kernel
theorem dX4_roomFor_59 : decode cX4_roomFor 59 = .ok (.iload_n 3, 1) := by decide +kernel
theorem dX4_roomFor_60 : decode cX4_roomFor 60 = .ok (.ireturn, 1) := by decide +kernel
theorem dX4_host_0 : decode cX4_host 0 = .ok (.iload_n 1, 1) := by decide +kernel
theorem dX4_host_1 : decode cX4_host 1 = .ok (.invokestatic 68, 3) := by decide +kernel
theorem dX4_host_4 : decode cX4_host 4 = .ok (.ifCond .ne 5, 3) := by decide +kernel
theorem dX4_host_7 : decode cX4_host 7 = .ok (.iconst (-1), 1) := by decide +kernel
theorem dX4_host_8 : decode cX4_host 8 = .ok (.ireturn, 1) := by decide +kernel
theorem dX4_host_9 : decode cX4_host 9 = .ok (.iload_n 2, 1) := by decide +kernel
theorem dX4_host_10 : decode cX4_host 10 = .ok (.tableswitch 51 0 3 #[30, 36, 42, 42], 30) := by decide +kernel
theorem dX4_host_40 : decode cX4_host 40 = .ok (.aload_n 0, 1) := by decide +kernel
theorem dX4_host_41 : decode cX4_host 41 = .ok (.iload_n 1, 1) := by decide +kernel
theorem dX4_host_42 : decode cX4_host 42 = .ok (.invokevirtual 121, 3) := by decide +kernel
theorem dX4_host_45 : decode cX4_host 45 = .ok (.ireturn, 1) := by decide +kernel
theorem dX4_host_46 : decode cX4_host 46 = .ok (.aload_n 0, 1) := by decide +kernel
theorem dX4_host_47 : decode cX4_host 47 = .ok (.iload_n 1, 1) := by decide +kernel
theorem dX4_host_48 : decode cX4_host 48 = .ok (.invokevirtual 124, 3) := by decide +kernel
theorem dX4_host_51 : decode cX4_host 51 = .ok (.ireturn, 1) := by decide +kernel
theorem dX4_host_52 : decode cX4_host 52 = .ok (.aload_n 0, 1) := by decide +kernel
theorem dX4_host_53 : decode cX4_host 53 = .ok (.iload_n 1, 1) := by decide +kernel
theorem dX4_host_54 : decode cX4_host 54 = .ok (.iload_n 2, 1) := by decide +kernel
theorem dX4_host_55 : decode cX4_host 55 = .ok (.iconst 2, 1) := by decide +kernel
theorem dX4_host_56 : decode cX4_host 56 = .ok (.isub, 1) := by decide +kernel
theorem dX4_host_57 : decode cX4_host 57 = .ok (.invokevirtual 127, 3) := by decide +kernel
theorem dX4_host_60 : decode cX4_host 60 = .ok (.ireturn, 1) := by decide +kernel
theorem dX4_host_61 : decode cX4_host 61 = .ok (.bipush (-2), 2) := by decide +kernel
theorem dX4_host_63 : decode cX4_host 63 = .ok (.ireturn, 1) := by decide +kernel
theorem dX4_soon_0 : decode cX4_soon 0 = .ok (.bipush (-6), 2) := by decide +kernel
theorem dX4_soon_2 : decode cX4_soon 2 = .ok (.istore_n 1, 1) := by decide +kernel
theorem dX4_soon_3 : decode cX4_soon 3 = .ok (.iconst 0, 1) := by decide +kernel
theorem dX4_soon_4 : decode cX4_soon 4 = .ok (.istore_n 2, 1) := by decide +kernel
theorem dX4_soon_5 : decode cX4_soon 5 = .ok (.iload_n 2, 1) := by decide +kernel
theorem dX4_soon_6 : decode cX4_soon 6 = .ok (.bipush 16, 2) := by decide +kernel
theorem dX4_soon_8 : decode cX4_soon 8 = .ok (.if_icmp .ge 46, 3) := by decide +kernel
theorem dX4_soon_11 : decode cX4_soon 11 = .ok (.aload_n 0, 1) := by decide +kernel
theorem dX4_soon_12 : decode cX4_soon 12 = .ok (.iload_n 2, 1) := by decide +kernel
theorem dX4_soon_13 : decode cX4_soon 13 = .ok (.invokevirtual 24, 3) := by decide +kernel
theorem dX4_soon_16 : decode cX4_soon 16 = .ok (.ifCond .eq 32, 3) := by decide +kernel
theorem dX4_soon_19 : decode cX4_soon 19 = .ok (.aload_n 0, 1) := by decide +kernel
theorem dX4_soon_20 : decode cX4_soon 20 = .ok (.iload_n 2, 1) := by decide +kernel
theorem dX4_soon_21 : decode cX4_soon 21 = .ok (.invokevirtual 28, 3) := by decide +kernel
theorem dX4_soon_24 : decode cX4_soon 24 = .ok (.aload_n 0, 1) := by decide +kernel
theorem dX4_soon_25 : decode cX4_soon 25 = .ok (.getfield 7, 3) := by decide +kernel
theorem dX4_soon_28 : decode cX4_soon 28 = .ok (.bipush 6, 2) := by decide +kernel
theorem dX4_soon_30 : decode cX4_soon 30 = .ok (.iaload, 1) := by decide +kernel
theorem dX4_soon_31 : decode cX4_soon 31 = .ok (.isub, 1) := by decide +kernel
theorem dX4_soon_32 : decode cX4_soon 32 = .ok (.istore_n 3, 1) := by decide +kernel
theorem dX4_soon_33 : decode cX4_soon 33 = .ok (.iload_n 1, 1) := by decide +kernel
theorem dX4_soon_34 : decode cX4_soon 34 = .ok (.ifCond .lt 8, 3) := by decide +kernel
theorem dX4_soon_37 : decode cX4_soon 37 = .ok (.iload_n 3, 1) := by decide +kernel
theorem dX4_soon_38 : decode cX4_soon 38 = .ok (.iload_n 1, 1) := by decide +kernel
theorem dX4_soon_39 : decode cX4_soon 39 = .ok (.if_icmp .ge 7, 3) := by decide +kernel
theorem dX4_soon_42 : decode cX4_soon 42 = .ok (.iload_n 3, 1) := by decide +kernel
theorem dX4_soon_43 : decode cX4_soon 43 = .ok (.goto 4, 3) := by decide +kernel
theorem dX4_soon_46 : decode cX4_soon 46 = .ok (.iload_n 1, 1) := by decide +kernel
theorem dX4_soon_47 : decode cX4_soon 47 = .ok (.istore_n 1, 1) := by decide +kernel
theorem dX4_soon_48 : decode cX4_soon 48 = .ok (.iinc 2 1, 3) := by decide +kernel
theorem dX4_soon_51 : decode cX4_soon 51 = .ok (.goto (-46), 3) := by decide +kernel
theorem dX4_soon_54 : decode cX4_soon 54 = .ok (.iload_n 1, 1) := by decide +kernel
theorem dX4_soon_55 : decode cX4_soon 55 = .ok (.ireturn, 1) := by decide +kernel
theorem dX4_image_0 : decode cX4_image 0 = .ok (.iload_n 1, 1) := by decide +kernel
theorem dX4_image_1 : decode cX4_image 1 = .ok (.iconst 0, 1) := by decide +kernel
theorem dX4_image_2 : decode cX4_image 2 = .ok (.iconst 1, 1) := by decide +kernel
theorem dX4_image_3 : decode cX4_image 3 = .ok (.invokestatic 20, 3) := by decide +kernel
theorem dX4_image_6 : decode cX4_image 6 = .ok (.ifCond .ne 6, 3) := by decide +kernel
theorem dX4_image_9 : decode cX4_image 9 = .ok (.bipush (-2), 2) := by decide +kernel
theorem dX4_image_11 : decode cX4_image 11 = .ok (.ireturn, 1) := by decide +kernel
theorem dX4_image_12 : decode cX4_image 12 = .ok (.iconst 0, 1) := by decide +kernel
theorem dX4_image_13 : decode cX4_image 13 = .ok (.istore_n 2, 1) := by decide +kernel
theorem dX4_image_14 : decode cX4_image 14 = .ok (.iload_n 2, 1) := by decide +kernel
theorem dX4_image_15 : decode cX4_image 15 = .ok (.sipush 503, 3) := by decide +kernel
theorem dX4_image_18 : decode cX4_image 18 = .ok (.if_icmp .ge 27, 3) := by decide +kernel
theorem dX4_image_21 : decode cX4_image 21 = .ok (.aload_n 0, 1) := by decide +kernel
theorem dX4_image_22 : decode cX4_image 22 = .ok (.getfield 13, 3) := by decide +kernel
theorem dX4_image_25 : decode cX4_image 25 = .ok (.sipush 503, 3) := by decide +kernel
theorem dX4_image_28 : decode cX4_image 28 = .ok (.iload_n 1, 1) := by decide +kernel
theorem dX4_image_29 : decode cX4_image 29 = .ok (.imul, 1) := by decide +kernel
theorem dX4_image_30 : decode cX4_image 30 = .ok (.iload_n 2, 1) := by decide +kernel
theorem dX4_image_31 : decode cX4_image 31 = .ok (.iadd, 1) := by decide +kernel
theorem dX4_image_32 : decode cX4_image 32 = .ok (.aload_n 0, 1) := by decide +kernel
theorem dX4_image_33 : decode cX4_image 33 = .ok (.getfield 7, 3) := by decide +kernel
theorem dX4_image_36 : decode cX4_image 36 = .ok (.iload_n 2, 1) := by decide +kernel
theorem dX4_image_37 : decode cX4_image 37 = .ok (.iaload, 1) := by decide +kernel
theorem dX4_image_38 : decode cX4_image 38 = .ok (.iastore, 1) := by decide +kernel
theorem dX4_image_39 : decode cX4_image 39 = .ok (.iinc 2 1, 3) := by decide +kernel
theorem dX4_image_42 : decode cX4_image 42 = .ok (.goto (-28), 3) := by decide +kernel
theorem dX4_image_45 : decode cX4_image 45 = .ok (.aload_n 0, 1) := by decide +kernel
theorem dX4_image_46 : decode cX4_image 46 = .ok (.getfield 16, 3) := by decide +kernel
theorem dX4_image_49 : decode cX4_image 49 = .ok (.iload_n 1, 1) := by decide +kernel
theorem dX4_image_50 : decode cX4_image 50 = .ok (.iconst 1, 1) := by decide +kernel
theorem dX4_image_51 : decode cX4_image 51 = .ok (.bastore, 1) := by decide +kernel
theorem dX4_image_52 : decode cX4_image 52 = .ok (.iconst 1, 1) := by decide +kernel
theorem dX4_image_53 : decode cX4_image 53 = .ok (.ireturn, 1) := by decide +kernel
theorem dX4_restore_0 : decode cX4_restore 0 = .ok (.iload_n 1, 1) := by decide +kernel
theorem dX4_restore_1 : decode cX4_restore 1 = .ok (.iconst 0, 1) := by decide +kernel
theorem dX4_restore_2 : decode cX4_restore 2 = .ok (.iconst 1, 1) := by decide +kernel
theorem dX4_restore_3 : decode cX4_restore 3 = .ok (.invokestatic 20, 3) := by decide +kernel
theorem dX4_restore_6 : decode cX4_restore 6 = .ok (.ifCond .ne 6, 3) := by decide +kernel
theorem dX4_restore_9 : decode cX4_restore 9 = .ok (.bipush (-2), 2) := by decide +kernel
theorem dX4_restore_11 : decode cX4_restore 11 = .ok (.ireturn, 1) := by decide +kernel
theorem dX4_restore_12 : decode cX4_restore 12 = .ok (.aload_n 0, 1) := by decide +kernel
theorem dX4_restore_13 : decode cX4_restore 13 = .ok (.getfield 16, 3) := by decide +kernel
theorem dX4_restore_16 : decode cX4_restore 16 = .ok (.iload_n 1, 1) := by decide +kernel
theorem dX4_restore_17 : decode cX4_restore 17 = .ok (.baload, 1) := by decide +kernel
theorem dX4_restore_18 : decode cX4_restore 18 = .ok (.ifCond .ne 6, 3) := by decide +kernel
theorem dX4_restore_21 : decode cX4_restore 21 = .ok (.bipush (-3), 2) := by decide +kernel
theorem dX4_restore_23 : decode cX4_restore 23 = .ok (.ireturn, 1) := by decide +kernel
theorem dX4_restore_24 : decode cX4_restore 24 = .ok (.iconst 0, 1) := by decide +kernel
theorem dX4_restore_25 : decode cX4_restore 25 = .ok (.istore_n 2, 1) := by decide +kernel
theorem dX4_restore_26 : decode cX4_restore 26 = .ok (.iload_n 2, 1) := by decide +kernel
theorem dX4_restore_27 : decode cX4_restore 27 = .ok (.sipush 503, 3) := by decide +kernel
theorem dX4_restore_30 : decode cX4_restore 30 = .ok (.if_icmp .ge 27, 3) := by decide +kernel
theorem dX4_restore_33 : decode cX4_restore 33 = .ok (.aload_n 0, 1) := by decide +kernel
theorem dX4_restore_34 : decode cX4_restore 34 = .ok (.getfield 7, 3) := by decide +kernel
theorem dX4_restore_37 : decode cX4_restore 37 = .ok (.iload_n 2, 1) := by decide +kernel
theorem dX4_restore_38 : decode cX4_restore 38 = .ok (.aload_n 0, 1) := by decide +kernel
theorem dX4_restore_39 : decode cX4_restore 39 = .ok (.getfield 13, 3) := by decide +kernel
theorem dX4_restore_42 : decode cX4_restore 42 = .ok (.sipush 503, 3) := by decide +kernel
theorem dX4_restore_45 : decode cX4_restore 45 = .ok (.iload_n 1, 1) := by decide +kernel
theorem dX4_restore_46 : decode cX4_restore 46 = .ok (.imul, 1) := by decide +kernel
theorem dX4_restore_47 : decode cX4_restore 47 = .ok (.iload_n 2, 1) := by decide +kernel
theorem dX4_restore_48 : decode cX4_restore 48 = .ok (.iadd, 1) := by decide +kernel
theorem dX4_restore_49 : decode cX4_restore 49 = .ok (.iaload, 1) := by decide +kernel
theorem dX4_restore_50 : decode cX4_restore 50 = .ok (.iastore, 1) := by decide +kernel
theorem dX4_restore_51 : decode cX4_restore 51 = .ok (.iinc 2 1, 3) := by decide +kernel
theorem dX4_restore_54 : decode cX4_restore 54 = .ok (.goto (-28), 3) := by decide +kernel
theorem dX4_restore_57 : decode cX4_restore 57 = .ok (.iconst 1, 1) := by decide +kernel
theorem dX4_restore_58 : decode cX4_restore 58 = .ok (.ireturn, 1) := by decide +kernel
theorem dX4_knownMany_0 : decode cX4_knownMany 0 = .ok (.iconst 0, 1) := by decide +kernel
theorem dX4_knownMany_1 : decode cX4_knownMany 1 = .ok (.istore_n 1, 1) := by decide +kernel
theorem dX4_knownMany_2 : decode cX4_knownMany 2 = .ok (.iconst 0, 1) := by decide +kernel
theorem dX4_knownMany_3 : decode cX4_knownMany 3 = .ok (.istore_n 2, 1) := by decide +kernel
theorem dX4_knownMany_4 : decode cX4_knownMany 4 = .ok (.iload_n 2, 1) := by decide +kernel
theorem dX4_knownMany_5 : decode cX4_knownMany 5 = .ok (.bipush 32, 2) := by decide +kernel
theorem dX4_knownMany_7 : decode cX4_knownMany 7 = .ok (.if_icmp .ge 25, 3) := by decide +kernel
theorem dX4_knownMany_10 : decode cX4_knownMany 10 = .ok (.iload_n 1, 1) := by decide +kernel
theorem dX4_knownMany_11 : decode cX4_knownMany 11 = .ok (.aload_n 0, 1) := by decide +kernel
theorem dX4_knownMany_12 : decode cX4_knownMany 12 = .ok (.iload_n 2, 1) := by decide +kernel
theorem dX4_knownMany_13 : decode cX4_knownMany 13 = .ok (.invokevirtual 106, 3) := by decide +kernel
theorem dX4_knownMany_16 : decode cX4_knownMany 16 = .ok (.ifCond .eq 7, 3) := by decide +kernel
theorem dX4_knownMany_19 : decode cX4_knownMany 19 = .ok (.iconst 1, 1) := by decide +kernel
theorem dX4_knownMany_20 : decode cX4_knownMany 20 = .ok (.goto 4, 3) := by decide +kernel
theorem dX4_knownMany_23 : decode cX4_knownMany 23 = .ok (.iconst 0, 1) := by decide +kernel
theorem dX4_knownMany_24 : decode cX4_knownMany 24 = .ok (.iadd, 1) := by decide +kernel
theorem dX4_knownMany_25 : decode cX4_knownMany 25 = .ok (.istore_n 1, 1) := by decide +kernel
theorem dX4_knownMany_26 : decode cX4_knownMany 26 = .ok (.iinc 2 1, 3) := by decide +kernel
theorem dX4_knownMany_29 : decode cX4_knownMany 29 = .ok (.goto (-25), 3) := by decide +kernel
theorem dX4_knownMany_32 : decode cX4_knownMany 32 = .ok (.iload_n 1, 1) := by decide +kernel
theorem dX4_knownMany_33 : decode cX4_knownMany 33 = .ok (.ireturn, 1) := by decide +kernel
theorem dX4_lentMany_0 : decode cX4_lentMany 0 = .ok (.iconst 0, 1) := by decide +kernel
theorem dX4_lentMany_1 : decode cX4_lentMany 1 = .ok (.istore_n 1, 1) := by decide +kernel
theorem dX4_lentMany_2 : decode cX4_lentMany 2 = .ok (.iconst 0, 1) := by decide +kernel
theorem dX4_lentMany_3 : decode cX4_lentMany 3 = .ok (.istore_n 2, 1) := by decide +kernel
theorem dX4_lentMany_4 : decode cX4_lentMany 4 = .ok (.iload_n 2, 1) := by decide +kernel
theorem dX4_lentMany_5 : decode cX4_lentMany 5 = .ok (.bipush 16, 2) := by decide +kernel
theorem dX4_lentMany_7 : decode cX4_lentMany 7 = .ok (.if_icmp .ge 25, 3) := by decide +kernel
theorem dX4_lentMany_10 : decode cX4_lentMany 10 = .ok (.iload_n 1, 1) := by decide +kernel
theorem dX4_lentMany_11 : decode cX4_lentMany 11 = .ok (.aload_n 0, 1) := by decide +kernel
theorem dX4_lentMany_12 : decode cX4_lentMany 12 = .ok (.iload_n 2, 1) := by decide +kernel
theorem dX4_lentMany_13 : decode cX4_lentMany 13 = .ok (.invokevirtual 24, 3) := by decide +kernel
theorem dX4_lentMany_16 : decode cX4_lentMany 16 = .ok (.ifCond .eq 7, 3) := by decide +kernel
theorem dX4_lentMany_19 : decode cX4_lentMany 19 = .ok (.iconst 1, 1) := by decide +kernel
theorem dX4_lentMany_20 : decode cX4_lentMany 20 = .ok (.goto 4, 3) := by decide +kernel
theorem dX4_lentMany_23 : decode cX4_lentMany 23 = .ok (.iconst 0, 1) := by decide +kernel
theorem dX4_lentMany_24 : decode cX4_lentMany 24 = .ok (.iadd, 1) := by decide +kernel
theorem dX4_lentMany_25 : decode cX4_lentMany 25 = .ok (.istore_n 1, 1) := by decide +kernel
theorem dX4_lentMany_26 : decode cX4_lentMany 26 = .ok (.iinc 2 1, 3) := by decide +kernel
theorem dX4_lentMany_29 : decode cX4_lentMany 29 = .ok (.goto (-25), 3) := by decide +kernel
theorem dX4_lentMany_32 : decode cX4_lentMany 32 = .ok (.iload_n 1, 1) := by decide +kernel
theorem dX4_lentMany_33 : decode cX4_lentMany 33 = .ok (.ireturn, 1) := by decide +kernel
theorem dX4_count_0 : decode cX4_count 0 = .ok (.iload_n 1, 1) := by decide +kernel
theorem dX4_count_1 : decode cX4_count 1 = .ok (.bipush 10, 2) := by decide +kernel
theorem dX4_count_3 : decode cX4_count 3 = .ok (.bipush 15, 2) := by decide +kernel
theorem dX4_count_5 : decode cX4_count 5 = .ok (.invokestatic 20, 3) := by decide +kernel
theorem dX4_count_8 : decode cX4_count 8 = .ok (.ifCond .eq 13, 3) := by decide +kernel
theorem dX4_count_11 : decode cX4_count 11 = .ok (.aload_n 0, 1) := by decide +kernel
theorem dX4_count_12 : decode cX4_count 12 = .ok (.getfield 7, 3) := by decide +kernel
theorem dX4_count_15 : decode cX4_count 15 = .ok (.iload_n 1, 1) := by decide +kernel
theorem dX4_count_16 : decode cX4_count 16 = .ok (.bipush 10, 2) := by decide +kernel
theorem dX4_count_18 : decode cX4_count 18 = .ok (.isub, 1) := by decide +kernel
theorem dX4_count_19 : decode cX4_count 19 = .ok (.iaload, 1) := by decide +kernel
theorem dX4_count_20 : decode cX4_count 20 = .ok (.ireturn, 1) := by decide +kernel
theorem dX4_count_21 : decode cX4_count 21 = .ok (.iload_n 1, 1) := by decide +kernel
theorem dX4_count_22 : decode cX4_count 22 = .ok (.tableswitch 101 0 5 #[38, 43, 51, 61, 66, 71], 38) := by decide +kernel
theorem dX4_count_60 : decode cX4_count 60 = .ok (.aload_n 0, 1) := by decide +kernel
theorem dX4_count_61 : decode cX4_count 61 = .ok (.invokevirtual 130, 3) := by decide +kernel
theorem dX4_count_64 : decode cX4_count 64 = .ok (.ireturn, 1) := by decide +kernel
theorem dX4_count_65 : decode cX4_count 65 = .ok (.aload_n 0, 1) := by decide +kernel
theorem dX4_count_66 : decode cX4_count 66 = .ok (.getfield 7, 3) := by decide +kernel
theorem dX4_count_69 : decode cX4_count 69 = .ok (.bipush 6, 2) := by decide +kernel
theorem dX4_count_71 : decode cX4_count 71 = .ok (.iaload, 1) := by decide +kernel
theorem dX4_count_72 : decode cX4_count 72 = .ok (.ireturn, 1) := by decide +kernel
theorem dX4_count_73 : decode cX4_count 73 = .ok (.aload_n 0, 1) := by decide +kernel
theorem dX4_count_74 : decode cX4_count 74 = .ok (.bipush (-6), 2) := by decide +kernel
theorem dX4_count_76 : decode cX4_count 76 = .ok (.invokevirtual 124, 3) := by decide +kernel
theorem dX4_count_79 : decode cX4_count 79 = .ok (.invokestatic 133, 3) := by decide +kernel
theorem dX4_count_82 : decode cX4_count 82 = .ok (.ireturn, 1) := by decide +kernel
theorem dX4_count_83 : decode cX4_count 83 = .ok (.aload_n 0, 1) := by decide +kernel
theorem dX4_count_84 : decode cX4_count 84 = .ok (.invokevirtual 103, 3) := by decide +kernel
theorem dX4_count_87 : decode cX4_count 87 = .ok (.ireturn, 1) := by decide +kernel
theorem dX4_count_88 : decode cX4_count 88 = .ok (.aload_n 0, 1) := by decide +kernel
theorem dX4_count_89 : decode cX4_count 89 = .ok (.invokevirtual 136, 3) := by decide +kernel
theorem dX4_count_92 : decode cX4_count 92 = .ok (.ireturn, 1) := by decide +kernel
theorem dX4_count_93 : decode cX4_count 93 = .ok (.aload_n 0, 1) := by decide +kernel
theorem dX4_count_94 : decode cX4_count 94 = .ok (.getfield 16, 3) := by decide +kernel
theorem dX4_count_97 : decode cX4_count 97 = .ok (.iconst 0, 1) := by decide +kernel
theorem dX4_count_98 : decode cX4_count 98 = .ok (.baload, 1) := by decide +kernel
theorem dX4_count_99 : decode cX4_count 99 = .ok (.ifCond .eq 7, 3) := by decide +kernel
theorem dX4_count_102 : decode cX4_count 102 = .ok (.iconst 1, 1) := by decide +kernel
theorem dX4_count_103 : decode cX4_count 103 = .ok (.goto 4, 3) := by decide +kernel
theorem dX4_count_106 : decode cX4_count 106 = .ok (.iconst 0, 1) := by decide +kernel
theorem dX4_count_107 : decode cX4_count 107 = .ok (.aload_n 0, 1) := by decide +kernel
theorem dX4_count_108 : decode cX4_count 108 = .ok (.getfield 16, 3) := by decide +kernel
theorem dX4_count_111 : decode cX4_count 111 = .ok (.iconst 1, 1) := by decide +kernel
theorem dX4_count_112 : decode cX4_count 112 = .ok (.baload, 1) := by decide +kernel
theorem dX4_count_113 : decode cX4_count 113 = .ok (.ifCond .eq 7, 3) := by decide +kernel
theorem dX4_count_116 : decode cX4_count 116 = .ok (.iconst 2, 1) := by decide +kernel
theorem dX4_count_117 : decode cX4_count 117 = .ok (.goto 4, 3) := by decide +kernel
theorem dX4_count_120 : decode cX4_count 120 = .ok (.iconst 0, 1) := by decide +kernel
theorem dX4_count_121 : decode cX4_count 121 = .ok (.iadd, 1) := by decide +kernel
theorem dX4_count_122 : decode cX4_count 122 = .ok (.ireturn, 1) := by decide +kernel
theorem dX4_count_123 : decode cX4_count 123 = .ok (.bipush (-2), 2) := by decide +kernel
theorem dX4_count_125 : decode cX4_count 125 = .ok (.ireturn, 1) := by decide +kernel
theorem dX4_bits_0 : decode cX4_bits 0 = .ok (.iconst 0, 1) := by decide +kernel
theorem dX4_bits_1 : decode cX4_bits 1 = .ok (.istore_n 1, 1) := by decide +kernel
theorem dX4_bits_2 : decode cX4_bits 2 = .ok (.iconst 0, 1) := by decide +kernel
theorem dX4_bits_3 : decode cX4_bits 3 = .ok (.istore_n 2, 1) := by decide +kernel
theorem dX4_bits_4 : decode cX4_bits 4 = .ok (.iload_n 2, 1) := by decide +kernel
theorem dX4_bits_5 : decode cX4_bits 5 = .ok (.iconst 4, 1) := by decide +kernel
theorem dX4_bits_6 : decode cX4_bits 6 = .ok (.if_icmp .ge 17, 3) := by decide +kernel
theorem dX4_bits_9 : decode cX4_bits 9 = .ok (.iload_n 1, 1) := by decide +kernel
theorem dX4_bits_10 : decode cX4_bits 10 = .ok (.iload_n 0, 1) := by decide +kernel
theorem dX4_bits_11 : decode cX4_bits 11 = .ok (.iload_n 2, 1) := by decide +kernel
theorem dX4_bits_12 : decode cX4_bits 12 = .ok (.ishr, 1) := by decide +kernel
theorem dX4_bits_13 : decode cX4_bits 13 = .ok (.iconst 1, 1) := by decide +kernel
theorem dX4_bits_14 : decode cX4_bits 14 = .ok (.iand, 1) := by decide +kernel
theorem dX4_bits_15 : decode cX4_bits 15 = .ok (.iadd, 1) := by decide +kernel
theorem dX4_bits_16 : decode cX4_bits 16 = .ok (.istore_n 1, 1) := by decide +kernel
theorem dX4_bits_17 : decode cX4_bits 17 = .ok (.iinc 2 1, 3) := by decide +kernel
theorem dX4_bits_20 : decode cX4_bits 20 = .ok (.goto (-16), 3) := by decide +kernel
theorem dX4_bits_23 : decode cX4_bits 23 = .ok (.iload_n 1, 1) := by decide +kernel
theorem dX4_bits_24 : decode cX4_bits 24 = .ok (.ireturn, 1) := by decide +kernel
