theorem dX0_init_0 : decode cX0_init 0 = .ok (.aload_n 0, 1) := by decide +kernel
theorem dX0_init_1 : decode cX0_init 1 = .ok (.invokespecial 3, 3) := by decide +kernel
theorem dX0_init_4 : decode cX0_init 4 = .ok (.aload_n 0, 1) := by decide +kernel
theorem dX0_init_5 : decode cX0_init 5 = .ok (.bipush 16, 2) := by decide +kernel
theorem dX0_init_7 : decode cX0_init 7 = .ok (.newarray .int, 2) := by decide +kernel
theorem dX0_init_9 : decode cX0_init 9 = .ok (.putfield 9, 3) := by decide +kernel
theorem dX0_init_12 : decode cX0_init 12 = .ok (.aload_n 0, 1) := by decide +kernel
theorem dX0_init_13 : decode cX0_init 13 = .ok (.bipush 16, 2) := by decide +kernel
theorem dX0_init_15 : decode cX0_init 15 = .ok (.newarray .int, 2) := by decide +kernel
theorem dX0_init_17 : decode cX0_init 17 = .ok (.putfield 15, 3) := by decide +kernel
theorem dX0_init_20 : decode cX0_init 20 = .ok (.aload_n 0, 1) := by decide +kernel
theorem dX0_init_21 : decode cX0_init 21 = .ok (.bipush 16, 2) := by decide +kernel
theorem dX0_init_23 : decode cX0_init 23 = .ok (.newarray .int, 2) := by decide +kernel
theorem dX0_init_25 : decode cX0_init 25 = .ok (.putfield 18, 3) := by decide +kernel
theorem dX0_init_28 : decode cX0_init 28 = .ok (.aload_n 0, 1) := by decide +kernel
theorem dX0_init_29 : decode cX0_init 29 = .ok (.bipush 16, 2) := by decide +kernel
theorem dX0_init_31 : decode cX0_init 31 = .ok (.newarray .int, 2) := by decide +kernel
theorem dX0_init_33 : decode cX0_init 33 = .ok (.putfield 21, 3) := by decide +kernel
theorem dX0_init_36 : decode cX0_init 36 = .ok (.aload_n 0, 1) := by decide +kernel
theorem dX0_init_37 : decode cX0_init 37 = .ok (.bipush 16, 2) := by decide +kernel
theorem dX0_init_39 : decode cX0_init 39 = .ok (.newarray .int, 2) := by decide +kernel
theorem dX0_init_41 : decode cX0_init 41 = .ok (.putfield 24, 3) := by decide +kernel
theorem dX0_init_44 : decode cX0_init 44 = .ok (.aload_n 0, 1) := by decide +kernel
theorem dX0_init_45 : decode cX0_init 45 = .ok (.bipush 80, 2) := by decide +kernel
theorem dX0_init_47 : decode cX0_init 47 = .ok (.newarray .int, 2) := by decide +kernel
theorem dX0_init_49 : decode cX0_init 49 = .ok (.putfield 27, 3) := by decide +kernel
theorem dX0_init_52 : decode cX0_init 52 = .ok (.aload_n 0, 1) := by decide +kernel
theorem dX0_init_53 : decode cX0_init 53 = .ok (.getfield 9, 3) := by decide +kernel
theorem dX0_init_56 : decode cX0_init 56 = .ok (.bipush (-6), 2) := by decide +kernel
theorem dX0_init_58 : decode cX0_init 58 = .ok (.invokestatic 30, 3) := by decide +kernel
theorem dX0_init_61 : decode cX0_init 61 = .ok (.return_, 1) := by decide +kernel
theorem dX0_isLent_0 : decode cX0_isLent 0 = .ok (.aload_n 0, 1) := by decide +kernel
theorem dX0_isLent_1 : decode cX0_isLent 1 = .ok (.getfield 9, 3) := by decide +kernel
theorem dX0_isLent_4 : decode cX0_isLent 4 = .ok (.iload_n 1, 1) := by decide +kernel
theorem dX0_isLent_5 : decode cX0_isLent 5 = .ok (.iaload, 1) := by decide +kernel
theorem dX0_isLent_6 : decode cX0_isLent 6 = .ok (.bipush (-6), 2) := by decide +kernel
theorem dX0_isLent_8 : decode cX0_isLent 8 = .ok (.if_icmp .eq 7, 3) := by decide +kernel
theorem dX0_isLent_11 : decode cX0_isLent 11 = .ok (.iconst 1, 1) := by decide +kernel
theorem dX0_isLent_12 : decode cX0_isLent 12 = .ok (.goto 4, 3) := by decide +kernel
theorem dX0_isLent_15 : decode cX0_isLent 15 = .ok (.iconst 0, 1) := by decide +kernel
theorem dX0_isLent_16 : decode cX0_isLent 16 = .ok (.ireturn, 1) := by decide +kernel
theorem dX0_hostOf_0 : decode cX0_hostOf 0 = .ok (.aload_n 0, 1) := by decide +kernel
theorem dX0_hostOf_1 : decode cX0_hostOf 1 = .ok (.getfield 9, 3) := by decide +kernel
theorem dX0_hostOf_4 : decode cX0_hostOf 4 = .ok (.iload_n 1, 1) := by decide +kernel
theorem dX0_hostOf_5 : decode cX0_hostOf 5 = .ok (.iaload, 1) := by decide +kernel
theorem dX0_hostOf_6 : decode cX0_hostOf 6 = .ok (.bipush (-6), 2) := by decide +kernel
theorem dX0_hostOf_8 : decode cX0_hostOf 8 = .ok (.if_icmp .ne 8, 3) := by decide +kernel
theorem dX0_hostOf_11 : decode cX0_hostOf 11 = .ok (.bipush (-6), 2) := by decide +kernel
theorem dX0_hostOf_13 : decode cX0_hostOf 13 = .ok (.goto 12, 3) := by decide +kernel
theorem dX0_hostOf_16 : decode cX0_hostOf 16 = .ok (.aload_n 0, 1) := by decide +kernel
theorem dX0_hostOf_17 : decode cX0_hostOf 17 = .ok (.getfield 9, 3) := by decide +kernel
theorem dX0_hostOf_20 : decode cX0_hostOf 20 = .ok (.iload_n 1, 1) := by decide +kernel
theorem dX0_hostOf_21 : decode cX0_hostOf 21 = .ok (.iaload, 1) := by decide +kernel
theorem dX0_hostOf_22 : decode cX0_hostOf 22 = .ok (.bipush 32, 2) := by decide +kernel
theorem dX0_hostOf_24 : decode cX0_hostOf 24 = .ok (.idiv, 1) := by decide +kernel
theorem dX0_hostOf_25 : decode cX0_hostOf 25 = .ok (.ireturn, 1) := by decide +kernel
theorem dX0_seek_0 : decode cX0_seek 0 = .ok (.iconst 0, 1) := by decide +kernel
theorem dX0_seek_1 : decode cX0_seek 1 = .ok (.istore 4, 2) := by decide +kernel
theorem dX0_seek_3 : decode cX0_seek 3 = .ok (.iload 4, 2) := by decide +kernel
theorem dX0_seek_5 : decode cX0_seek 5 = .ok (.bipush 16, 2) := by decide +kernel
theorem dX0_seek_7 : decode cX0_seek 7 = .ok (.if_icmp .ge 34, 3) := by decide +kernel
theorem dX0_seek_10 : decode cX0_seek 10 = .ok (.aload_n 0, 1) := by decide +kernel
theorem dX0_seek_11 : decode cX0_seek 11 = .ok (.getfield 9, 3) := by decide +kernel
theorem dX0_seek_14 : decode cX0_seek 14 = .ok (.iload 4, 2) := by decide +kernel
theorem dX0_seek_16 : decode cX0_seek 16 = .ok (.iaload, 1) := by decide +kernel
theorem dX0_seek_17 : decode cX0_seek 17 = .ok (.iload_n 1, 1) := by decide +kernel
theorem dX0_seek_18 : decode cX0_seek 18 = .ok (.if_icmp .ne 17, 3) := by decide +kernel
theorem dX0_seek_21 : decode cX0_seek 21 = .ok (.aload_n 0, 1) := by decide +kernel
theorem dX0_seek_22 : decode cX0_seek 22 = .ok (.iload 4, 2) := by decide +kernel
theorem dX0_seek_24 : decode cX0_seek 24 = .ok (.iload_n 2, 1) := by decide +kernel
theorem dX0_seek_25 : decode cX0_seek 25 = .ok (.iload_n 3, 1) := by decide +kernel
theorem dX0_seek_26 : decode cX0_seek 26 = .ok (.invokevirtual 36, 3) := by decide +kernel
theorem dX0_seek_29 : decode cX0_seek 29 = .ok (.ifCond .eq 6, 3) := by decide +kernel
theorem dX0_seek_32 : decode cX0_seek 32 = .ok (.iload 4, 2) := by decide +kernel
theorem dX0_seek_34 : decode cX0_seek 34 = .ok (.ireturn, 1) := by decide +kernel
theorem dX0_seek_35 : decode cX0_seek 35 = .ok (.iinc 4 1, 3) := by decide +kernel
theorem dX0_seek_38 : decode cX0_seek 38 = .ok (.goto (-35), 3) := by decide +kernel
theorem dX0_seek_41 : decode cX0_seek 41 = .ok (.bipush (-6), 2) := by decide +kernel
theorem dX0_seek_43 : decode cX0_seek 43 = .ok (.ireturn, 1) := by decide +kernel
theorem dX0_isFor_0 : decode cX0_isFor 0 = .ok (.aload_n 0, 1) := by decide +kernel
theorem dX0_isFor_1 : decode cX0_isFor 1 = .ok (.getfield 21, 3) := by decide +kernel
theorem dX0_isFor_4 : decode cX0_isFor 4 = .ok (.iload_n 1, 1) := by decide +kernel
theorem dX0_isFor_5 : decode cX0_isFor 5 = .ok (.iaload, 1) := by decide +kernel
theorem dX0_isFor_6 : decode cX0_isFor 6 = .ok (.bipush (-6), 2) := by decide +kernel
theorem dX0_isFor_8 : decode cX0_isFor 8 = .ok (.if_icmp .eq 13, 3) := by decide +kernel
theorem dX0_isFor_11 : decode cX0_isFor 11 = .ok (.aload_n 0, 1) := by decide +kernel
theorem dX0_isFor_12 : decode cX0_isFor 12 = .ok (.getfield 21, 3) := by decide +kernel
theorem dX0_isFor_15 : decode cX0_isFor 15 = .ok (.iload_n 1, 1) := by decide +kernel
theorem dX0_isFor_16 : decode cX0_isFor 16 = .ok (.iaload, 1) := by decide +kernel
theorem dX0_isFor_17 : decode cX0_isFor 17 = .ok (.iload_n 2, 1) := by decide +kernel
theorem dX0_isFor_18 : decode cX0_isFor 18 = .ok (.if_icmp .ne 28, 3) := by decide +kernel
theorem dX0_isFor_21 : decode cX0_isFor 21 = .ok (.aload_n 0, 1) := by decide +kernel
theorem dX0_isFor_22 : decode cX0_isFor 22 = .ok (.getfield 24, 3) := by decide +kernel
theorem dX0_isFor_25 : decode cX0_isFor 25 = .ok (.iload_n 1, 1) := by decide +kernel
theorem dX0_isFor_26 : decode cX0_isFor 26 = .ok (.iaload, 1) := by decide +kernel
theorem dX0_isFor_27 : decode cX0_isFor 27 = .ok (.bipush (-6), 2) := by decide +kernel
theorem dX0_isFor_29 : decode cX0_isFor 29 = .ok (.if_icmp .eq 13, 3) := by decide +kernel
theorem dX0_isFor_32 : decode cX0_isFor 32 = .ok (.aload_n 0, 1) := by decide +kernel
theorem dX0_isFor_33 : decode cX0_isFor 33 = .ok (.getfield 24, 3) := by decide +kernel
theorem dX0_isFor_36 : decode cX0_isFor 36 = .ok (.iload_n 1, 1) := by decide +kernel
theorem dX0_isFor_37 : decode cX0_isFor 37 = .ok (.iaload, 1) := by decide +kernel
theorem dX0_isFor_38 : decode cX0_isFor 38 = .ok (.iload_n 3, 1) := by decide +kernel
theorem dX0_isFor_39 : decode cX0_isFor 39 = .ok (.if_icmp .ne 7, 3) := by decide +kernel
theorem dX0_isFor_42 : decode cX0_isFor 42 = .ok (.iconst 1, 1) := by decide +kernel
theorem dX0_isFor_43 : decode cX0_isFor 43 = .ok (.goto 4, 3) := by decide +kernel
theorem dX0_isFor_46 : decode cX0_isFor 46 = .ok (.iconst 0, 1) := by decide +kernel
theorem dX0_isFor_47 : decode cX0_isFor 47 = .ok (.ireturn, 1) := by decide +kernel
theorem dX0_lend_0 : decode cX0_lend 0 = .ok (.aload_n 0, 1) := by decide +kernel
theorem dX0_lend_1 : decode cX0_lend 1 = .ok (.getfield 9, 3) := by decide +kernel
theorem dX0_lend_4 : decode cX0_lend 4 = .ok (.iload_n 1, 1) := by decide +kernel
theorem dX0_lend_5 : decode cX0_lend 5 = .ok (.iload_n 2, 1) := by decide +kernel
theorem dX0_lend_6 : decode cX0_lend 6 = .ok (.iastore, 1) := by decide +kernel
theorem dX0_lend_7 : decode cX0_lend 7 = .ok (.aload_n 0, 1) := by decide +kernel
theorem dX0_lend_8 : decode cX0_lend 8 = .ok (.getfield 15, 3) := by decide +kernel
theorem dX0_lend_11 : decode cX0_lend 11 = .ok (.iload_n 1, 1) := by decide +kernel
theorem dX0_lend_12 : decode cX0_lend 12 = .ok (.iconst 0, 1) := by decide +kernel
theorem dX0_lend_13 : decode cX0_lend 13 = .ok (.iastore, 1) := by decide +kernel
theorem dX0_lend_14 : decode cX0_lend 14 = .ok (.aload_n 0, 1) := by decide +kernel
theorem dX0_lend_15 : decode cX0_lend 15 = .ok (.getfield 21, 3) := by decide +kernel
theorem dX0_lend_18 : decode cX0_lend 18 = .ok (.iload_n 1, 1) := by decide +kernel
theorem dX0_lend_19 : decode cX0_lend 19 = .ok (.iload_n 3, 1) := by decide +kernel
theorem dX0_lend_20 : decode cX0_lend 20 = .ok (.iastore, 1) := by decide +kernel
theorem dX0_lend_21 : decode cX0_lend 21 = .ok (.aload_n 0, 1) := by decide +kernel
theorem dX0_lend_22 : decode cX0_lend 22 = .ok (.getfield 24, 3) := by decide +kernel
theorem dX0_lend_25 : decode cX0_lend 25 = .ok (.iload_n 1, 1) := by decide +kernel
theorem dX0_lend_26 : decode cX0_lend 26 = .ok (.iload 4, 2) := by decide +kernel
theorem dX0_lend_28 : decode cX0_lend 28 = .ok (.iastore, 1) := by decide +kernel
theorem dX0_lend_29 : decode cX0_lend 29 = .ok (.iconst 0, 1) := by decide +kernel
theorem dX0_lend_30 : decode cX0_lend 30 = .ok (.istore 5, 2) := by decide +kernel
theorem dX0_lend_32 : decode cX0_lend 32 = .ok (.iload 5, 2) := by decide +kernel
theorem dX0_lend_34 : decode cX0_lend 34 = .ok (.iconst 5, 1) := by decide +kernel
theorem dX0_lend_35 : decode cX0_lend 35 = .ok (.if_icmp .ge 21, 3) := by decide +kernel
theorem dX0_lend_38 : decode cX0_lend 38 = .ok (.aload_n 0, 1) := by decide +kernel
theorem dX0_lend_39 : decode cX0_lend 39 = .ok (.getfield 27, 3) := by decide +kernel
theorem dX0_lend_42 : decode cX0_lend 42 = .ok (.iload_n 1, 1) := by decide +kernel
theorem dX0_lend_43 : decode cX0_lend 43 = .ok (.iconst 5, 1) := by decide +kernel
theorem dX0_lend_44 : decode cX0_lend 44 = .ok (.imul, 1) := by decide +kernel
theorem dX0_lend_45 : decode cX0_lend 45 = .ok (.iload 5, 2) := by decide +kernel
theorem dX0_lend_47 : decode cX0_lend 47 = .ok (.iadd, 1) := by decide +kernel
theorem dX0_lend_48 : decode cX0_lend 48 = .ok (.iconst 0, 1) := by decide +kernel
theorem dX0_lend_49 : decode cX0_lend 49 = .ok (.iastore, 1) := by decide +kernel
theorem dX0_lend_50 : decode cX0_lend 50 = .ok (.iinc 5 1, 3) := by decide +kernel
theorem dX0_lend_53 : decode cX0_lend 53 = .ok (.goto (-21), 3) := by decide +kernel
theorem dX0_lend_56 : decode cX0_lend 56 = .ok (.return_, 1) := by decide +kernel
theorem dX0_unlend_0 : decode cX0_unlend 0 = .ok (.aload_n 0, 1) := by decide +kernel
theorem dX0_unlend_1 : decode cX0_unlend 1 = .ok (.getfield 9, 3) := by decide +kernel
theorem dX0_unlend_4 : decode cX0_unlend 4 = .ok (.iload_n 1, 1) := by decide +kernel
theorem dX0_unlend_5 : decode cX0_unlend 5 = .ok (.bipush (-6), 2) := by decide +kernel
theorem dX0_unlend_7 : decode cX0_unlend 7 = .ok (.iastore, 1) := by decide +kernel
theorem dX0_unlend_8 : decode cX0_unlend 8 = .ok (.return_, 1) := by decide +kernel
theorem dX0_markSent_0 : decode cX0_markSent 0 = .ok (.aload_n 0, 1) := by decide +kernel
theorem dX0_markSent_1 : decode cX0_markSent 1 = .ok (.getfield 27, 3) := by decide +kernel
theorem dX0_markSent_4 : decode cX0_markSent 4 = .ok (.iload_n 1, 1) := by decide +kernel
theorem dX0_markSent_5 : decode cX0_markSent 5 = .ok (.iconst 5, 1) := by decide +kernel
theorem dX0_markSent_6 : decode cX0_markSent 6 = .ok (.imul, 1) := by decide +kernel
theorem dX0_markSent_7 : decode cX0_markSent 7 = .ok (.iload_n 2, 1) := by decide +kernel
theorem dX0_markSent_8 : decode cX0_markSent 8 = .ok (.iadd, 1) := by decide +kernel
theorem dX0_markSent_9 : decode cX0_markSent 9 = .ok (.dup2, 1) := by decide +kernel
theorem dX0_markSent_10 : decode cX0_markSent 10 = .ok (.iaload, 1) := by decide +kernel
theorem dX0_markSent_11 : decode cX0_markSent 11 = .ok (.iconst 1, 1) := by decide +kernel
theorem dX0_markSent_12 : decode cX0_markSent 12 = .ok (.iload_n 3, 1) := by decide +kernel
theorem dX0_markSent_13 : decode cX0_markSent 13 = .ok (.ishl, 1) := by decide +kernel
theorem dX0_markSent_14 : decode cX0_markSent 14 = .ok (.ior, 1) := by decide +kernel
theorem dX0_markSent_15 : decode cX0_markSent 15 = .ok (.iastore, 1) := by decide +kernel
theorem dX0_markSent_16 : decode cX0_markSent 16 = .ok (.return_, 1) := by decide +kernel
theorem dX0_isSent_0 : decode cX0_isSent 0 = .ok (.aload_n 0, 1) := by decide +kernel
theorem dX0_isSent_1 : decode cX0_isSent 1 = .ok (.getfield 27, 3) := by decide +kernel
theorem dX0_isSent_4 : decode cX0_isSent 4 = .ok (.iload_n 1, 1) := by decide +kernel
theorem dX0_isSent_5 : decode cX0_isSent 5 = .ok (.iconst 5, 1) := by decide +kernel
theorem dX0_isSent_6 : decode cX0_isSent 6 = .ok (.imul, 1) := by decide +kernel
theorem dX0_isSent_7 : decode cX0_isSent 7 = .ok (.iload_n 2, 1) := by decide +kernel
theorem dX0_isSent_8 : decode cX0_isSent 8 = .ok (.iadd, 1) := by decide +kernel
theorem dX0_isSent_9 : decode cX0_isSent 9 = .ok (.iaload, 1) := by decide +kernel
theorem dX0_isSent_10 : decode cX0_isSent 10 = .ok (.iload_n 3, 1) := by decide +kernel
theorem dX0_isSent_11 : decode cX0_isSent 11 = .ok (.iushr, 1) := by decide +kernel
theorem dX0_isSent_12 : decode cX0_isSent 12 = .ok (.iconst 1, 1) := by decide +kernel
theorem dX0_isSent_13 : decode cX0_isSent 13 = .ok (.iand, 1) := by decide +kernel
theorem dX0_isSent_14 : decode cX0_isSent 14 = .ok (.iconst 1, 1) := by decide +kernel
theorem dX0_isSent_15 : decode cX0_isSent 15 = .ok (.if_icmp .ne 7, 3) := by decide +kernel
theorem dX0_isSent_18 : decode cX0_isSent 18 = .ok (.iconst 1, 1) := by decide +kernel
theorem dX0_isSent_19 : decode cX0_isSent 19 = .ok (.goto 4, 3) := by decide +kernel
theorem dX0_isSent_22 : decode cX0_isSent 22 = .ok (.iconst 0, 1) := by decide +kernel
theorem dX0_isSent_23 : decode cX0_isSent 23 = .ok (.ireturn, 1) := by decide +kernel
theorem dX0_isAnySent_0 : decode cX0_isAnySent 0 = .ok (.aload_n 0, 1) := by decide +kernel
theorem dX0_isAnySent_1 : decode cX0_isAnySent 1 = .ok (.getfield 27, 3) := by decide +kernel
theorem dX0_isAnySent_4 : decode cX0_isAnySent 4 = .ok (.iload_n 1, 1) := by decide +kernel
theorem dX0_isAnySent_5 : decode cX0_isAnySent 5 = .ok (.iconst 5, 1) := by decide +kernel
theorem dX0_isAnySent_6 : decode cX0_isAnySent 6 = .ok (.imul, 1) := by decide +kernel
theorem dX0_isAnySent_7 : decode cX0_isAnySent 7 = .ok (.iload_n 2, 1) := by decide +kernel
theorem dX0_isAnySent_8 : decode cX0_isAnySent 8 = .ok (.iadd, 1) := by decide +kernel
theorem dX0_isAnySent_9 : decode cX0_isAnySent 9 = .ok (.iaload, 1) := by decide +kernel
theorem dX0_isAnySent_10 : decode cX0_isAnySent 10 = .ok (.ifCond .eq 7, 3) := by decide +kernel
theorem dX0_isAnySent_13 : decode cX0_isAnySent 13 = .ok (.iconst 1, 1) := by decide +kernel
theorem dX0_isAnySent_14 : decode cX0_isAnySent 14 = .ok (.goto 4, 3) := by decide +kernel
theorem dX0_isAnySent_17 : decode cX0_isAnySent 17 = .ok (.iconst 0, 1) := by decide +kernel
theorem dX0_isAnySent_18 : decode cX0_isAnySent 18 = .ok (.ireturn, 1) := by decide +kernel
theorem dX0_countSent_0 : decode cX0_countSent 0 = .ok (.iconst 0, 1) := by decide +kernel
theorem dX0_countSent_1 : decode cX0_countSent 1 = .ok (.istore_n 2, 1) := by decide +kernel
theorem dX0_countSent_2 : decode cX0_countSent 2 = .ok (.iconst 0, 1) := by decide +kernel
theorem dX0_countSent_3 : decode cX0_countSent 3 = .ok (.istore_n 3, 1) := by decide +kernel
theorem dX0_countSent_4 : decode cX0_countSent 4 = .ok (.iload_n 3, 1) := by decide +kernel
theorem dX0_countSent_5 : decode cX0_countSent 5 = .ok (.iconst 5, 1) := by decide +kernel
theorem dX0_countSent_6 : decode cX0_countSent 6 = .ok (.if_icmp .ge 25, 3) := by decide +kernel
theorem dX0_countSent_9 : decode cX0_countSent 9 = .ok (.iload_n 2, 1) := by decide +kernel
theorem dX0_countSent_10 : decode cX0_countSent 10 = .ok (.aload_n 0, 1) := by decide +kernel
theorem dX0_countSent_11 : decode cX0_countSent 11 = .ok (.getfield 27, 3) := by decide +kernel
theorem dX0_countSent_14 : decode cX0_countSent 14 = .ok (.iload_n 1, 1) := by decide +kernel
theorem dX0_countSent_15 : decode cX0_countSent 15 = .ok (.iconst 5, 1) := by decide +kernel
theorem dX0_countSent_16 : decode cX0_countSent 16 = .ok (.imul, 1) := by decide +kernel
theorem dX0_countSent_17 : decode cX0_countSent 17 = .ok (.iload_n 3, 1) := by decide +kernel
theorem dX0_countSent_18 : decode cX0_countSent 18 = .ok (.iadd, 1) := by decide +kernel
theorem dX0_countSent_19 : decode cX0_countSent 19 = .ok (.iaload, 1) := by decide +kernel
theorem dX0_countSent_20 : decode cX0_countSent 20 = .ok (.invokestatic 40, 3) := by decide +kernel
theorem dX0_countSent_23 : decode cX0_countSent 23 = .ok (.iadd, 1) := by decide +kernel
theorem dX0_countSent_24 : decode cX0_countSent 24 = .ok (.istore_n 2, 1) := by decide +kernel
theorem dX0_countSent_25 : decode cX0_countSent 25 = .ok (.iinc 3 1, 3) := by decide +kernel
theorem dX0_countSent_28 : decode cX0_countSent 28 = .ok (.goto (-24), 3) := by decide +kernel
theorem dX0_countSent_31 : decode cX0_countSent 31 = .ok (.iload_n 2, 1) := by decide +kernel
theorem dX0_countSent_32 : decode cX0_countSent 32 = .ok (.ireturn, 1) := by decide +kernel
theorem dX0_countAll_0 : decode cX0_countAll 0 = .ok (.iconst 0, 1) := by decide +kernel
theorem dX0_countAll_1 : decode cX0_countAll 1 = .ok (.istore_n 1, 1) := by decide +kernel
theorem dX0_countAll_2 : decode cX0_countAll 2 = .ok (.iconst 0, 1) := by decide +kernel
theorem dX0_countAll_3 : decode cX0_countAll 3 = .ok (.istore_n 2, 1) := by decide +kernel
theorem dX0_countAll_4 : decode cX0_countAll 4 = .ok (.iload_n 2, 1) := by decide +kernel
theorem dX0_countAll_5 : decode cX0_countAll 5 = .ok (.bipush 16, 2) := by decide +kernel
theorem dX0_countAll_7 : decode cX0_countAll 7 = .ok (.if_icmp .ge 20, 3) := by decide +kernel
theorem dX0_countAll_10 : decode cX0_countAll 10 = .ok (.aload_n 0, 1) := by decide +kernel
theorem dX0_countAll_11 : decode cX0_countAll 11 = .ok (.iload_n 2, 1) := by decide +kernel
theorem dX0_countAll_12 : decode cX0_countAll 12 = .ok (.invokevirtual 46, 3) := by decide +kernel
theorem dX0_countAll_15 : decode cX0_countAll 15 = .ok (.ifCond .eq 6, 3) := by decide +kernel
theorem dX0_countAll_18 : decode cX0_countAll 18 = .ok (.iinc 1 1, 3) := by decide +kernel
theorem dX0_countAll_21 : decode cX0_countAll 21 = .ok (.iinc 2 1, 3) := by decide +kernel
theorem dX0_countAll_24 : decode cX0_countAll 24 = .ok (.goto (-20), 3) := by decide +kernel
theorem dX0_countAll_27 : decode cX0_countAll 27 = .ok (.iload_n 1, 1) := by decide +kernel
theorem dX0_countAll_28 : decode cX0_countAll 28 = .ok (.ireturn, 1) := by decide +kernel
theorem dX0_countOfHost_0 : decode cX0_countOfHost 0 = .ok (.iconst 0, 1) := by decide +kernel
theorem dX0_countOfHost_1 : decode cX0_countOfHost 1 = .ok (.istore_n 2, 1) := by decide +kernel
theorem dX0_countOfHost_2 : decode cX0_countOfHost 2 = .ok (.iconst 0, 1) := by decide +kernel
theorem dX0_countOfHost_3 : decode cX0_countOfHost 3 = .ok (.istore_n 3, 1) := by decide +kernel
theorem dX0_countOfHost_4 : decode cX0_countOfHost 4 = .ok (.iload_n 3, 1) := by decide +kernel
theorem dX0_countOfHost_5 : decode cX0_countOfHost 5 = .ok (.bipush 16, 2) := by decide +kernel
theorem dX0_countOfHost_7 : decode cX0_countOfHost 7 = .ok (.if_icmp .ge 21, 3) := by decide +kernel
theorem dX0_countOfHost_10 : decode cX0_countOfHost 10 = .ok (.aload_n 0, 1) := by decide +kernel
theorem dX0_countOfHost_11 : decode cX0_countOfHost 11 = .ok (.iload_n 3, 1) := by decide +kernel
theorem dX0_countOfHost_12 : decode cX0_countOfHost 12 = .ok (.invokevirtual 50, 3) := by decide +kernel
theorem dX0_countOfHost_15 : decode cX0_countOfHost 15 = .ok (.iload_n 1, 1) := by decide +kernel
theorem dX0_countOfHost_16 : decode cX0_countOfHost 16 = .ok (.if_icmp .ne 6, 3) := by decide +kernel
theorem dX0_countOfHost_19 : decode cX0_countOfHost 19 = .ok (.iinc 2 1, 3) := by decide +kernel
theorem dX0_countOfHost_22 : decode cX0_countOfHost 22 = .ok (.iinc 3 1, 3) := by decide +kernel
theorem dX0_countOfHost_25 : decode cX0_countOfHost 25 = .ok (.goto (-21), 3) := by decide +kernel
theorem dX0_countOfHost_28 : decode cX0_countOfHost 28 = .ok (.iload_n 2, 1) := by decide +kernel
theorem dX0_countOfHost_29 : decode cX0_countOfHost 29 = .ok (.ireturn, 1) := by decide +kernel
theorem dX0_holderOf_0 : decode cX0_holderOf 0 = .ok (.iconst 0, 1) := by decide +kernel
theorem dX0_holderOf_1 : decode cX0_holderOf 1 = .ok (.istore_n 2, 1) := by decide +kernel
theorem dX0_holderOf_2 : decode cX0_holderOf 2 = .ok (.iload_n 2, 1) := by decide +kernel
theorem dX0_holderOf_3 : decode cX0_holderOf 3 = .ok (.iconst 4, 1) := by decide +kernel
theorem dX0_holderOf_4 : decode cX0_holderOf 4 = .ok (.if_icmp .ge 27, 3) := by decide +kernel
theorem dX0_holderOf_7 : decode cX0_holderOf 7 = .ok (.aload_n 0, 1) := by decide +kernel
theorem dX0_holderOf_8 : decode cX0_holderOf 8 = .ok (.iload_n 1, 1) := by decide +kernel
theorem dX0_holderOf_9 : decode cX0_holderOf 9 = .ok (.iconst 4, 1) := by decide +kernel
theorem dX0_holderOf_10 : decode cX0_holderOf 10 = .ok (.imul, 1) := by decide +kernel
theorem dX0_holderOf_11 : decode cX0_holderOf 11 = .ok (.iload_n 2, 1) := by decide +kernel
theorem dX0_holderOf_12 : decode cX0_holderOf 12 = .ok (.iadd, 1) := by decide +kernel
theorem dX0_holderOf_13 : decode cX0_holderOf 13 = .ok (.invokevirtual 50, 3) := by decide +kernel
theorem dX0_holderOf_16 : decode cX0_holderOf 16 = .ok (.istore_n 3, 1) := by decide +kernel
theorem dX0_holderOf_17 : decode cX0_holderOf 17 = .ok (.iload_n 3, 1) := by decide +kernel
theorem dX0_holderOf_18 : decode cX0_holderOf 18 = .ok (.bipush (-6), 2) := by decide +kernel
theorem dX0_holderOf_20 : decode cX0_holderOf 20 = .ok (.if_icmp .eq 5, 3) := by decide +kernel
theorem dX0_holderOf_23 : decode cX0_holderOf 23 = .ok (.iload_n 3, 1) := by decide +kernel
theorem dX0_holderOf_24 : decode cX0_holderOf 24 = .ok (.ireturn, 1) := by decide +kernel
theorem dX0_holderOf_25 : decode cX0_holderOf 25 = .ok (.iinc 2 1, 3) := by decide +kernel
theorem dX0_holderOf_28 : decode cX0_holderOf 28 = .ok (.goto (-26), 3) := by decide +kernel
theorem dX0_holderOf_31 : decode cX0_holderOf 31 = .ok (.bipush (-6), 2) := by decide +kernel
theorem dX0_holderOf_33 : decode cX0_holderOf 33 = .ok (.ireturn, 1) := by decide +kernel
theorem dX0_blocksOf_0 : decode cX0_blocksOf 0 = .ok (.iconst 0, 1) := by decide +kernel
theorem dX0_blocksOf_1 : decode cX0_blocksOf 1 = .ok (.istore_n 2, 1) := by decide +kernel
theorem dX0_blocksOf_2 : decode cX0_blocksOf 2 = .ok (.iconst 0, 1) := by decide +kernel
theorem dX0_blocksOf_3 : decode cX0_blocksOf 3 = .ok (.istore_n 3, 1) := by decide +kernel
theorem dX0_blocksOf_4 : decode cX0_blocksOf 4 = .ok (.iload_n 3, 1) := by decide +kernel
theorem dX0_blocksOf_5 : decode cX0_blocksOf 5 = .ok (.iconst 4, 1) := by decide +kernel
theorem dX0_blocksOf_6 : decode cX0_blocksOf 6 = .ok (.if_icmp .ge 24, 3) := by decide +kernel
theorem dX0_blocksOf_9 : decode cX0_blocksOf 9 = .ok (.aload_n 0, 1) := by decide +kernel
theorem dX0_blocksOf_10 : decode cX0_blocksOf 10 = .ok (.iload_n 3, 1) := by decide +kernel
theorem dX0_blocksOf_11 : decode cX0_blocksOf 11 = .ok (.invokevirtual 53, 3) := by decide +kernel
theorem dX0_blocksOf_14 : decode cX0_blocksOf 14 = .ok (.iload_n 1, 1) := by decide +kernel
theorem dX0_blocksOf_15 : decode cX0_blocksOf 15 = .ok (.if_icmp .ne 9, 3) := by decide +kernel
theorem dX0_blocksOf_18 : decode cX0_blocksOf 18 = .ok (.iload_n 2, 1) := by decide +kernel
theorem dX0_blocksOf_19 : decode cX0_blocksOf 19 = .ok (.iconst 1, 1) := by decide +kernel
theorem dX0_blocksOf_20 : decode cX0_blocksOf 20 = .ok (.iload_n 3, 1) := by decide +kernel
theorem dX0_blocksOf_21 : decode cX0_blocksOf 21 = .ok (.ishl, 1) := by decide +kernel
theorem dX0_blocksOf_22 : decode cX0_blocksOf 22 = .ok (.ior, 1) := by decide +kernel
theorem dX0_blocksOf_23 : decode cX0_blocksOf 23 = .ok (.istore_n 2, 1) := by decide +kernel
theorem dX0_blocksOf_24 : decode cX0_blocksOf 24 = .ok (.iinc 3 1, 3) := by decide +kernel
theorem dX0_blocksOf_27 : decode cX0_blocksOf 27 = .ok (.goto (-23), 3) := by decide +kernel
theorem dX0_blocksOf_30 : decode cX0_blocksOf 30 = .ok (.iload_n 2, 1) := by decide +kernel
theorem dX0_blocksOf_31 : decode cX0_blocksOf 31 = .ok (.ireturn, 1) := by decide +kernel
theorem dX0_countFreeBlocks_0 : decode cX0_countFreeBlocks 0 = .ok (.aload_n 0, 1) := by decide +kernel
theorem dX0_countFreeBlocks_1 : decode cX0_countFreeBlocks 1 = .ok (.bipush (-6), 2) := by decide +kernel
theorem dX0_countFreeBlocks_3 : decode cX0_countFreeBlocks 3 = .ok (.invokevirtual 56, 3) := by decide +kernel
theorem dX0_countFreeBlocks_6 : decode cX0_countFreeBlocks 6 = .ok (.invokestatic 40, 3) := by decide +kernel
theorem dX0_countFreeBlocks_9 : decode cX0_countFreeBlocks 9 = .ok (.ireturn, 1) := by decide +kernel
theorem dX0_copyBindings_0 : decode cX0_copyBindings 0 = .ok (.aload_n 1, 1) := by decide +kernel
theorem dX0_copyBindings_1 : decode cX0_copyBindings 1 = .ok (.getfield 9, 3) := by decide +kernel
theorem dX0_copyBindings_4 : decode cX0_copyBindings 4 = .ok (.iconst 0, 1) := by decide +kernel
theorem dX0_copyBindings_5 : decode cX0_copyBindings 5 = .ok (.aload_n 0, 1) := by decide +kernel
theorem dX0_copyBindings_6 : decode cX0_copyBindings 6 = .ok (.getfield 9, 3) := by decide +kernel
theorem dX0_copyBindings_9 : decode cX0_copyBindings 9 = .ok (.iconst 0, 1) := by decide +kernel
theorem dX0_copyBindings_10 : decode cX0_copyBindings 10 = .ok (.bipush 16, 2) := by decide +kernel
theorem dX0_copyBindings_12 : decode cX0_copyBindings 12 = .ok (.invokestatic 59, 3) := by decide +kernel
theorem dX0_copyBindings_15 : decode cX0_copyBindings 15 = .ok (.aload_n 1, 1) := by decide +kernel
theorem dX0_copyBindings_16 : decode cX0_copyBindings 16 = .ok (.getfield 15, 3) := by decide +kernel
theorem dX0_copyBindings_19 : decode cX0_copyBindings 19 = .ok (.iconst 0, 1) := by decide +kernel
theorem dX0_copyBindings_20 : decode cX0_copyBindings 20 = .ok (.aload_n 0, 1) := by decide +kernel
theorem dX0_copyBindings_21 : decode cX0_copyBindings 21 = .ok (.getfield 15, 3) := by decide +kernel
theorem dX0_copyBindings_24 : decode cX0_copyBindings 24 = .ok (.iconst 0, 1) := by decide +kernel
theorem dX0_copyBindings_25 : decode cX0_copyBindings 25 = .ok (.bipush 16, 2) := by decide +kernel
theorem dX0_copyBindings_27 : decode cX0_copyBindings 27 = .ok (.invokestatic 59, 3) := by decide +kernel
theorem dX0_copyBindings_30 : decode cX0_copyBindings 30 = .ok (.aload_n 1, 1) := by decide +kernel
theorem dX0_copyBindings_31 : decode cX0_copyBindings 31 = .ok (.getfield 18, 3) := by decide +kernel
theorem dX0_copyBindings_34 : decode cX0_copyBindings 34 = .ok (.iconst 0, 1) := by decide +kernel
theorem dX0_copyBindings_35 : decode cX0_copyBindings 35 = .ok (.aload_n 0, 1) := by decide +kernel
theorem dX0_copyBindings_36 : decode cX0_copyBindings 36 = .ok (.getfield 18, 3) := by decide +kernel
theorem dX0_copyBindings_39 : decode cX0_copyBindings 39 = .ok (.iconst 0, 1) := by decide +kernel
theorem dX0_copyBindings_40 : decode cX0_copyBindings 40 = .ok (.bipush 16, 2) := by decide +kernel
theorem dX0_copyBindings_42 : decode cX0_copyBindings 42 = .ok (.invokestatic 59, 3) := by decide +kernel
theorem dX0_copyBindings_45 : decode cX0_copyBindings 45 = .ok (.aload_n 1, 1) := by decide +kernel
theorem dX0_copyBindings_46 : decode cX0_copyBindings 46 = .ok (.getfield 21, 3) := by decide +kernel
theorem dX0_copyBindings_49 : decode cX0_copyBindings 49 = .ok (.iconst 0, 1) := by decide +kernel
theorem dX0_copyBindings_50 : decode cX0_copyBindings 50 = .ok (.aload_n 0, 1) := by decide +kernel
theorem dX0_copyBindings_51 : decode cX0_copyBindings 51 = .ok (.getfield 21, 3) := by decide +kernel
theorem dX0_copyBindings_54 : decode cX0_copyBindings 54 = .ok (.iconst 0, 1) := by decide +kernel
theorem dX0_copyBindings_55 : decode cX0_copyBindings 55 = .ok (.bipush 16, 2) := by decide +kernel
theorem dX0_copyBindings_57 : decode cX0_copyBindings 57 = .ok (.invokestatic 59, 3) := by decide +kernel
theorem dX0_copyBindings_60 : decode cX0_copyBindings 60 = .ok (.aload_n 1, 1) := by decide +kernel
theorem dX0_copyBindings_61 : decode cX0_copyBindings 61 = .ok (.getfield 24, 3) := by decide +kernel
theorem dX0_copyBindings_64 : decode cX0_copyBindings 64 = .ok (.iconst 0, 1) := by decide +kernel
theorem dX0_copyBindings_65 : decode cX0_copyBindings 65 = .ok (.aload_n 0, 1) := by decide +kernel
theorem dX0_copyBindings_66 : decode cX0_copyBindings 66 = .ok (.getfield 24, 3) := by decide +kernel
theorem dX0_copyBindings_69 : decode cX0_copyBindings 69 = .ok (.iconst 0, 1) := by decide +kernel
theorem dX0_copyBindings_70 : decode cX0_copyBindings 70 = .ok (.bipush 16, 2) := by decide +kernel
theorem dX0_copyBindings_72 : decode cX0_copyBindings 72 = .ok (.invokestatic 59, 3) := by decide +kernel
theorem dX0_copyBindings_75 : decode cX0_copyBindings 75 = .ok (.aload_n 1, 1) := by decide +kernel
theorem dX0_copyBindings_76 : decode cX0_copyBindings 76 = .ok (.getfield 27, 3) := by decide +kernel
theorem dX0_copyBindings_79 : decode cX0_copyBindings 79 = .ok (.iconst 0, 1) := by decide +kernel
theorem dX0_copyBindings_80 : decode cX0_copyBindings 80 = .ok (.aload_n 0, 1) := by decide +kernel
theorem dX0_copyBindings_81 : decode cX0_copyBindings 81 = .ok (.getfield 27, 3) := by decide +kernel
theorem dX0_copyBindings_84 : decode cX0_copyBindings 84 = .ok (.iconst 0, 1) := by decide +kernel
theorem dX0_copyBindings_85 : decode cX0_copyBindings 85 = .ok (.bipush 80, 2) := by decide +kernel
theorem dX0_copyBindings_87 : decode cX0_copyBindings 87 = .ok (.invokestatic 59, 3) := by decide +kernel
theorem dX0_copyBindings_90 : decode cX0_copyBindings 90 = .ok (.return_, 1) := by decide +kernel
theorem dX2_init_0 : decode cX2_init 0 = .ok (.aload_n 0, 1) := by decide +kernel
theorem dX2_init_1 : decode cX2_init 1 = .ok (.invokespecial 3, 3) := by decide +kernel
theorem dX2_init_4 : decode cX2_init 4 = .ok (.aload_n 0, 1) := by decide +kernel
theorem dX2_init_5 : decode cX2_init 5 = .ok (.bipush 32, 2) := by decide +kernel
theorem dX2_init_7 : decode cX2_init 7 = .ok (.newarray .int, 2) := by decide +kernel
theorem dX2_init_9 : decode cX2_init 9 = .ok (.putfield 9, 3) := by decide +kernel
theorem dX2_init_12 : decode cX2_init 12 = .ok (.aload_n 0, 1) := by decide +kernel
theorem dX2_init_13 : decode cX2_init 13 = .ok (.bipush 32, 2) := by decide +kernel
theorem dX2_init_15 : decode cX2_init 15 = .ok (.newarray .int, 2) := by decide +kernel
theorem dX2_init_17 : decode cX2_init 17 = .ok (.putfield 15, 3) := by decide +kernel
theorem dX2_init_20 : decode cX2_init 20 = .ok (.aload_n 0, 1) := by decide +kernel
theorem dX2_init_21 : decode cX2_init 21 = .ok (.bipush 6, 2) := by decide +kernel
theorem dX2_init_23 : decode cX2_init 23 = .ok (.newarray .int, 2) := by decide +kernel
theorem dX2_init_25 : decode cX2_init 25 = .ok (.putfield 18, 3) := by decide +kernel
theorem dX2_init_28 : decode cX2_init 28 = .ok (.aload_n 0, 1) := by decide +kernel
theorem dX2_init_29 : decode cX2_init 29 = .ok (.bipush 6, 2) := by decide +kernel
theorem dX2_init_31 : decode cX2_init 31 = .ok (.newarray .int, 2) := by decide +kernel
theorem dX2_init_33 : decode cX2_init 33 = .ok (.putfield 21, 3) := by decide +kernel
theorem dX2_init_36 : decode cX2_init 36 = .ok (.aload_n 0, 1) := by decide +kernel
theorem dX2_init_37 : decode cX2_init 37 = .ok (.getfield 9, 3) := by decide +kernel
theorem dX2_init_40 : decode cX2_init 40 = .ok (.bipush (-6), 2) := by decide +kernel
theorem dX2_init_42 : decode cX2_init 42 = .ok (.invokestatic 24, 3) := by decide +kernel
theorem dX2_init_45 : decode cX2_init 45 = .ok (.aload_n 0, 1) := by decide +kernel
theorem dX2_init_46 : decode cX2_init 46 = .ok (.getfield 18, 3) := by decide +kernel
theorem dX2_init_49 : decode cX2_init 49 = .ok (.bipush (-6), 2) := by decide +kernel
theorem dX2_init_51 : decode cX2_init 51 = .ok (.invokestatic 24, 3) := by decide +kernel
theorem dX2_init_54 : decode cX2_init 54 = .ok (.return_, 1) := by decide +kernel
theorem dX2_isKnown_0 : decode cX2_isKnown 0 = .ok (.aload_n 0, 1) := by decide +kernel
theorem dX2_isKnown_1 : decode cX2_isKnown 1 = .ok (.getfield 9, 3) := by decide +kernel
theorem dX2_isKnown_4 : decode cX2_isKnown 4 = .ok (.iload_n 1, 1) := by decide +kernel
theorem dX2_isKnown_5 : decode cX2_isKnown 5 = .ok (.iaload, 1) := by decide +kernel
theorem dX2_isKnown_6 : decode cX2_isKnown 6 = .ok (.bipush (-6), 2) := by decide +kernel
theorem dX2_isKnown_8 : decode cX2_isKnown 8 = .ok (.if_icmp .eq 7, 3) := by decide +kernel
theorem dX2_isKnown_11 : decode cX2_isKnown 11 = .ok (.iconst 1, 1) := by decide +kernel
theorem dX2_isKnown_12 : decode cX2_isKnown 12 = .ok (.goto 4, 3) := by decide +kernel
theorem dX2_isKnown_15 : decode cX2_isKnown 15 = .ok (.iconst 0, 1) := by decide +kernel
theorem dX2_isKnown_16 : decode cX2_isKnown 16 = .ok (.ireturn, 1) := by decide +kernel
theorem dX2_know_0 : decode cX2_know 0 = .ok (.aload_n 0, 1) := by decide +kernel
theorem dX2_know_1 : decode cX2_know 1 = .ok (.getfield 9, 3) := by decide +kernel
theorem dX2_know_4 : decode cX2_know 4 = .ok (.iload_n 1, 1) := by decide +kernel
theorem dX2_know_5 : decode cX2_know 5 = .ok (.iload_n 2, 1) := by decide +kernel
theorem dX2_know_6 : decode cX2_know 6 = .ok (.iastore, 1) := by decide +kernel
theorem dX2_know_7 : decode cX2_know 7 = .ok (.aload_n 0, 1) := by decide +kernel
theorem dX2_know_8 : decode cX2_know 8 = .ok (.getfield 15, 3) := by decide +kernel
theorem dX2_know_11 : decode cX2_know 11 = .ok (.iload_n 1, 1) := by decide +kernel
theorem dX2_know_12 : decode cX2_know 12 = .ok (.iload_n 3, 1) := by decide +kernel
theorem dX2_know_13 : decode cX2_know 13 = .ok (.iastore, 1) := by decide +kernel
theorem dX2_know_14 : decode cX2_know 14 = .ok (.return_, 1) := by decide +kernel
theorem dX2_forget_0 : decode cX2_forget 0 = .ok (.aload_n 0, 1) := by decide +kernel
theorem dX2_forget_1 : decode cX2_forget 1 = .ok (.getfield 9, 3) := by decide +kernel
theorem dX2_forget_4 : decode cX2_forget 4 = .ok (.iload_n 1, 1) := by decide +kernel
theorem dX2_forget_5 : decode cX2_forget 5 = .ok (.bipush (-6), 2) := by decide +kernel
theorem dX2_forget_7 : decode cX2_forget 7 = .ok (.iastore, 1) := by decide +kernel
theorem dX2_forget_8 : decode cX2_forget 8 = .ok (.return_, 1) := by decide +kernel
theorem dX2_forgetAllOf_0 : decode cX2_forgetAllOf 0 = .ok (.iconst 0, 1) := by decide +kernel
theorem dX2_forgetAllOf_1 : decode cX2_forgetAllOf 1 = .ok (.istore_n 2, 1) := by decide +kernel
theorem dX2_forgetAllOf_2 : decode cX2_forgetAllOf 2 = .ok (.iload_n 2, 1) := by decide +kernel
theorem dX2_forgetAllOf_3 : decode cX2_forgetAllOf 3 = .ok (.bipush 32, 2) := by decide +kernel
theorem dX2_forgetAllOf_5 : decode cX2_forgetAllOf 5 = .ok (.if_icmp .ge 24, 3) := by decide +kernel
theorem dX2_forgetAllOf_8 : decode cX2_forgetAllOf 8 = .ok (.aload_n 0, 1) := by decide +kernel
theorem dX2_forgetAllOf_9 : decode cX2_forgetAllOf 9 = .ok (.getfield 9, 3) := by decide +kernel
theorem dX2_forgetAllOf_12 : decode cX2_forgetAllOf 12 = .ok (.iload_n 2, 1) := by decide +kernel
theorem dX2_forgetAllOf_13 : decode cX2_forgetAllOf 13 = .ok (.iaload, 1) := by decide +kernel
theorem dX2_forgetAllOf_14 : decode cX2_forgetAllOf 14 = .ok (.iload_n 1, 1) := by decide +kernel
theorem dX2_forgetAllOf_15 : decode cX2_forgetAllOf 15 = .ok (.if_icmp .ne 8, 3) := by decide +kernel
theorem dX2_forgetAllOf_18 : decode cX2_forgetAllOf 18 = .ok (.aload_n 0, 1) := by decide +kernel
theorem dX2_forgetAllOf_19 : decode cX2_forgetAllOf 19 = .ok (.iload_n 2, 1) := by decide +kernel
theorem dX2_forgetAllOf_20 : decode cX2_forgetAllOf 20 = .ok (.invokevirtual 30, 3) := by decide +kernel
theorem dX2_forgetAllOf_23 : decode cX2_forgetAllOf 23 = .ok (.iinc 2 1, 3) := by decide +kernel
theorem dX2_forgetAllOf_26 : decode cX2_forgetAllOf 26 = .ok (.goto (-24), 3) := by decide +kernel
theorem dX2_forgetAllOf_29 : decode cX2_forgetAllOf 29 = .ok (.return_, 1) := by decide +kernel
theorem dX2_hold_0 : decode cX2_hold 0 = .ok (.iload_n 1, 1) := by decide +kernel
theorem dX2_hold_1 : decode cX2_hold 1 = .ok (.bipush 8, 2) := by decide +kernel
theorem dX2_hold_3 : decode cX2_hold 3 = .ok (.imul, 1) := by decide +kernel
theorem dX2_hold_4 : decode cX2_hold 4 = .ok (.iload_n 2, 1) := by decide +kernel
theorem dX2_hold_5 : decode cX2_hold 5 = .ok (.iadd, 1) := by decide +kernel
theorem dX2_hold_6 : decode cX2_hold 6 = .ok (.istore 4, 2) := by decide +kernel
theorem dX2_hold_8 : decode cX2_hold 8 = .ok (.aload_n 0, 1) := by decide +kernel
theorem dX2_hold_9 : decode cX2_hold 9 = .ok (.iload 4, 2) := by decide +kernel
theorem dX2_hold_11 : decode cX2_hold 11 = .ok (.invokevirtual 34, 3) := by decide +kernel
theorem dX2_hold_14 : decode cX2_hold 14 = .ok (.bipush (-6), 2) := by decide +kernel
theorem dX2_hold_16 : decode cX2_hold 16 = .ok (.if_icmp .eq 5, 3) := by decide +kernel
theorem dX2_hold_19 : decode cX2_hold 19 = .ok (.iconst 0, 1) := by decide +kernel
theorem dX2_hold_20 : decode cX2_hold 20 = .ok (.ireturn, 1) := by decide +kernel
theorem dX2_hold_21 : decode cX2_hold 21 = .ok (.aload_n 0, 1) := by decide +kernel
theorem dX2_hold_22 : decode cX2_hold 22 = .ok (.bipush (-6), 2) := by decide +kernel
theorem dX2_hold_24 : decode cX2_hold 24 = .ok (.invokevirtual 34, 3) := by decide +kernel
theorem dX2_hold_27 : decode cX2_hold 27 = .ok (.istore 5, 2) := by decide +kernel
theorem dX2_hold_29 : decode cX2_hold 29 = .ok (.iload 5, 2) := by decide +kernel
theorem dX2_hold_31 : decode cX2_hold 31 = .ok (.bipush (-6), 2) := by decide +kernel
theorem dX2_hold_33 : decode cX2_hold 33 = .ok (.if_icmp .ne 6, 3) := by decide +kernel
theorem dX2_hold_36 : decode cX2_hold 36 = .ok (.bipush (-4), 2) := by decide +kernel
theorem dX2_hold_38 : decode cX2_hold 38 = .ok (.ireturn, 1) := by decide +kernel
theorem dX2_hold_39 : decode cX2_hold 39 = .ok (.aload_n 0, 1) := by decide +kernel
theorem dX2_hold_40 : decode cX2_hold 40 = .ok (.getfield 18, 3) := by decide +kernel
theorem dX2_hold_43 : decode cX2_hold 43 = .ok (.iload 5, 2) := by decide +kernel
theorem dX2_hold_45 : decode cX2_hold 45 = .ok (.iload 4, 2) := by decide +kernel
theorem dX2_hold_47 : decode cX2_hold 47 = .ok (.iastore, 1) := by decide +kernel
theorem dX2_hold_48 : decode cX2_hold 48 = .ok (.aload_n 0, 1) := by decide +kernel
theorem dX2_hold_49 : decode cX2_hold 49 = .ok (.getfield 21, 3) := by decide +kernel
theorem dX2_hold_52 : decode cX2_hold 52 = .ok (.iload 5, 2) := by decide +kernel
theorem dX2_hold_54 : decode cX2_hold 54 = .ok (.iload_n 3, 1) := by decide +kernel
theorem dX2_hold_55 : decode cX2_hold 55 = .ok (.iastore, 1) := by decide +kernel
theorem dX2_hold_56 : decode cX2_hold 56 = .ok (.iconst 0, 1) := by decide +kernel
theorem dX2_hold_57 : decode cX2_hold 57 = .ok (.ireturn, 1) := by decide +kernel
theorem dX2_placeOf_0 : decode cX2_placeOf 0 = .ok (.iconst 0, 1) := by decide +kernel
theorem dX2_placeOf_1 : decode cX2_placeOf 1 = .ok (.istore_n 2, 1) := by decide +kernel
theorem dX2_placeOf_2 : decode cX2_placeOf 2 = .ok (.iload_n 2, 1) := by decide +kernel
theorem dX2_placeOf_3 : decode cX2_placeOf 3 = .ok (.bipush 6, 2) := by decide +kernel
theorem dX2_placeOf_5 : decode cX2_placeOf 5 = .ok (.if_icmp .ge 21, 3) := by decide +kernel
theorem dX2_placeOf_8 : decode cX2_placeOf 8 = .ok (.aload_n 0, 1) := by decide +kernel
theorem dX2_placeOf_9 : decode cX2_placeOf 9 = .ok (.getfield 18, 3) := by decide +kernel
theorem dX2_placeOf_12 : decode cX2_placeOf 12 = .ok (.iload_n 2, 1) := by decide +kernel
theorem dX2_placeOf_13 : decode cX2_placeOf 13 = .ok (.iaload, 1) := by decide +kernel
theorem dX2_placeOf_14 : decode cX2_placeOf 14 = .ok (.iload_n 1, 1) := by decide +kernel
theorem dX2_placeOf_15 : decode cX2_placeOf 15 = .ok (.if_icmp .ne 5, 3) := by decide +kernel
theorem dX2_placeOf_18 : decode cX2_placeOf 18 = .ok (.iload_n 2, 1) := by decide +kernel
theorem dX2_placeOf_19 : decode cX2_placeOf 19 = .ok (.ireturn, 1) := by decide +kernel
theorem dX2_placeOf_20 : decode cX2_placeOf 20 = .ok (.iinc 2 1, 3) := by decide +kernel
theorem dX2_placeOf_23 : decode cX2_placeOf 23 = .ok (.goto (-21), 3) := by decide +kernel
theorem dX2_placeOf_26 : decode cX2_placeOf 26 = .ok (.bipush (-6), 2) := by decide +kernel
theorem dX2_placeOf_28 : decode cX2_placeOf 28 = .ok (.ireturn, 1) := by decide +kernel
theorem dX2_releaseHeld_0 : decode cX2_releaseHeld 0 = .ok (.iconst 0, 1) := by decide +kernel
theorem dX2_releaseHeld_1 : decode cX2_releaseHeld 1 = .ok (.istore_n 2, 1) := by decide +kernel
theorem dX2_releaseHeld_2 : decode cX2_releaseHeld 2 = .ok (.iconst 0, 1) := by decide +kernel
theorem dX2_releaseHeld_3 : decode cX2_releaseHeld 3 = .ok (.istore_n 3, 1) := by decide +kernel
theorem dX2_releaseHeld_4 : decode cX2_releaseHeld 4 = .ok (.iload_n 3, 1) := by decide +kernel
theorem dX2_releaseHeld_5 : decode cX2_releaseHeld 5 = .ok (.bipush 6, 2) := by decide +kernel
theorem dX2_releaseHeld_7 : decode cX2_releaseHeld 7 = .ok (.if_icmp .ge 44, 3) := by decide +kernel
theorem dX2_releaseHeld_10 : decode cX2_releaseHeld 10 = .ok (.aload_n 0, 1) := by decide +kernel
theorem dX2_releaseHeld_11 : decode cX2_releaseHeld 11 = .ok (.getfield 18, 3) := by decide +kernel
theorem dX2_releaseHeld_14 : decode cX2_releaseHeld 14 = .ok (.iload_n 3, 1) := by decide +kernel
theorem dX2_releaseHeld_15 : decode cX2_releaseHeld 15 = .ok (.iaload, 1) := by decide +kernel
theorem dX2_releaseHeld_16 : decode cX2_releaseHeld 16 = .ok (.bipush (-6), 2) := by decide +kernel
theorem dX2_releaseHeld_18 : decode cX2_releaseHeld 18 = .ok (.if_icmp .eq 27, 3) := by decide +kernel
theorem dX2_releaseHeld_21 : decode cX2_releaseHeld 21 = .ok (.aload_n 0, 1) := by decide +kernel
theorem dX2_releaseHeld_22 : decode cX2_releaseHeld 22 = .ok (.getfield 18, 3) := by decide +kernel
theorem dX2_releaseHeld_25 : decode cX2_releaseHeld 25 = .ok (.iload_n 3, 1) := by decide +kernel
theorem dX2_releaseHeld_26 : decode cX2_releaseHeld 26 = .ok (.iaload, 1) := by decide +kernel
theorem dX2_releaseHeld_27 : decode cX2_releaseHeld 27 = .ok (.bipush 8, 2) := by decide +kernel
theorem dX2_releaseHeld_29 : decode cX2_releaseHeld 29 = .ok (.idiv, 1) := by decide +kernel
theorem dX2_releaseHeld_30 : decode cX2_releaseHeld 30 = .ok (.iload_n 1, 1) := by decide +kernel
theorem dX2_releaseHeld_31 : decode cX2_releaseHeld 31 = .ok (.if_icmp .ne 14, 3) := by decide +kernel
theorem dX2_releaseHeld_34 : decode cX2_releaseHeld 34 = .ok (.aload_n 0, 1) := by decide +kernel
theorem dX2_releaseHeld_35 : decode cX2_releaseHeld 35 = .ok (.getfield 18, 3) := by decide +kernel
theorem dX2_releaseHeld_38 : decode cX2_releaseHeld 38 = .ok (.iload_n 3, 1) := by decide +kernel
theorem dX2_releaseHeld_39 : decode cX2_releaseHeld 39 = .ok (.bipush (-6), 2) := by decide +kernel
theorem dX2_releaseHeld_41 : decode cX2_releaseHeld 41 = .ok (.iastore, 1) := by decide +kernel
theorem dX2_releaseHeld_42 : decode cX2_releaseHeld 42 = .ok (.iinc 2 1, 3) := by decide +kernel
theorem dX2_releaseHeld_45 : decode cX2_releaseHeld 45 = .ok (.iinc 3 1, 3) := by decide +kernel
theorem dX2_releaseHeld_48 : decode cX2_releaseHeld 48 = .ok (.goto (-44), 3) := by decide +kernel
theorem dX2_releaseHeld_51 : decode cX2_releaseHeld 51 = .ok (.iload_n 2, 1) := by decide +kernel
theorem dX2_releaseHeld_52 : decode cX2_releaseHeld 52 = .ok (.ireturn, 1) := by decide +kernel
theorem dX2_endOld_0 : decode cX2_endOld 0 = .ok (.iconst 0, 1) := by decide +kernel
theorem dX2_endOld_1 : decode cX2_endOld 1 = .ok (.istore_n 2, 1) := by decide +kernel
theorem dX2_endOld_2 : decode cX2_endOld 2 = .ok (.iload_n 2, 1) := by decide +kernel
theorem dX2_endOld_3 : decode cX2_endOld 3 = .ok (.bipush 32, 2) := by decide +kernel
theorem dX2_endOld_5 : decode cX2_endOld 5 = .ok (.if_icmp .ge 34, 3) := by decide +kernel
theorem dX2_endOld_8 : decode cX2_endOld 8 = .ok (.aload_n 0, 1) := by decide +kernel
theorem dX2_endOld_9 : decode cX2_endOld 9 = .ok (.iload_n 2, 1) := by decide +kernel
theorem dX2_endOld_10 : decode cX2_endOld 10 = .ok (.invokevirtual 38, 3) := by decide +kernel
theorem dX2_endOld_13 : decode cX2_endOld 13 = .ok (.ifCond .eq 20, 3) := by decide +kernel
theorem dX2_endOld_16 : decode cX2_endOld 16 = .ok (.iload_n 1, 1) := by decide +kernel
theorem dX2_endOld_17 : decode cX2_endOld 17 = .ok (.aload_n 0, 1) := by decide +kernel
theorem dX2_endOld_18 : decode cX2_endOld 18 = .ok (.getfield 15, 3) := by decide +kernel
theorem dX2_endOld_21 : decode cX2_endOld 21 = .ok (.iload_n 2, 1) := by decide +kernel
theorem dX2_endOld_22 : decode cX2_endOld 22 = .ok (.iaload, 1) := by decide +kernel
theorem dX2_endOld_23 : decode cX2_endOld 23 = .ok (.isub, 1) := by decide +kernel
theorem dX2_endOld_24 : decode cX2_endOld 24 = .ok (.iconst 5, 1) := by decide +kernel
theorem dX2_endOld_25 : decode cX2_endOld 25 = .ok (.if_icmp .lt 8, 3) := by decide +kernel
theorem dX2_endOld_28 : decode cX2_endOld 28 = .ok (.aload_n 0, 1) := by decide +kernel
theorem dX2_endOld_29 : decode cX2_endOld 29 = .ok (.iload_n 2, 1) := by decide +kernel
theorem dX2_endOld_30 : decode cX2_endOld 30 = .ok (.invokevirtual 30, 3) := by decide +kernel
theorem dX2_endOld_33 : decode cX2_endOld 33 = .ok (.iinc 2 1, 3) := by decide +kernel
theorem dX2_endOld_36 : decode cX2_endOld 36 = .ok (.goto (-34), 3) := by decide +kernel
theorem dX2_endOld_39 : decode cX2_endOld 39 = .ok (.iconst 0, 1) := by decide +kernel
theorem dX2_endOld_40 : decode cX2_endOld 40 = .ok (.istore_n 2, 1) := by decide +kernel
theorem dX2_endOld_41 : decode cX2_endOld 41 = .ok (.iload_n 2, 1) := by decide +kernel
theorem dX2_endOld_42 : decode cX2_endOld 42 = .ok (.bipush 6, 2) := by decide +kernel
theorem dX2_endOld_44 : decode cX2_endOld 44 = .ok (.if_icmp .ge 40, 3) := by decide +kernel
theorem dX2_endOld_47 : decode cX2_endOld 47 = .ok (.aload_n 0, 1) := by decide +kernel
theorem dX2_endOld_48 : decode cX2_endOld 48 = .ok (.getfield 18, 3) := by decide +kernel
theorem dX2_endOld_51 : decode cX2_endOld 51 = .ok (.iload_n 2, 1) := by decide +kernel
theorem dX2_endOld_52 : decode cX2_endOld 52 = .ok (.iaload, 1) := by decide +kernel
theorem dX2_endOld_53 : decode cX2_endOld 53 = .ok (.bipush (-6), 2) := by decide +kernel
theorem dX2_endOld_55 : decode cX2_endOld 55 = .ok (.if_icmp .eq 23, 3) := by decide +kernel
theorem dX2_endOld_58 : decode cX2_endOld 58 = .ok (.iload_n 1, 1) := by decide +kernel
theorem dX2_endOld_59 : decode cX2_endOld 59 = .ok (.aload_n 0, 1) := by decide +kernel
theorem dX2_endOld_60 : decode cX2_endOld 60 = .ok (.getfield 21, 3) := by decide +kernel
theorem dX2_endOld_63 : decode cX2_endOld 63 = .ok (.iload_n 2, 1) := by decide +kernel
theorem dX2_endOld_64 : decode cX2_endOld 64 = .ok (.iaload, 1) := by decide +kernel
theorem dX2_endOld_65 : decode cX2_endOld 65 = .ok (.isub, 1) := by decide +kernel
theorem dX2_endOld_66 : decode cX2_endOld 66 = .ok (.iconst 5, 1) := by decide +kernel
theorem dX2_endOld_67 : decode cX2_endOld 67 = .ok (.if_icmp .lt 11, 3) := by decide +kernel
theorem dX2_endOld_70 : decode cX2_endOld 70 = .ok (.aload_n 0, 1) := by decide +kernel
theorem dX2_endOld_71 : decode cX2_endOld 71 = .ok (.getfield 18, 3) := by decide +kernel
theorem dX2_endOld_74 : decode cX2_endOld 74 = .ok (.iload_n 2, 1) := by decide +kernel
theorem dX2_endOld_75 : decode cX2_endOld 75 = .ok (.bipush (-6), 2) := by decide +kernel
theorem dX2_endOld_77 : decode cX2_endOld 77 = .ok (.iastore, 1) := by decide +kernel
theorem dX2_endOld_78 : decode cX2_endOld 78 = .ok (.iinc 2 1, 3) := by decide +kernel
theorem dX2_endOld_81 : decode cX2_endOld 81 = .ok (.goto (-40), 3) := by decide +kernel
theorem dX2_endOld_84 : decode cX2_endOld 84 = .ok (.return_, 1) := by decide +kernel
theorem dX2_countKnown_0 : decode cX2_countKnown 0 = .ok (.iconst 0, 1) := by decide +kernel
theorem dX2_countKnown_1 : decode cX2_countKnown 1 = .ok (.istore_n 1, 1) := by decide +kernel
theorem dX2_countKnown_2 : decode cX2_countKnown 2 = .ok (.iconst 0, 1) := by decide +kernel
theorem dX2_countKnown_3 : decode cX2_countKnown 3 = .ok (.istore_n 2, 1) := by decide +kernel
theorem dX2_countKnown_4 : decode cX2_countKnown 4 = .ok (.iload_n 2, 1) := by decide +kernel
theorem dX2_countKnown_5 : decode cX2_countKnown 5 = .ok (.bipush 32, 2) := by decide +kernel
theorem dX2_countKnown_7 : decode cX2_countKnown 7 = .ok (.if_icmp .ge 20, 3) := by decide +kernel
theorem dX2_countKnown_10 : decode cX2_countKnown 10 = .ok (.aload_n 0, 1) := by decide +kernel
theorem dX2_countKnown_11 : decode cX2_countKnown 11 = .ok (.iload_n 2, 1) := by decide +kernel
theorem dX2_countKnown_12 : decode cX2_countKnown 12 = .ok (.invokevirtual 38, 3) := by decide +kernel
theorem dX2_countKnown_15 : decode cX2_countKnown 15 = .ok (.ifCond .eq 6, 3) := by decide +kernel
theorem dX2_countKnown_18 : decode cX2_countKnown 18 = .ok (.iinc 1 1, 3) := by decide +kernel
theorem dX2_countKnown_21 : decode cX2_countKnown 21 = .ok (.iinc 2 1, 3) := by decide +kernel
theorem dX2_countKnown_24 : decode cX2_countKnown 24 = .ok (.goto (-20), 3) := by decide +kernel
theorem dX2_countKnown_27 : decode cX2_countKnown 27 = .ok (.iload_n 1, 1) := by decide +kernel
theorem dX2_countKnown_28 : decode cX2_countKnown 28 = .ok (.ireturn, 1) := by decide +kernel
theorem dX2_countHeld_0 : decode cX2_countHeld 0 = .ok (.iconst 0, 1) := by decide +kernel
theorem dX2_countHeld_1 : decode cX2_countHeld 1 = .ok (.istore_n 1, 1) := by decide +kernel
theorem dX2_countHeld_2 : decode cX2_countHeld 2 = .ok (.iconst 0, 1) := by decide +kernel
theorem dX2_countHeld_3 : decode cX2_countHeld 3 = .ok (.istore_n 2, 1) := by decide +kernel
theorem dX2_countHeld_4 : decode cX2_countHeld 4 = .ok (.iload_n 2, 1) := by decide +kernel
theorem dX2_countHeld_5 : decode cX2_countHeld 5 = .ok (.bipush 6, 2) := by decide +kernel
theorem dX2_countHeld_7 : decode cX2_countHeld 7 = .ok (.if_icmp .ge 23, 3) := by decide +kernel
theorem dX2_countHeld_10 : decode cX2_countHeld 10 = .ok (.aload_n 0, 1) := by decide +kernel
theorem dX2_countHeld_11 : decode cX2_countHeld 11 = .ok (.getfield 18, 3) := by decide +kernel
theorem dX2_countHeld_14 : decode cX2_countHeld 14 = .ok (.iload_n 2, 1) := by decide +kernel
theorem dX2_countHeld_15 : decode cX2_countHeld 15 = .ok (.iaload, 1) := by decide +kernel
theorem dX2_countHeld_16 : decode cX2_countHeld 16 = .ok (.bipush (-6), 2) := by decide +kernel
theorem dX2_countHeld_18 : decode cX2_countHeld 18 = .ok (.if_icmp .eq 6, 3) := by decide +kernel
theorem dX2_countHeld_21 : decode cX2_countHeld 21 = .ok (.iinc 1 1, 3) := by decide +kernel
theorem dX2_countHeld_24 : decode cX2_countHeld 24 = .ok (.iinc 2 1, 3) := by decide +kernel
theorem dX2_countHeld_27 : decode cX2_countHeld 27 = .ok (.goto (-23), 3) := by decide +kernel
theorem dX2_countHeld_30 : decode cX2_countHeld 30 = .ok (.iload_n 1, 1) := by decide +kernel
theorem dX2_countHeld_31 : decode cX2_countHeld 31 = .ok (.ireturn, 1) := by decide +kernel
theorem dX2_copyPackets_0 : decode cX2_copyPackets 0 = .ok (.aload_n 1, 1) := by decide +kernel
theorem dX2_copyPackets_1 : decode cX2_copyPackets 1 = .ok (.getfield 9, 3) := by decide +kernel
theorem dX2_copyPackets_4 : decode cX2_copyPackets 4 = .ok (.iconst 0, 1) := by decide +kernel
theorem dX2_copyPackets_5 : decode cX2_copyPackets 5 = .ok (.aload_n 0, 1) := by decide +kernel
theorem dX2_copyPackets_6 : decode cX2_copyPackets 6 = .ok (.getfield 9, 3) := by decide +kernel
theorem dX2_copyPackets_9 : decode cX2_copyPackets 9 = .ok (.iconst 0, 1) := by decide +kernel
theorem dX2_copyPackets_10 : decode cX2_copyPackets 10 = .ok (.bipush 32, 2) := by decide +kernel
theorem dX2_copyPackets_12 : decode cX2_copyPackets 12 = .ok (.invokestatic 42, 3) := by decide +kernel
theorem dX2_copyPackets_15 : decode cX2_copyPackets 15 = .ok (.aload_n 1, 1) := by decide +kernel
theorem dX2_copyPackets_16 : decode cX2_copyPackets 16 = .ok (.getfield 15, 3) := by decide +kernel
theorem dX2_copyPackets_19 : decode cX2_copyPackets 19 = .ok (.iconst 0, 1) := by decide +kernel
theorem dX2_copyPackets_20 : decode cX2_copyPackets 20 = .ok (.aload_n 0, 1) := by decide +kernel
theorem dX2_copyPackets_21 : decode cX2_copyPackets 21 = .ok (.getfield 15, 3) := by decide +kernel
theorem dX2_copyPackets_24 : decode cX2_copyPackets 24 = .ok (.iconst 0, 1) := by decide +kernel
theorem dX2_copyPackets_25 : decode cX2_copyPackets 25 = .ok (.bipush 32, 2) := by decide +kernel
theorem dX2_copyPackets_27 : decode cX2_copyPackets 27 = .ok (.invokestatic 42, 3) := by decide +kernel
theorem dX2_copyPackets_30 : decode cX2_copyPackets 30 = .ok (.aload_n 1, 1) := by decide +kernel
theorem dX2_copyPackets_31 : decode cX2_copyPackets 31 = .ok (.getfield 18, 3) := by decide +kernel
theorem dX2_copyPackets_34 : decode cX2_copyPackets 34 = .ok (.iconst 0, 1) := by decide +kernel
theorem dX2_copyPackets_35 : decode cX2_copyPackets 35 = .ok (.aload_n 0, 1) := by decide +kernel
theorem dX2_copyPackets_36 : decode cX2_copyPackets 36 = .ok (.getfield 18, 3) := by decide +kernel
theorem dX2_copyPackets_39 : decode cX2_copyPackets 39 = .ok (.iconst 0, 1) := by decide +kernel
theorem dX2_copyPackets_40 : decode cX2_copyPackets 40 = .ok (.bipush 6, 2) := by decide +kernel
theorem dX2_copyPackets_42 : decode cX2_copyPackets 42 = .ok (.invokestatic 42, 3) := by decide +kernel
theorem dX2_copyPackets_45 : decode cX2_copyPackets 45 = .ok (.aload_n 1, 1) := by decide +kernel
theorem dX2_copyPackets_46 : decode cX2_copyPackets 46 = .ok (.getfield 21, 3) := by decide +kernel
theorem dX2_copyPackets_49 : decode cX2_copyPackets 49 = .ok (.iconst 0, 1) := by decide +kernel
theorem dX2_copyPackets_50 : decode cX2_copyPackets 50 = .ok (.aload_n 0, 1) := by decide +kernel
theorem dX2_copyPackets_51 : decode cX2_copyPackets 51 = .ok (.getfield 21, 3) := by decide +kernel
theorem dX2_copyPackets_54 : decode cX2_copyPackets 54 = .ok (.iconst 0, 1) := by decide +kernel
theorem dX2_copyPackets_55 : decode cX2_copyPackets 55 = .ok (.bipush 6, 2) := by decide +kernel
theorem dX2_copyPackets_57 : decode cX2_copyPackets 57 = .ok (.invokestatic 42, 3) := by decide +kernel
theorem dX2_copyPackets_60 : decode cX2_copyPackets 60 = .ok (.return_, 1) := by decide +kernel
theorem dJ6_bitCount_0f7a4_0 : decode cJ6_bitCount_0f7a4 0 = .ok (.iload_n 0, 1) := by decide +kernel
theorem dJ6_bitCount_0f7a4_1 : decode cJ6_bitCount_0f7a4 1 = .ok (.iload_n 0, 1) := by decide +kernel
theorem dJ6_bitCount_0f7a4_2 : decode cJ6_bitCount_0f7a4 2 = .ok (.iconst 1, 1) := by decide +kernel
theorem dJ6_bitCount_0f7a4_3 : decode cJ6_bitCount_0f7a4 3 = .ok (.iushr, 1) := by decide +kernel
theorem dJ6_bitCount_0f7a4_4 : decode cJ6_bitCount_0f7a4 4 = .ok (.ldc_w 265, 3) := by decide +kernel
theorem dJ6_bitCount_0f7a4_7 : decode cJ6_bitCount_0f7a4 7 = .ok (.iand, 1) := by decide +kernel
theorem dJ6_bitCount_0f7a4_8 : decode cJ6_bitCount_0f7a4 8 = .ok (.isub, 1) := by decide +kernel
theorem dJ6_bitCount_0f7a4_9 : decode cJ6_bitCount_0f7a4 9 = .ok (.istore_n 0, 1) := by decide +kernel
theorem dJ6_bitCount_0f7a4_10 : decode cJ6_bitCount_0f7a4 10 = .ok (.iload_n 0, 1) := by decide +kernel
theorem dJ6_bitCount_0f7a4_11 : decode cJ6_bitCount_0f7a4 11 = .ok (.ldc_w 266, 3) := by decide +kernel
theorem dJ6_bitCount_0f7a4_14 : decode cJ6_bitCount_0f7a4 14 = .ok (.iand, 1) := by decide +kernel
theorem dJ6_bitCount_0f7a4_15 : decode cJ6_bitCount_0f7a4 15 = .ok (.iload_n 0, 1) := by decide +kernel
theorem dJ6_bitCount_0f7a4_16 : decode cJ6_bitCount_0f7a4 16 = .ok (.iconst 2, 1) := by decide +kernel
theorem dJ6_bitCount_0f7a4_17 : decode cJ6_bitCount_0f7a4 17 = .ok (.iushr, 1) := by decide +kernel
theorem dJ6_bitCount_0f7a4_18 : decode cJ6_bitCount_0f7a4 18 = .ok (.ldc_w 266, 3) := by decide +kernel
theorem dJ6_bitCount_0f7a4_21 : decode cJ6_bitCount_0f7a4 21 = .ok (.iand, 1) := by decide +kernel
theorem dJ6_bitCount_0f7a4_22 : decode cJ6_bitCount_0f7a4 22 = .ok (.iadd, 1) := by decide +kernel
theorem dJ6_bitCount_0f7a4_23 : decode cJ6_bitCount_0f7a4 23 = .ok (.istore_n 0, 1) := by decide +kernel
theorem dJ6_bitCount_0f7a4_24 : decode cJ6_bitCount_0f7a4 24 = .ok (.iload_n 0, 1) := by decide +kernel
theorem dJ6_bitCount_0f7a4_25 : decode cJ6_bitCount_0f7a4 25 = .ok (.iload_n 0, 1) := by decide +kernel
theorem dJ6_bitCount_0f7a4_26 : decode cJ6_bitCount_0f7a4 26 = .ok (.iconst 4, 1) := by decide +kernel
theorem dJ6_bitCount_0f7a4_27 : decode cJ6_bitCount_0f7a4 27 = .ok (.iushr, 1) := by decide +kernel
theorem dJ6_bitCount_0f7a4_28 : decode cJ6_bitCount_0f7a4 28 = .ok (.iadd, 1) := by decide +kernel
theorem dJ6_bitCount_0f7a4_29 : decode cJ6_bitCount_0f7a4 29 = .ok (.ldc_w 267, 3) := by decide +kernel
theorem dJ6_bitCount_0f7a4_32 : decode cJ6_bitCount_0f7a4 32 = .ok (.iand, 1) := by decide +kernel
theorem dJ6_bitCount_0f7a4_33 : decode cJ6_bitCount_0f7a4 33 = .ok (.istore_n 0, 1) := by decide +kernel
theorem dJ6_bitCount_0f7a4_34 : decode cJ6_bitCount_0f7a4 34 = .ok (.iload_n 0, 1) := by decide +kernel
theorem dJ6_bitCount_0f7a4_35 : decode cJ6_bitCount_0f7a4 35 = .ok (.iload_n 0, 1) := by decide +kernel
theorem dJ6_bitCount_0f7a4_36 : decode cJ6_bitCount_0f7a4 36 = .ok (.bipush 8, 2) := by decide +kernel
theorem dJ6_bitCount_0f7a4_38 : decode cJ6_bitCount_0f7a4 38 = .ok (.iushr, 1) := by decide +kernel
theorem dJ6_bitCount_0f7a4_39 : decode cJ6_bitCount_0f7a4 39 = .ok (.iadd, 1) := by decide +kernel
theorem dJ6_bitCount_0f7a4_40 : decode cJ6_bitCount_0f7a4 40 = .ok (.istore_n 0, 1) := by decide +kernel
theorem dJ6_bitCount_0f7a4_41 : decode cJ6_bitCount_0f7a4 41 = .ok (.iload_n 0, 1) := by decide +kernel
theorem dJ6_bitCount_0f7a4_42 : decode cJ6_bitCount_0f7a4 42 = .ok (.iload_n 0, 1) := by decide +kernel
theorem dJ6_bitCount_0f7a4_43 : decode cJ6_bitCount_0f7a4 43 = .ok (.bipush 16, 2) := by decide +kernel
theorem dJ6_bitCount_0f7a4_45 : decode cJ6_bitCount_0f7a4 45 = .ok (.iushr, 1) := by decide +kernel
theorem dJ6_bitCount_0f7a4_46 : decode cJ6_bitCount_0f7a4 46 = .ok (.iadd, 1) := by decide +kernel
theorem dJ6_bitCount_0f7a4_47 : decode cJ6_bitCount_0f7a4 47 = .ok (.istore_n 0, 1) := by decide +kernel
theorem dJ6_bitCount_0f7a4_48 : decode cJ6_bitCount_0f7a4 48 = .ok (.iload_n 0, 1) := by decide +kernel
theorem dJ6_bitCount_0f7a4_49 : decode cJ6_bitCount_0f7a4 49 = .ok (.bipush 63, 2) := by decide +kernel
theorem dJ6_bitCount_0f7a4_51 : decode cJ6_bitCount_0f7a4 51 = .ok (.iand, 1) := by decide +kernel
theorem dJ6_bitCount_0f7a4_52 : decode cJ6_bitCount_0f7a4 52 = .ok (.ireturn, 1) := by decide +kernel
theorem dJ7_fill_53178_0 : decode cJ7_fill_53178 0 = .ok (.iconst 0, 1) := by decide +kernel
theorem dJ7_fill_53178_1 : decode cJ7_fill_53178 1 = .ok (.istore_n 2, 1) := by decide +kernel
theorem dJ7_fill_53178_2 : decode cJ7_fill_53178 2 = .ok (.aload_n 0, 1) := by decide +kernel
theorem dJ7_fill_53178_3 : decode cJ7_fill_53178 3 = .ok (.arraylength, 1) := by decide +kernel
theorem dJ7_fill_53178_4 : decode cJ7_fill_53178 4 = .ok (.istore_n 3, 1) := by decide +kernel
theorem dJ7_fill_53178_5 : decode cJ7_fill_53178 5 = .ok (.iload_n 2, 1) := by decide +kernel
theorem dJ7_fill_53178_6 : decode cJ7_fill_53178 6 = .ok (.iload_n 3, 1) := by decide +kernel
theorem dJ7_fill_53178_7 : decode cJ7_fill_53178 7 = .ok (.if_icmp .ge 13, 3) := by decide +kernel
theorem dJ7_fill_53178_10 : decode cJ7_fill_53178 10 = .ok (.aload_n 0, 1) := by decide +kernel
theorem dJ7_fill_53178_11 : decode cJ7_fill_53178 11 = .ok (.iload_n 2, 1) := by decide +kernel
theorem dJ7_fill_53178_12 : decode cJ7_fill_53178 12 = .ok (.iload_n 1, 1) := by decide +kernel
theorem dJ7_fill_53178_13 : decode cJ7_fill_53178 13 = .ok (.iastore, 1) := by decide +kernel
theorem dJ7_fill_53178_14 : decode cJ7_fill_53178 14 = .ok (.iinc 2 1, 3) := by decide +kernel
theorem dJ7_fill_53178_17 : decode cJ7_fill_53178 17 = .ok (.goto (-12), 3) := by decide +kernel
theorem dJ7_fill_53178_20 : decode cJ7_fill_53178 20 = .ok (.return_, 1) := by decide +kernel
