theorem dX0_init_0 : decode cX0_init 0 = .ok (.aload_n 0, 1) := by decide +kernel
theorem dX0_init_1 : decode cX0_init 1 = .ok (.invokespecial 3, 3) := by decide +kernel
theorem dX0_init_4 : decode cX0_init 4 = .ok (.return_, 1) := by decide +kernel
theorem dX0_begin_0 : decode cX0_begin 0 = .ok (.aload_n 0, 1) := by decide +kernel
theorem dX0_begin_1 : decode cX0_begin 1 = .ok (.iconst 0, 1) := by decide +kernel
theorem dX0_begin_2 : decode cX0_begin 2 = .ok (.putfield 9, 3) := by decide +kernel
theorem dX0_begin_5 : decode cX0_begin 5 = .ok (.aload_n 0, 1) := by decide +kernel
theorem dX0_begin_6 : decode cX0_begin 6 = .ok (.iconst 0, 1) := by decide +kernel
theorem dX0_begin_7 : decode cX0_begin 7 = .ok (.putfield 15, 3) := by decide +kernel
theorem dX0_begin_10 : decode cX0_begin 10 = .ok (.aload_n 0, 1) := by decide +kernel
theorem dX0_begin_11 : decode cX0_begin 11 = .ok (.iconst (-1), 1) := by decide +kernel
theorem dX0_begin_12 : decode cX0_begin 12 = .ok (.putfield 18, 3) := by decide +kernel
theorem dX0_begin_15 : decode cX0_begin 15 = .ok (.return_, 1) := by decide +kernel
theorem dX0_offer_0 : decode cX0_offer 0 = .ok (.aload_n 0, 1) := by decide +kernel
theorem dX0_offer_1 : decode cX0_offer 1 = .ok (.getfield 18, 3) := by decide +kernel
theorem dX0_offer_4 : decode cX0_offer 4 = .ok (.iconst (-1), 1) := by decide +kernel
theorem dX0_offer_5 : decode cX0_offer 5 = .ok (.if_icmp .eq 14, 3) := by decide +kernel
theorem dX0_offer_8 : decode cX0_offer 8 = .ok (.aload_n 0, 1) := by decide +kernel
theorem dX0_offer_9 : decode cX0_offer 9 = .ok (.iload_n 1, 1) := by decide +kernel
theorem dX0_offer_10 : decode cX0_offer 10 = .ok (.iload_n 2, 1) := by decide +kernel
theorem dX0_offer_11 : decode cX0_offer 11 = .ok (.iload_n 3, 1) := by decide +kernel
theorem dX0_offer_12 : decode cX0_offer 12 = .ok (.invokevirtual 21, 3) := by decide +kernel
theorem dX0_offer_15 : decode cX0_offer 15 = .ok (.ifCond .ne 4, 3) := by decide +kernel
theorem dX0_offer_18 : decode cX0_offer 18 = .ok (.return_, 1) := by decide +kernel
theorem dX0_offer_19 : decode cX0_offer 19 = .ok (.aload_n 0, 1) := by decide +kernel
theorem dX0_offer_20 : decode cX0_offer 20 = .ok (.iload_n 1, 1) := by decide +kernel
theorem dX0_offer_21 : decode cX0_offer 21 = .ok (.putfield 9, 3) := by decide +kernel
theorem dX0_offer_24 : decode cX0_offer 24 = .ok (.aload_n 0, 1) := by decide +kernel
theorem dX0_offer_25 : decode cX0_offer 25 = .ok (.iload_n 2, 1) := by decide +kernel
theorem dX0_offer_26 : decode cX0_offer 26 = .ok (.putfield 15, 3) := by decide +kernel
theorem dX0_offer_29 : decode cX0_offer 29 = .ok (.aload_n 0, 1) := by decide +kernel
theorem dX0_offer_30 : decode cX0_offer 30 = .ok (.iload_n 3, 1) := by decide +kernel
theorem dX0_offer_31 : decode cX0_offer 31 = .ok (.putfield 18, 3) := by decide +kernel
theorem dX0_offer_34 : decode cX0_offer 34 = .ok (.return_, 1) := by decide +kernel
theorem dX0_isLess_0 : decode cX0_isLess 0 = .ok (.iload_n 1, 1) := by decide +kernel
theorem dX0_isLess_1 : decode cX0_isLess 1 = .ok (.aload_n 0, 1) := by decide +kernel
theorem dX0_isLess_2 : decode cX0_isLess 2 = .ok (.getfield 9, 3) := by decide +kernel
theorem dX0_isLess_5 : decode cX0_isLess 5 = .ok (.if_icmp .eq 17, 3) := by decide +kernel
theorem dX0_isLess_8 : decode cX0_isLess 8 = .ok (.iload_n 1, 1) := by decide +kernel
theorem dX0_isLess_9 : decode cX0_isLess 9 = .ok (.aload_n 0, 1) := by decide +kernel
theorem dX0_isLess_10 : decode cX0_isLess 10 = .ok (.getfield 9, 3) := by decide +kernel
theorem dX0_isLess_13 : decode cX0_isLess 13 = .ok (.if_icmp .ge 7, 3) := by decide +kernel
theorem dX0_isLess_16 : decode cX0_isLess 16 = .ok (.iconst 1, 1) := by decide +kernel
theorem dX0_isLess_17 : decode cX0_isLess 17 = .ok (.goto 4, 3) := by decide +kernel
theorem dX0_isLess_20 : decode cX0_isLess 20 = .ok (.iconst 0, 1) := by decide +kernel
theorem dX0_isLess_21 : decode cX0_isLess 21 = .ok (.ireturn, 1) := by decide +kernel
theorem dX0_isLess_22 : decode cX0_isLess 22 = .ok (.iload_n 2, 1) := by decide +kernel
theorem dX0_isLess_23 : decode cX0_isLess 23 = .ok (.aload_n 0, 1) := by decide +kernel
theorem dX0_isLess_24 : decode cX0_isLess 24 = .ok (.getfield 15, 3) := by decide +kernel
theorem dX0_isLess_27 : decode cX0_isLess 27 = .ok (.if_icmp .eq 17, 3) := by decide +kernel
theorem dX0_isLess_30 : decode cX0_isLess 30 = .ok (.iload_n 2, 1) := by decide +kernel
theorem dX0_isLess_31 : decode cX0_isLess 31 = .ok (.aload_n 0, 1) := by decide +kernel
theorem dX0_isLess_32 : decode cX0_isLess 32 = .ok (.getfield 15, 3) := by decide +kernel
theorem dX0_isLess_35 : decode cX0_isLess 35 = .ok (.if_icmp .ge 7, 3) := by decide +kernel
theorem dX0_isLess_38 : decode cX0_isLess 38 = .ok (.iconst 1, 1) := by decide +kernel
theorem dX0_isLess_39 : decode cX0_isLess 39 = .ok (.goto 4, 3) := by decide +kernel
theorem dX0_isLess_42 : decode cX0_isLess 42 = .ok (.iconst 0, 1) := by decide +kernel
theorem dX0_isLess_43 : decode cX0_isLess 43 = .ok (.ireturn, 1) := by decide +kernel
theorem dX0_isLess_44 : decode cX0_isLess 44 = .ok (.iload_n 3, 1) := by decide +kernel
theorem dX0_isLess_45 : decode cX0_isLess 45 = .ok (.aload_n 0, 1) := by decide +kernel
theorem dX0_isLess_46 : decode cX0_isLess 46 = .ok (.getfield 18, 3) := by decide +kernel
theorem dX0_isLess_49 : decode cX0_isLess 49 = .ok (.if_icmp .ge 7, 3) := by decide +kernel
theorem dX0_isLess_52 : decode cX0_isLess 52 = .ok (.iconst 1, 1) := by decide +kernel
theorem dX0_isLess_53 : decode cX0_isLess 53 = .ok (.goto 4, 3) := by decide +kernel
theorem dX0_isLess_56 : decode cX0_isLess 56 = .ok (.iconst 0, 1) := by decide +kernel
theorem dX0_isLess_57 : decode cX0_isLess 57 = .ok (.ireturn, 1) := by decide +kernel
theorem dX1_init_0 : decode cX1_init 0 = .ok (.aload_n 0, 1) := by decide +kernel
theorem dX1_init_1 : decode cX1_init 1 = .ok (.invokespecial 3, 3) := by decide +kernel
theorem dX1_init_4 : decode cX1_init 4 = .ok (.aload_n 0, 1) := by decide +kernel
theorem dX1_init_5 : decode cX1_init 5 = .ok (.sipush 160, 3) := by decide +kernel
theorem dX1_init_8 : decode cX1_init 8 = .ok (.newarray .int, 2) := by decide +kernel
theorem dX1_init_10 : decode cX1_init 10 = .ok (.putfield 9, 3) := by decide +kernel
theorem dX1_init_13 : decode cX1_init 13 = .ok (.return_, 1) := by decide +kernel
theorem dX1_append_0 : decode cX1_append 0 = .ok (.aload_n 0, 1) := by decide +kernel
theorem dX1_append_1 : decode cX1_append 1 = .ok (.getfield 15, 3) := by decide +kernel
theorem dX1_append_4 : decode cX1_append 4 = .ok (.sipush 160, 3) := by decide +kernel
theorem dX1_append_7 : decode cX1_append 7 = .ok (.if_icmp .lt 6, 3) := by decide +kernel
theorem dX1_append_10 : decode cX1_append 10 = .ok (.bipush (-4), 2) := by decide +kernel
theorem dX1_append_12 : decode cX1_append 12 = .ok (.ireturn, 1) := by decide +kernel
theorem dX1_append_13 : decode cX1_append 13 = .ok (.aload_n 0, 1) := by decide +kernel
theorem dX1_append_14 : decode cX1_append 14 = .ok (.getfield 9, 3) := by decide +kernel
theorem dX1_append_17 : decode cX1_append 17 = .ok (.aload_n 0, 1) := by decide +kernel
theorem dX1_append_18 : decode cX1_append 18 = .ok (.getfield 15, 3) := by decide +kernel
theorem dX1_append_21 : decode cX1_append 21 = .ok (.iload_n 1, 1) := by decide +kernel
theorem dX1_append_22 : decode cX1_append 22 = .ok (.iastore, 1) := by decide +kernel
theorem dX1_append_23 : decode cX1_append 23 = .ok (.aload_n 0, 1) := by decide +kernel
theorem dX1_append_24 : decode cX1_append 24 = .ok (.dup, 1) := by decide +kernel
theorem dX1_append_25 : decode cX1_append 25 = .ok (.getfield 15, 3) := by decide +kernel
theorem dX1_append_28 : decode cX1_append 28 = .ok (.iconst 1, 1) := by decide +kernel
theorem dX1_append_29 : decode cX1_append 29 = .ok (.iadd, 1) := by decide +kernel
theorem dX1_append_30 : decode cX1_append 30 = .ok (.putfield 15, 3) := by decide +kernel
theorem dX1_append_33 : decode cX1_append 33 = .ok (.aload_n 0, 1) := by decide +kernel
theorem dX1_append_34 : decode cX1_append 34 = .ok (.getfield 15, 3) := by decide +kernel
theorem dX1_append_37 : decode cX1_append 37 = .ok (.ireturn, 1) := by decide +kernel
theorem dX1_read_0 : decode cX1_read 0 = .ok (.aload_n 0, 1) := by decide +kernel
theorem dX1_read_1 : decode cX1_read 1 = .ok (.iconst 0, 1) := by decide +kernel
theorem dX1_read_2 : decode cX1_read 2 = .ok (.putfield 19, 3) := by decide +kernel
theorem dX1_read_5 : decode cX1_read 5 = .ok (.aload_n 0, 1) := by decide +kernel
theorem dX1_read_6 : decode cX1_read 6 = .ok (.iconst 0, 1) := by decide +kernel
theorem dX1_read_7 : decode cX1_read 7 = .ok (.putfield 22, 3) := by decide +kernel
theorem dX1_read_10 : decode cX1_read 10 = .ok (.aload_n 0, 1) := by decide +kernel
theorem dX1_read_11 : decode cX1_read 11 = .ok (.iconst (-1), 1) := by decide +kernel
theorem dX1_read_12 : decode cX1_read 12 = .ok (.putfield 25, 3) := by decide +kernel
theorem dX1_read_15 : decode cX1_read 15 = .ok (.aload_n 0, 1) := by decide +kernel
theorem dX1_read_16 : decode cX1_read 16 = .ok (.invokevirtual 28, 3) := by decide +kernel
theorem dX1_read_19 : decode cX1_read 19 = .ok (.iconst 0, 1) := by decide +kernel
theorem dX1_read_20 : decode cX1_read 20 = .ok (.istore_n 3, 1) := by decide +kernel
theorem dX1_read_21 : decode cX1_read 21 = .ok (.iload_n 3, 1) := by decide +kernel
theorem dX1_read_22 : decode cX1_read 22 = .ok (.iconst 3, 1) := by decide +kernel
theorem dX1_read_23 : decode cX1_read 23 = .ok (.if_icmp .ge 37, 3) := by decide +kernel
theorem dX1_read_26 : decode cX1_read 26 = .ok (.aload_n 0, 1) := by decide +kernel
theorem dX1_read_27 : decode cX1_read 27 = .ok (.bipush 6, 2) := by decide +kernel
theorem dX1_read_29 : decode cX1_read 29 = .ok (.iload_n 3, 1) := by decide +kernel
theorem dX1_read_30 : decode cX1_read 30 = .ok (.iadd, 1) := by decide +kernel
theorem dX1_read_31 : decode cX1_read 31 = .ok (.invokevirtual 31, 3) := by decide +kernel
theorem dX1_read_34 : decode cX1_read 34 = .ok (.aload_n 0, 1) := by decide +kernel
theorem dX1_read_35 : decode cX1_read 35 = .ok (.iconst 0, 1) := by decide +kernel
theorem dX1_read_36 : decode cX1_read 36 = .ok (.iconst 0, 1) := by decide +kernel
theorem dX1_read_37 : decode cX1_read 37 = .ok (.aload_n 1, 1) := by decide +kernel
theorem dX1_read_38 : decode cX1_read 38 = .ok (.invokevirtual 35, 3) := by decide +kernel
theorem dX1_read_41 : decode cX1_read 41 = .ok (.aload_n 0, 1) := by decide +kernel
theorem dX1_read_42 : decode cX1_read 42 = .ok (.bipush 59, 2) := by decide +kernel
theorem dX1_read_44 : decode cX1_read 44 = .ok (.invokevirtual 31, 3) := by decide +kernel
theorem dX1_read_47 : decode cX1_read 47 = .ok (.aload_n 2, 1) := by decide +kernel
theorem dX1_read_48 : decode cX1_read 48 = .ok (.iload_n 3, 1) := by decide +kernel
theorem dX1_read_49 : decode cX1_read 49 = .ok (.aload_n 0, 1) := by decide +kernel
theorem dX1_read_50 : decode cX1_read 50 = .ok (.getfield 22, 3) := by decide +kernel
theorem dX1_read_53 : decode cX1_read 53 = .ok (.iastore, 1) := by decide +kernel
theorem dX1_read_54 : decode cX1_read 54 = .ok (.iinc 3 1, 3) := by decide +kernel
theorem dX1_read_57 : decode cX1_read 57 = .ok (.goto (-36), 3) := by decide +kernel
theorem dX1_read_60 : decode cX1_read 60 = .ok (.aload_n 0, 1) := by decide +kernel
theorem dX1_read_61 : decode cX1_read 61 = .ok (.sipush 257, 3) := by decide +kernel
theorem dX1_read_64 : decode cX1_read 64 = .ok (.invokevirtual 31, 3) := by decide +kernel
theorem dX1_read_67 : decode cX1_read 67 = .ok (.aload_n 0, 1) := by decide +kernel
theorem dX1_read_68 : decode cX1_read 68 = .ok (.getfield 25, 3) := by decide +kernel
theorem dX1_read_71 : decode cX1_read 71 = .ok (.ireturn, 1) := by decide +kernel
theorem dX1_expect_0 : decode cX1_expect 0 = .ok (.aload_n 0, 1) := by decide +kernel
theorem dX1_expect_1 : decode cX1_expect 1 = .ok (.getfield 39, 3) := by decide +kernel
theorem dX1_expect_4 : decode cX1_expect 4 = .ok (.iload_n 1, 1) := by decide +kernel
theorem dX1_expect_5 : decode cX1_expect 5 = .ok (.if_icmp .ne 10, 3) := by decide +kernel
theorem dX1_expect_8 : decode cX1_expect 8 = .ok (.aload_n 0, 1) := by decide +kernel
theorem dX1_expect_9 : decode cX1_expect 9 = .ok (.invokevirtual 28, 3) := by decide +kernel
theorem dX1_expect_12 : decode cX1_expect 12 = .ok (.goto 7, 3) := by decide +kernel
theorem dX1_expect_15 : decode cX1_expect 15 = .ok (.aload_n 0, 1) := by decide +kernel
theorem dX1_expect_16 : decode cX1_expect 16 = .ok (.invokevirtual 42, 3) := by decide +kernel
theorem dX1_expect_19 : decode cX1_expect 19 = .ok (.return_, 1) := by decide +kernel
theorem dX1_fail_0 : decode cX1_fail 0 = .ok (.aload_n 0, 1) := by decide +kernel
theorem dX1_fail_1 : decode cX1_fail 1 = .ok (.getfield 25, 3) := by decide +kernel
theorem dX1_fail_4 : decode cX1_fail 4 = .ok (.iconst (-1), 1) := by decide +kernel
theorem dX1_fail_5 : decode cX1_fail 5 = .ok (.if_icmp .ne 11, 3) := by decide +kernel
theorem dX1_fail_8 : decode cX1_fail 8 = .ok (.aload_n 0, 1) := by decide +kernel
theorem dX1_fail_9 : decode cX1_fail 9 = .ok (.aload_n 0, 1) := by decide +kernel
theorem dX1_fail_10 : decode cX1_fail 10 = .ok (.getfield 45, 3) := by decide +kernel
theorem dX1_fail_13 : decode cX1_fail 13 = .ok (.putfield 25, 3) := by decide +kernel
theorem dX1_fail_16 : decode cX1_fail 16 = .ok (.aload_n 0, 1) := by decide +kernel
theorem dX1_fail_17 : decode cX1_fail 17 = .ok (.sipush 258, 3) := by decide +kernel
theorem dX1_fail_20 : decode cX1_fail 20 = .ok (.putfield 39, 3) := by decide +kernel
theorem dX1_fail_23 : decode cX1_fail 23 = .ok (.return_, 1) := by decide +kernel
theorem dX1_readRank_0 : decode cX1_readRank 0 = .ok (.iload_n 1, 1) := by decide +kernel
theorem dX1_readRank_1 : decode cX1_readRank 1 = .ok (.iconst 5, 1) := by decide +kernel
theorem dX1_readRank_2 : decode cX1_readRank 2 = .ok (.if_icmp .lt 12, 3) := by decide +kernel
theorem dX1_readRank_5 : decode cX1_readRank 5 = .ok (.aload_n 0, 1) := by decide +kernel
theorem dX1_readRank_6 : decode cX1_readRank 6 = .ok (.iload_n 2, 1) := by decide +kernel
theorem dX1_readRank_7 : decode cX1_readRank 7 = .ok (.aload_n 3, 1) := by decide +kernel
theorem dX1_readRank_8 : decode cX1_readRank 8 = .ok (.invokevirtual 48, 3) := by decide +kernel
theorem dX1_readRank_11 : decode cX1_readRank 11 = .ok (.goto 45, 3) := by decide +kernel
theorem dX1_readRank_14 : decode cX1_readRank 14 = .ok (.iload_n 1, 1) := by decide +kernel
theorem dX1_readRank_15 : decode cX1_readRank 15 = .ok (.iconst 2, 1) := by decide +kernel
theorem dX1_readRank_16 : decode cX1_readRank 16 = .ok (.if_icmp .ne 24, 3) := by decide +kernel
theorem dX1_readRank_19 : decode cX1_readRank 19 = .ok (.aload_n 0, 1) := by decide +kernel
theorem dX1_readRank_20 : decode cX1_readRank 20 = .ok (.getfield 39, 3) := by decide +kernel
theorem dX1_readRank_23 : decode cX1_readRank 23 = .ok (.bipush 11, 2) := by decide +kernel
theorem dX1_readRank_25 : decode cX1_readRank 25 = .ok (.if_icmp .ne 15, 3) := by decide +kernel
theorem dX1_readRank_28 : decode cX1_readRank 28 = .ok (.aload_n 0, 1) := by decide +kernel
theorem dX1_readRank_29 : decode cX1_readRank 29 = .ok (.bipush (-12), 2) := by decide +kernel
theorem dX1_readRank_31 : decode cX1_readRank 31 = .ok (.iload_n 1, 1) := by decide +kernel
theorem dX1_readRank_32 : decode cX1_readRank 32 = .ok (.iload_n 2, 1) := by decide +kernel
theorem dX1_readRank_33 : decode cX1_readRank 33 = .ok (.aload_n 3, 1) := by decide +kernel
theorem dX1_readRank_34 : decode cX1_readRank 34 = .ok (.invokevirtual 52, 3) := by decide +kernel
theorem dX1_readRank_37 : decode cX1_readRank 37 = .ok (.goto 19, 3) := by decide +kernel
theorem dX1_readRank_40 : decode cX1_readRank 40 = .ok (.aload_n 0, 1) := by decide +kernel
theorem dX1_readRank_41 : decode cX1_readRank 41 = .ok (.iload_n 1, 1) := by decide +kernel
theorem dX1_readRank_42 : decode cX1_readRank 42 = .ok (.iconst 1, 1) := by decide +kernel
theorem dX1_readRank_43 : decode cX1_readRank 43 = .ok (.iadd, 1) := by decide +kernel
theorem dX1_readRank_44 : decode cX1_readRank 44 = .ok (.iload_n 2, 1) := by decide +kernel
theorem dX1_readRank_45 : decode cX1_readRank 45 = .ok (.aload_n 3, 1) := by decide +kernel
theorem dX1_readRank_46 : decode cX1_readRank 46 = .ok (.invokevirtual 35, 3) := by decide +kernel
theorem dX1_readRank_49 : decode cX1_readRank 49 = .ok (.aload_n 0, 1) := by decide +kernel
theorem dX1_readRank_50 : decode cX1_readRank 50 = .ok (.iload_n 1, 1) := by decide +kernel
theorem dX1_readRank_51 : decode cX1_readRank 51 = .ok (.iload_n 2, 1) := by decide +kernel
theorem dX1_readRank_52 : decode cX1_readRank 52 = .ok (.aload_n 3, 1) := by decide +kernel
theorem dX1_readRank_53 : decode cX1_readRank 53 = .ok (.invokevirtual 56, 3) := by decide +kernel
theorem dX1_readRank_56 : decode cX1_readRank 56 = .ok (.return_, 1) := by decide +kernel
theorem dX1_readJoined_0 : decode cX1_readJoined 0 = .ok (.iload_n 1, 1) := by decide +kernel
theorem dX1_readJoined_1 : decode cX1_readJoined 1 = .ok (.iconst 2, 1) := by decide +kernel
theorem dX1_readJoined_2 : decode cX1_readJoined 2 = .ok (.if_icmp .ne 7, 3) := by decide +kernel
theorem dX1_readJoined_5 : decode cX1_readJoined 5 = .ok (.iconst 1, 1) := by decide +kernel
theorem dX1_readJoined_6 : decode cX1_readJoined 6 = .ok (.goto 6, 3) := by decide +kernel
theorem dX1_readJoined_9 : decode cX1_readJoined 9 = .ok (.sipush 160, 3) := by decide +kernel
theorem dX1_readJoined_12 : decode cX1_readJoined 12 = .ok (.istore 4, 2) := by decide +kernel
theorem dX1_readJoined_14 : decode cX1_readJoined 14 = .ok (.iconst 0, 1) := by decide +kernel
theorem dX1_readJoined_15 : decode cX1_readJoined 15 = .ok (.istore 5, 2) := by decide +kernel
theorem dX1_readJoined_17 : decode cX1_readJoined 17 = .ok (.iload 5, 2) := by decide +kernel
theorem dX1_readJoined_19 : decode cX1_readJoined 19 = .ok (.iload 4, 2) := by decide +kernel
theorem dX1_readJoined_21 : decode cX1_readJoined 21 = .ok (.if_icmp .ge 48, 3) := by decide +kernel
theorem dX1_readJoined_24 : decode cX1_readJoined 24 = .ok (.aload_n 0, 1) := by decide +kernel
theorem dX1_readJoined_25 : decode cX1_readJoined 25 = .ok (.getfield 39, 3) := by decide +kernel
theorem dX1_readJoined_28 : decode cX1_readJoined 28 = .ok (.invokestatic 59, 3) := by decide +kernel
theorem dX1_readJoined_31 : decode cX1_readJoined 31 = .ok (.iload_n 1, 1) := by decide +kernel
theorem dX1_readJoined_32 : decode cX1_readJoined 32 = .ok (.if_icmp .ne 37, 3) := by decide +kernel
theorem dX1_readJoined_35 : decode cX1_readJoined 35 = .ok (.aload_n 0, 1) := by decide +kernel
theorem dX1_readJoined_36 : decode cX1_readJoined 36 = .ok (.getfield 39, 3) := by decide +kernel
theorem dX1_readJoined_39 : decode cX1_readJoined 39 = .ok (.istore 6, 2) := by decide +kernel
theorem dX1_readJoined_41 : decode cX1_readJoined 41 = .ok (.aload_n 0, 1) := by decide +kernel
theorem dX1_readJoined_42 : decode cX1_readJoined 42 = .ok (.invokevirtual 28, 3) := by decide +kernel
theorem dX1_readJoined_45 : decode cX1_readJoined 45 = .ok (.aload_n 0, 1) := by decide +kernel
theorem dX1_readJoined_46 : decode cX1_readJoined 46 = .ok (.iload_n 1, 1) := by decide +kernel
theorem dX1_readJoined_47 : decode cX1_readJoined 47 = .ok (.iconst 1, 1) := by decide +kernel
theorem dX1_readJoined_48 : decode cX1_readJoined 48 = .ok (.iadd, 1) := by decide +kernel
theorem dX1_readJoined_49 : decode cX1_readJoined 49 = .ok (.iload_n 2, 1) := by decide +kernel
theorem dX1_readJoined_50 : decode cX1_readJoined 50 = .ok (.aload_n 3, 1) := by decide +kernel
theorem dX1_readJoined_51 : decode cX1_readJoined 51 = .ok (.invokevirtual 35, 3) := by decide +kernel
theorem dX1_readJoined_54 : decode cX1_readJoined 54 = .ok (.aload_n 0, 1) := by decide +kernel
theorem dX1_readJoined_55 : decode cX1_readJoined 55 = .ok (.iconst (-1), 1) := by decide +kernel
theorem dX1_readJoined_56 : decode cX1_readJoined 56 = .ok (.iload 6, 2) := by decide +kernel
theorem dX1_readJoined_58 : decode cX1_readJoined 58 = .ok (.isub, 1) := by decide +kernel
theorem dX1_readJoined_59 : decode cX1_readJoined 59 = .ok (.aload_n 3, 1) := by decide +kernel
theorem dX1_readJoined_60 : decode cX1_readJoined 60 = .ok (.invokevirtual 63, 3) := by decide +kernel
theorem dX1_readJoined_63 : decode cX1_readJoined 63 = .ok (.iinc 5 1, 3) := by decide +kernel
theorem dX1_readJoined_66 : decode cX1_readJoined 66 = .ok (.goto (-49), 3) := by decide +kernel
theorem dX1_readJoined_69 : decode cX1_readJoined 69 = .ok (.return_, 1) := by decide +kernel
theorem dX1_rankOf_0 : decode cX1_rankOf 0 = .ok (.iload_n 0, 1) := by decide +kernel
theorem dX1_rankOf_1 : decode cX1_rankOf 1 = .ok (.lookupswitch 77 #[(9, 67), (10, 69), (42, 75), (43, 73), (45, 73), (60, 71), (61, 71)], 67) := by decide +kernel
theorem dX1_rankOf_68 : decode cX1_rankOf 68 = .ok (.iconst 0, 1) := by decide +kernel
theorem dX1_rankOf_69 : decode cX1_rankOf 69 = .ok (.ireturn, 1) := by decide +kernel
theorem dX1_rankOf_70 : decode cX1_rankOf 70 = .ok (.iconst 1, 1) := by decide +kernel
theorem dX1_rankOf_71 : decode cX1_rankOf 71 = .ok (.ireturn, 1) := by decide +kernel
theorem dX1_rankOf_72 : decode cX1_rankOf 72 = .ok (.iconst 2, 1) := by decide +kernel
theorem dX1_rankOf_73 : decode cX1_rankOf 73 = .ok (.ireturn, 1) := by decide +kernel
theorem dX1_rankOf_74 : decode cX1_rankOf 74 = .ok (.iconst 3, 1) := by decide +kernel
theorem dX1_rankOf_75 : decode cX1_rankOf 75 = .ok (.ireturn, 1) := by decide +kernel
theorem dX1_rankOf_76 : decode cX1_rankOf 76 = .ok (.iconst 4, 1) := by decide +kernel
theorem dX1_rankOf_77 : decode cX1_rankOf 77 = .ok (.ireturn, 1) := by decide +kernel
theorem dX1_rankOf_78 : decode cX1_rankOf 78 = .ok (.iconst (-1), 1) := by decide +kernel
theorem dX1_rankOf_79 : decode cX1_rankOf 79 = .ok (.ireturn, 1) := by decide +kernel
theorem dX1_readOne_0 : decode cX1_readOne 0 = .ok (.aload_n 0, 1) := by decide +kernel
theorem dX1_readOne_1 : decode cX1_readOne 1 = .ok (.getfield 39, 3) := by decide +kernel
theorem dX1_readOne_4 : decode cX1_readOne 4 = .ok (.sipush 256, 3) := by decide +kernel
theorem dX1_readOne_7 : decode cX1_readOne 7 = .ok (.if_icmp .ne 19, 3) := by decide +kernel
theorem dX1_readOne_10 : decode cX1_readOne 10 = .ok (.aload_n 0, 1) := by decide +kernel
theorem dX1_readOne_11 : decode cX1_readOne 11 = .ok (.aload_n 0, 1) := by decide +kernel
theorem dX1_readOne_12 : decode cX1_readOne 12 = .ok (.getfield 66, 3) := by decide +kernel
theorem dX1_readOne_15 : decode cX1_readOne 15 = .ok (.aload_n 2, 1) := by decide +kernel
theorem dX1_readOne_16 : decode cX1_readOne 16 = .ok (.invokevirtual 63, 3) := by decide +kernel
theorem dX1_readOne_19 : decode cX1_readOne 19 = .ok (.aload_n 0, 1) := by decide +kernel
theorem dX1_readOne_20 : decode cX1_readOne 20 = .ok (.invokevirtual 28, 3) := by decide +kernel
theorem dX1_readOne_23 : decode cX1_readOne 23 = .ok (.goto 92, 3) := by decide +kernel
theorem dX1_readOne_26 : decode cX1_readOne 26 = .ok (.aload_n 0, 1) := by decide +kernel
theorem dX1_readOne_27 : decode cX1_readOne 27 = .ok (.getfield 39, 3) := by decide +kernel
theorem dX1_readOne_30 : decode cX1_readOne 30 = .ok (.bipush 6, 2) := by decide +kernel
theorem dX1_readOne_32 : decode cX1_readOne 32 = .ok (.if_icmp .ge 21, 3) := by decide +kernel
theorem dX1_readOne_35 : decode cX1_readOne 35 = .ok (.aload_n 0, 1) := by decide +kernel
theorem dX1_readOne_36 : decode cX1_readOne 36 = .ok (.iconst (-1), 1) := by decide +kernel
theorem dX1_readOne_37 : decode cX1_readOne 37 = .ok (.aload_n 0, 1) := by decide +kernel
theorem dX1_readOne_38 : decode cX1_readOne 38 = .ok (.getfield 39, 3) := by decide +kernel
theorem dX1_readOne_41 : decode cX1_readOne 41 = .ok (.isub, 1) := by decide +kernel
theorem dX1_readOne_42 : decode cX1_readOne 42 = .ok (.aload_n 2, 1) := by decide +kernel
theorem dX1_readOne_43 : decode cX1_readOne 43 = .ok (.invokevirtual 63, 3) := by decide +kernel
theorem dX1_readOne_46 : decode cX1_readOne 46 = .ok (.aload_n 0, 1) := by decide +kernel
theorem dX1_readOne_47 : decode cX1_readOne 47 = .ok (.invokevirtual 28, 3) := by decide +kernel
theorem dX1_readOne_50 : decode cX1_readOne 50 = .ok (.goto 65, 3) := by decide +kernel
theorem dX1_readOne_53 : decode cX1_readOne 53 = .ok (.aload_n 0, 1) := by decide +kernel
theorem dX1_readOne_54 : decode cX1_readOne 54 = .ok (.getfield 39, 3) := by decide +kernel
theorem dX1_readOne_57 : decode cX1_readOne 57 = .ok (.bipush 45, 2) := by decide +kernel
theorem dX1_readOne_59 : decode cX1_readOne 59 = .ok (.if_icmp .ne 16, 3) := by decide +kernel
theorem dX1_readOne_62 : decode cX1_readOne 62 = .ok (.aload_n 0, 1) := by decide +kernel
theorem dX1_readOne_63 : decode cX1_readOne 63 = .ok (.sipush (-1000), 3) := by decide +kernel
theorem dX1_readOne_66 : decode cX1_readOne 66 = .ok (.iconst 5, 1) := by decide +kernel
theorem dX1_readOne_67 : decode cX1_readOne 67 = .ok (.iload_n 1, 1) := by decide +kernel
theorem dX1_readOne_68 : decode cX1_readOne 68 = .ok (.aload_n 2, 1) := by decide +kernel
theorem dX1_readOne_69 : decode cX1_readOne 69 = .ok (.invokevirtual 52, 3) := by decide +kernel
theorem dX1_readOne_72 : decode cX1_readOne 72 = .ok (.goto 43, 3) := by decide +kernel
theorem dX1_readOne_75 : decode cX1_readOne 75 = .ok (.aload_n 0, 1) := by decide +kernel
theorem dX1_readOne_76 : decode cX1_readOne 76 = .ok (.getfield 39, 3) := by decide +kernel
theorem dX1_readOne_79 : decode cX1_readOne 79 = .ok (.bipush 40, 2) := by decide +kernel
theorem dX1_readOne_81 : decode cX1_readOne 81 = .ok (.if_icmp .ne 30, 3) := by decide +kernel
theorem dX1_readOne_84 : decode cX1_readOne 84 = .ok (.iload_n 1, 1) := by decide +kernel
theorem dX1_readOne_85 : decode cX1_readOne 85 = .ok (.iconst 5, 1) := by decide +kernel
theorem dX1_readOne_86 : decode cX1_readOne 86 = .ok (.if_icmp .ge 25, 3) := by decide +kernel
theorem dX1_readOne_89 : decode cX1_readOne 89 = .ok (.aload_n 0, 1) := by decide +kernel
theorem dX1_readOne_90 : decode cX1_readOne 90 = .ok (.invokevirtual 28, 3) := by decide +kernel
theorem dX1_readOne_93 : decode cX1_readOne 93 = .ok (.aload_n 0, 1) := by decide +kernel
theorem dX1_readOne_94 : decode cX1_readOne 94 = .ok (.iconst 0, 1) := by decide +kernel
theorem dX1_readOne_95 : decode cX1_readOne 95 = .ok (.iload_n 1, 1) := by decide +kernel
theorem dX1_readOne_96 : decode cX1_readOne 96 = .ok (.iconst 1, 1) := by decide +kernel
theorem dX1_readOne_97 : decode cX1_readOne 97 = .ok (.iadd, 1) := by decide +kernel
theorem dX1_readOne_98 : decode cX1_readOne 98 = .ok (.aload_n 2, 1) := by decide +kernel
theorem dX1_readOne_99 : decode cX1_readOne 99 = .ok (.invokevirtual 35, 3) := by decide +kernel
theorem dX1_readOne_102 : decode cX1_readOne 102 = .ok (.aload_n 0, 1) := by decide +kernel
theorem dX1_readOne_103 : decode cX1_readOne 103 = .ok (.bipush 41, 2) := by decide +kernel
theorem dX1_readOne_105 : decode cX1_readOne 105 = .ok (.invokevirtual 31, 3) := by decide +kernel
theorem dX1_readOne_108 : decode cX1_readOne 108 = .ok (.goto 7, 3) := by decide +kernel
theorem dX1_readOne_111 : decode cX1_readOne 111 = .ok (.aload_n 0, 1) := by decide +kernel
theorem dX1_readOne_112 : decode cX1_readOne 112 = .ok (.invokevirtual 42, 3) := by decide +kernel
theorem dX1_readOne_115 : decode cX1_readOne 115 = .ok (.return_, 1) := by decide +kernel
theorem dX1_readBehind_0 : decode cX1_readBehind 0 = .ok (.iload_n 3, 1) := by decide +kernel
theorem dX1_readBehind_1 : decode cX1_readBehind 1 = .ok (.iconst 5, 1) := by decide +kernel
theorem dX1_readBehind_2 : decode cX1_readBehind 2 = .ok (.if_icmp .lt 8, 3) := by decide +kernel
theorem dX1_readBehind_5 : decode cX1_readBehind 5 = .ok (.aload_n 0, 1) := by decide +kernel
theorem dX1_readBehind_6 : decode cX1_readBehind 6 = .ok (.invokevirtual 42, 3) := by decide +kernel
theorem dX1_readBehind_9 : decode cX1_readBehind 9 = .ok (.return_, 1) := by decide +kernel
theorem dX1_readBehind_10 : decode cX1_readBehind 10 = .ok (.aload_n 0, 1) := by decide +kernel
theorem dX1_readBehind_11 : decode cX1_readBehind 11 = .ok (.invokevirtual 28, 3) := by decide +kernel
theorem dX1_readBehind_14 : decode cX1_readBehind 14 = .ok (.aload_n 0, 1) := by decide +kernel
theorem dX1_readBehind_15 : decode cX1_readBehind 15 = .ok (.iload_n 2, 1) := by decide +kernel
theorem dX1_readBehind_16 : decode cX1_readBehind 16 = .ok (.iload_n 3, 1) := by decide +kernel
theorem dX1_readBehind_17 : decode cX1_readBehind 17 = .ok (.iconst 1, 1) := by decide +kernel
theorem dX1_readBehind_18 : decode cX1_readBehind 18 = .ok (.iadd, 1) := by decide +kernel
theorem dX1_readBehind_19 : decode cX1_readBehind 19 = .ok (.aload 4, 2) := by decide +kernel
theorem dX1_readBehind_21 : decode cX1_readBehind 21 = .ok (.invokevirtual 35, 3) := by decide +kernel
theorem dX1_readBehind_24 : decode cX1_readBehind 24 = .ok (.aload_n 0, 1) := by decide +kernel
theorem dX1_readBehind_25 : decode cX1_readBehind 25 = .ok (.iload_n 1, 1) := by decide +kernel
theorem dX1_readBehind_26 : decode cX1_readBehind 26 = .ok (.aload 4, 2) := by decide +kernel
theorem dX1_readBehind_28 : decode cX1_readBehind 28 = .ok (.invokevirtual 63, 3) := by decide +kernel
theorem dX1_readBehind_31 : decode cX1_readBehind 31 = .ok (.return_, 1) := by decide +kernel
theorem dX1_put_0 : decode cX1_put 0 = .ok (.aload_n 0, 1) := by decide +kernel
theorem dX1_put_1 : decode cX1_put 1 = .ok (.getfield 22, 3) := by decide +kernel
theorem dX1_put_4 : decode cX1_put 4 = .ok (.aload_n 2, 1) := by decide +kernel
theorem dX1_put_5 : decode cX1_put 5 = .ok (.arraylength, 1) := by decide +kernel
theorem dX1_put_6 : decode cX1_put 6 = .ok (.if_icmp .lt 4, 3) := by decide +kernel
theorem dX1_put_9 : decode cX1_put 9 = .ok (.return_, 1) := by decide +kernel
theorem dX1_put_10 : decode cX1_put 10 = .ok (.aload_n 2, 1) := by decide +kernel
theorem dX1_put_11 : decode cX1_put 11 = .ok (.aload_n 0, 1) := by decide +kernel
theorem dX1_put_12 : decode cX1_put 12 = .ok (.getfield 22, 3) := by decide +kernel
theorem dX1_put_15 : decode cX1_put 15 = .ok (.iload_n 1, 1) := by decide +kernel
theorem dX1_put_16 : decode cX1_put 16 = .ok (.iastore, 1) := by decide +kernel
theorem dX1_put_17 : decode cX1_put 17 = .ok (.aload_n 0, 1) := by decide +kernel
theorem dX1_put_18 : decode cX1_put 18 = .ok (.dup, 1) := by decide +kernel
theorem dX1_put_19 : decode cX1_put 19 = .ok (.getfield 22, 3) := by decide +kernel
theorem dX1_put_22 : decode cX1_put 22 = .ok (.iconst 1, 1) := by decide +kernel
theorem dX1_put_23 : decode cX1_put 23 = .ok (.iadd, 1) := by decide +kernel
theorem dX1_put_24 : decode cX1_put 24 = .ok (.putfield 22, 3) := by decide +kernel
theorem dX1_put_27 : decode cX1_put 27 = .ok (.return_, 1) := by decide +kernel
theorem dX1_advance_0 : decode cX1_advance 0 = .ok (.aload_n 0, 1) := by decide +kernel
theorem dX1_advance_1 : decode cX1_advance 1 = .ok (.getfield 19, 3) := by decide +kernel
theorem dX1_advance_4 : decode cX1_advance 4 = .ok (.aload_n 0, 1) := by decide +kernel
theorem dX1_advance_5 : decode cX1_advance 5 = .ok (.getfield 15, 3) := by decide +kernel
theorem dX1_advance_8 : decode cX1_advance 8 = .ok (.if_icmp .ge 44, 3) := by decide +kernel
theorem dX1_advance_11 : decode cX1_advance 11 = .ok (.aload_n 0, 1) := by decide +kernel
theorem dX1_advance_12 : decode cX1_advance 12 = .ok (.getfield 9, 3) := by decide +kernel
theorem dX1_advance_15 : decode cX1_advance 15 = .ok (.aload_n 0, 1) := by decide +kernel
theorem dX1_advance_16 : decode cX1_advance 16 = .ok (.getfield 19, 3) := by decide +kernel
theorem dX1_advance_19 : decode cX1_advance 19 = .ok (.iaload, 1) := by decide +kernel
theorem dX1_advance_20 : decode cX1_advance 20 = .ok (.bipush 32, 2) := by decide +kernel
theorem dX1_advance_22 : decode cX1_advance 22 = .ok (.if_icmp .eq 17, 3) := by decide +kernel
theorem dX1_advance_25 : decode cX1_advance 25 = .ok (.aload_n 0, 1) := by decide +kernel
theorem dX1_advance_26 : decode cX1_advance 26 = .ok (.getfield 9, 3) := by decide +kernel
theorem dX1_advance_29 : decode cX1_advance 29 = .ok (.aload_n 0, 1) := by decide +kernel
theorem dX1_advance_30 : decode cX1_advance 30 = .ok (.getfield 19, 3) := by decide +kernel
theorem dX1_advance_33 : decode cX1_advance 33 = .ok (.iaload, 1) := by decide +kernel
theorem dX1_advance_34 : decode cX1_advance 34 = .ok (.bipush 10, 2) := by decide +kernel
theorem dX1_advance_36 : decode cX1_advance 36 = .ok (.if_icmp .ne 16, 3) := by decide +kernel
theorem dX1_advance_39 : decode cX1_advance 39 = .ok (.aload_n 0, 1) := by decide +kernel
theorem dX1_advance_40 : decode cX1_advance 40 = .ok (.dup, 1) := by decide +kernel
theorem dX1_advance_41 : decode cX1_advance 41 = .ok (.getfield 19, 3) := by decide +kernel
theorem dX1_advance_44 : decode cX1_advance 44 = .ok (.iconst 1, 1) := by decide +kernel
theorem dX1_advance_45 : decode cX1_advance 45 = .ok (.iadd, 1) := by decide +kernel
theorem dX1_advance_46 : decode cX1_advance 46 = .ok (.putfield 19, 3) := by decide +kernel
theorem dX1_advance_49 : decode cX1_advance 49 = .ok (.goto (-49), 3) := by decide +kernel
theorem dX1_advance_52 : decode cX1_advance 52 = .ok (.aload_n 0, 1) := by decide +kernel
theorem dX1_advance_53 : decode cX1_advance 53 = .ok (.aload_n 0, 1) := by decide +kernel
theorem dX1_advance_54 : decode cX1_advance 54 = .ok (.getfield 19, 3) := by decide +kernel
theorem dX1_advance_57 : decode cX1_advance 57 = .ok (.putfield 45, 3) := by decide +kernel
theorem dX1_advance_60 : decode cX1_advance 60 = .ok (.aload_n 0, 1) := by decide +kernel
theorem dX1_advance_61 : decode cX1_advance 61 = .ok (.getfield 19, 3) := by decide +kernel
theorem dX1_advance_64 : decode cX1_advance 64 = .ok (.aload_n 0, 1) := by decide +kernel
theorem dX1_advance_65 : decode cX1_advance 65 = .ok (.getfield 15, 3) := by decide +kernel
theorem dX1_advance_68 : decode cX1_advance 68 = .ok (.if_icmp .lt 13, 3) := by decide +kernel
theorem dX1_advance_71 : decode cX1_advance 71 = .ok (.aload_n 0, 1) := by decide +kernel
theorem dX1_advance_72 : decode cX1_advance 72 = .ok (.sipush 257, 3) := by decide +kernel
theorem dX1_advance_75 : decode cX1_advance 75 = .ok (.putfield 39, 3) := by decide +kernel
theorem dX1_advance_78 : decode cX1_advance 78 = .ok (.goto 142, 3) := by decide +kernel
theorem dX1_advance_81 : decode cX1_advance 81 = .ok (.aload_n 0, 1) := by decide +kernel
theorem dX1_advance_82 : decode cX1_advance 82 = .ok (.getfield 9, 3) := by decide +kernel
theorem dX1_advance_85 : decode cX1_advance 85 = .ok (.aload_n 0, 1) := by decide +kernel
theorem dX1_advance_86 : decode cX1_advance 86 = .ok (.getfield 19, 3) := by decide +kernel
theorem dX1_advance_89 : decode cX1_advance 89 = .ok (.iaload, 1) := by decide +kernel
theorem dX1_advance_90 : decode cX1_advance 90 = .ok (.invokestatic 71, 3) := by decide +kernel
theorem dX1_advance_93 : decode cX1_advance 93 = .ok (.ifCond .eq 61, 3) := by decide +kernel
theorem dX1_advance_96 : decode cX1_advance 96 = .ok (.aload_n 0, 1) := by decide +kernel
theorem dX1_advance_97 : decode cX1_advance 97 = .ok (.getfield 19, 3) := by decide +kernel
theorem dX1_advance_100 : decode cX1_advance 100 = .ok (.aload_n 0, 1) := by decide +kernel
theorem dX1_advance_101 : decode cX1_advance 101 = .ok (.getfield 15, 3) := by decide +kernel
theorem dX1_advance_104 : decode cX1_advance 104 = .ok (.if_icmp .ge 31, 3) := by decide +kernel
theorem dX1_advance_107 : decode cX1_advance 107 = .ok (.aload_n 0, 1) := by decide +kernel
theorem dX1_advance_108 : decode cX1_advance 108 = .ok (.getfield 9, 3) := by decide +kernel
theorem dX1_advance_111 : decode cX1_advance 111 = .ok (.aload_n 0, 1) := by decide +kernel
theorem dX1_advance_112 : decode cX1_advance 112 = .ok (.getfield 19, 3) := by decide +kernel
theorem dX1_advance_115 : decode cX1_advance 115 = .ok (.iaload, 1) := by decide +kernel
theorem dX1_advance_116 : decode cX1_advance 116 = .ok (.invokestatic 71, 3) := by decide +kernel
theorem dX1_advance_119 : decode cX1_advance 119 = .ok (.ifCond .eq 16, 3) := by decide +kernel
theorem dX1_advance_122 : decode cX1_advance 122 = .ok (.aload_n 0, 1) := by decide +kernel
theorem dX1_advance_123 : decode cX1_advance 123 = .ok (.dup, 1) := by decide +kernel
theorem dX1_advance_124 : decode cX1_advance 124 = .ok (.getfield 19, 3) := by decide +kernel
theorem dX1_advance_127 : decode cX1_advance 127 = .ok (.iconst 1, 1) := by decide +kernel
theorem dX1_advance_128 : decode cX1_advance 128 = .ok (.iadd, 1) := by decide +kernel
theorem dX1_advance_129 : decode cX1_advance 129 = .ok (.putfield 19, 3) := by decide +kernel
theorem dX1_advance_132 : decode cX1_advance 132 = .ok (.goto (-36), 3) := by decide +kernel
theorem dX1_advance_135 : decode cX1_advance 135 = .ok (.aload_n 0, 1) := by decide +kernel
theorem dX1_advance_136 : decode cX1_advance 136 = .ok (.aload_n 0, 1) := by decide +kernel
theorem dX1_advance_137 : decode cX1_advance 137 = .ok (.aload_n 0, 1) := by decide +kernel
theorem dX1_advance_138 : decode cX1_advance 138 = .ok (.getfield 45, 3) := by decide +kernel
theorem dX1_advance_141 : decode cX1_advance 141 = .ok (.aload_n 0, 1) := by decide +kernel
theorem dX1_advance_142 : decode cX1_advance 142 = .ok (.getfield 19, 3) := by decide +kernel
theorem dX1_advance_145 : decode cX1_advance 145 = .ok (.invokevirtual 75, 3) := by decide +kernel
theorem dX1_advance_148 : decode cX1_advance 148 = .ok (.putfield 39, 3) := by decide +kernel
theorem dX1_advance_151 : decode cX1_advance 151 = .ok (.goto 69, 3) := by decide +kernel
theorem dX1_advance_154 : decode cX1_advance 154 = .ok (.aload_n 0, 1) := by decide +kernel
theorem dX1_advance_155 : decode cX1_advance 155 = .ok (.getfield 9, 3) := by decide +kernel
theorem dX1_advance_158 : decode cX1_advance 158 = .ok (.aload_n 0, 1) := by decide +kernel
theorem dX1_advance_159 : decode cX1_advance 159 = .ok (.getfield 19, 3) := by decide +kernel
theorem dX1_advance_162 : decode cX1_advance 162 = .ok (.iaload, 1) := by decide +kernel
theorem dX1_advance_163 : decode cX1_advance 163 = .ok (.invokestatic 79, 3) := by decide +kernel
theorem dX1_advance_166 : decode cX1_advance 166 = .ok (.ifCond .eq 10, 3) := by decide +kernel
theorem dX1_advance_169 : decode cX1_advance 169 = .ok (.aload_n 0, 1) := by decide +kernel
theorem dX1_advance_170 : decode cX1_advance 170 = .ok (.invokevirtual 82, 3) := by decide +kernel
theorem dX1_advance_173 : decode cX1_advance 173 = .ok (.goto 47, 3) := by decide +kernel
theorem dX1_advance_176 : decode cX1_advance 176 = .ok (.aload_n 0, 1) := by decide +kernel
theorem dX1_advance_177 : decode cX1_advance 177 = .ok (.aload_n 0, 1) := by decide +kernel
theorem dX1_advance_178 : decode cX1_advance 178 = .ok (.getfield 9, 3) := by decide +kernel
theorem dX1_advance_181 : decode cX1_advance 181 = .ok (.aload_n 0, 1) := by decide +kernel
theorem dX1_advance_182 : decode cX1_advance 182 = .ok (.getfield 19, 3) := by decide +kernel
theorem dX1_advance_185 : decode cX1_advance 185 = .ok (.iaload, 1) := by decide +kernel
theorem dX1_advance_186 : decode cX1_advance 186 = .ok (.invokestatic 85, 3) := by decide +kernel
theorem dX1_advance_189 : decode cX1_advance 189 = .ok (.ifCond .eq 15, 3) := by decide +kernel
theorem dX1_advance_192 : decode cX1_advance 192 = .ok (.aload_n 0, 1) := by decide +kernel
theorem dX1_advance_193 : decode cX1_advance 193 = .ok (.getfield 9, 3) := by decide +kernel
theorem dX1_advance_196 : decode cX1_advance 196 = .ok (.aload_n 0, 1) := by decide +kernel
theorem dX1_advance_197 : decode cX1_advance 197 = .ok (.getfield 19, 3) := by decide +kernel
theorem dX1_advance_200 : decode cX1_advance 200 = .ok (.iaload, 1) := by decide +kernel
theorem dX1_advance_201 : decode cX1_advance 201 = .ok (.goto 6, 3) := by decide +kernel
theorem dX1_advance_204 : decode cX1_advance 204 = .ok (.sipush 258, 3) := by decide +kernel
theorem dX1_advance_207 : decode cX1_advance 207 = .ok (.putfield 39, 3) := by decide +kernel
theorem dX1_advance_210 : decode cX1_advance 210 = .ok (.aload_n 0, 1) := by decide +kernel
theorem dX1_advance_211 : decode cX1_advance 211 = .ok (.dup, 1) := by decide +kernel
theorem dX1_advance_212 : decode cX1_advance 212 = .ok (.getfield 19, 3) := by decide +kernel
theorem dX1_advance_215 : decode cX1_advance 215 = .ok (.iconst 1, 1) := by decide +kernel
theorem dX1_advance_216 : decode cX1_advance 216 = .ok (.iadd, 1) := by decide +kernel
theorem dX1_advance_217 : decode cX1_advance 217 = .ok (.putfield 19, 3) := by decide +kernel
theorem dX1_advance_220 : decode cX1_advance 220 = .ok (.return_, 1) := by decide +kernel
theorem dX1_readNumber_0 : decode cX1_readNumber 0 = .ok (.aload_n 0, 1) := by decide +kernel
theorem dX1_readNumber_1 : decode cX1_readNumber 1 = .ok (.iconst 0, 1) := by decide +kernel
theorem dX1_readNumber_2 : decode cX1_readNumber 2 = .ok (.putfield 66, 3) := by decide +kernel
theorem dX1_readNumber_5 : decode cX1_readNumber 5 = .ok (.aload_n 0, 1) := by decide +kernel
theorem dX1_readNumber_6 : decode cX1_readNumber 6 = .ok (.getfield 19, 3) := by decide +kernel
theorem dX1_readNumber_9 : decode cX1_readNumber 9 = .ok (.aload_n 0, 1) := by decide +kernel
theorem dX1_readNumber_10 : decode cX1_readNumber 10 = .ok (.getfield 15, 3) := by decide +kernel
theorem dX1_readNumber_13 : decode cX1_readNumber 13 = .ok (.if_icmp .ge 55, 3) := by decide +kernel
theorem dX1_readNumber_16 : decode cX1_readNumber 16 = .ok (.aload_n 0, 1) := by decide +kernel
theorem dX1_readNumber_17 : decode cX1_readNumber 17 = .ok (.getfield 9, 3) := by decide +kernel
theorem dX1_readNumber_20 : decode cX1_readNumber 20 = .ok (.aload_n 0, 1) := by decide +kernel
theorem dX1_readNumber_21 : decode cX1_readNumber 21 = .ok (.getfield 19, 3) := by decide +kernel
theorem dX1_readNumber_24 : decode cX1_readNumber 24 = .ok (.iaload, 1) := by decide +kernel
theorem dX1_readNumber_25 : decode cX1_readNumber 25 = .ok (.invokestatic 79, 3) := by decide +kernel
theorem dX1_readNumber_28 : decode cX1_readNumber 28 = .ok (.ifCond .eq 40, 3) := by decide +kernel
theorem dX1_readNumber_31 : decode cX1_readNumber 31 = .ok (.aload_n 0, 1) := by decide +kernel
theorem dX1_readNumber_32 : decode cX1_readNumber 32 = .ok (.aload_n 0, 1) := by decide +kernel
theorem dX1_readNumber_33 : decode cX1_readNumber 33 = .ok (.getfield 66, 3) := by decide +kernel
theorem dX1_readNumber_36 : decode cX1_readNumber 36 = .ok (.bipush 10, 2) := by decide +kernel
theorem dX1_readNumber_38 : decode cX1_readNumber 38 = .ok (.imul, 1) := by decide +kernel
theorem dX1_readNumber_39 : decode cX1_readNumber 39 = .ok (.aload_n 0, 1) := by decide +kernel
theorem dX1_readNumber_40 : decode cX1_readNumber 40 = .ok (.getfield 9, 3) := by decide +kernel
theorem dX1_readNumber_43 : decode cX1_readNumber 43 = .ok (.aload_n 0, 1) := by decide +kernel
theorem dX1_readNumber_44 : decode cX1_readNumber 44 = .ok (.getfield 19, 3) := by decide +kernel
theorem dX1_readNumber_47 : decode cX1_readNumber 47 = .ok (.iaload, 1) := by decide +kernel
theorem dX1_readNumber_48 : decode cX1_readNumber 48 = .ok (.iadd, 1) := by decide +kernel
theorem dX1_readNumber_49 : decode cX1_readNumber 49 = .ok (.bipush 48, 2) := by decide +kernel
theorem dX1_readNumber_51 : decode cX1_readNumber 51 = .ok (.isub, 1) := by decide +kernel
theorem dX1_readNumber_52 : decode cX1_readNumber 52 = .ok (.putfield 66, 3) := by decide +kernel
theorem dX1_readNumber_55 : decode cX1_readNumber 55 = .ok (.aload_n 0, 1) := by decide +kernel
theorem dX1_readNumber_56 : decode cX1_readNumber 56 = .ok (.dup, 1) := by decide +kernel
theorem dX1_readNumber_57 : decode cX1_readNumber 57 = .ok (.getfield 19, 3) := by decide +kernel
theorem dX1_readNumber_60 : decode cX1_readNumber 60 = .ok (.iconst 1, 1) := by decide +kernel
theorem dX1_readNumber_61 : decode cX1_readNumber 61 = .ok (.iadd, 1) := by decide +kernel
theorem dX1_readNumber_62 : decode cX1_readNumber 62 = .ok (.putfield 19, 3) := by decide +kernel
theorem dX1_readNumber_65 : decode cX1_readNumber 65 = .ok (.goto (-60), 3) := by decide +kernel
theorem dX1_readNumber_68 : decode cX1_readNumber 68 = .ok (.aload_n 0, 1) := by decide +kernel
theorem dX1_readNumber_69 : decode cX1_readNumber 69 = .ok (.aload_n 0, 1) := by decide +kernel
theorem dX1_readNumber_70 : decode cX1_readNumber 70 = .ok (.getfield 19, 3) := by decide +kernel
theorem dX1_readNumber_73 : decode cX1_readNumber 73 = .ok (.aload_n 0, 1) := by decide +kernel
theorem dX1_readNumber_74 : decode cX1_readNumber 74 = .ok (.getfield 45, 3) := by decide +kernel
theorem dX1_readNumber_77 : decode cX1_readNumber 77 = .ok (.isub, 1) := by decide +kernel
theorem dX1_readNumber_78 : decode cX1_readNumber 78 = .ok (.iconst 4, 1) := by decide +kernel
theorem dX1_readNumber_79 : decode cX1_readNumber 79 = .ok (.if_icmp .gt 9, 3) := by decide +kernel
theorem dX1_readNumber_82 : decode cX1_readNumber 82 = .ok (.sipush 256, 3) := by decide +kernel
theorem dX1_readNumber_85 : decode cX1_readNumber 85 = .ok (.goto 6, 3) := by decide +kernel
theorem dX1_readNumber_88 : decode cX1_readNumber 88 = .ok (.sipush 258, 3) := by decide +kernel
theorem dX1_readNumber_91 : decode cX1_readNumber 91 = .ok (.putfield 39, 3) := by decide +kernel
theorem dX1_readNumber_94 : decode cX1_readNumber 94 = .ok (.return_, 1) := by decide +kernel
theorem dX1_wordFrom_0 : decode cX1_wordFrom 0 = .ok (.iconst 0, 1) := by decide +kernel
theorem dX1_wordFrom_1 : decode cX1_wordFrom 1 = .ok (.istore_n 3, 1) := by decide +kernel
theorem dX1_wordFrom_2 : decode cX1_wordFrom 2 = .ok (.iconst 0, 1) := by decide +kernel
theorem dX1_wordFrom_3 : decode cX1_wordFrom 3 = .ok (.istore 4, 2) := by decide +kernel
theorem dX1_wordFrom_5 : decode cX1_wordFrom 5 = .ok (.iconst 0, 1) := by decide +kernel
theorem dX1_wordFrom_6 : decode cX1_wordFrom 6 = .ok (.istore 5, 2) := by decide +kernel
theorem dX1_wordFrom_8 : decode cX1_wordFrom 8 = .ok (.iload 5, 2) := by decide +kernel
theorem dX1_wordFrom_10 : decode cX1_wordFrom 10 = .ok (.ldc 88, 2) := by decide +kernel
theorem dX1_wordFrom_12 : decode cX1_wordFrom 12 = .ok (.invokevirtual 90, 3) := by decide +kernel
theorem dX1_wordFrom_15 : decode cX1_wordFrom 15 = .ok (.if_icmp .ge 56, 3) := by decide +kernel
theorem dX1_wordFrom_18 : decode cX1_wordFrom 18 = .ok (.ldc 88, 2) := by decide +kernel
theorem dX1_wordFrom_20 : decode cX1_wordFrom 20 = .ok (.iload 5, 2) := by decide +kernel
theorem dX1_wordFrom_22 : decode cX1_wordFrom 22 = .ok (.invokevirtual 96, 3) := by decide +kernel
theorem dX1_wordFrom_25 : decode cX1_wordFrom 25 = .ok (.bipush 32, 2) := by decide +kernel
theorem dX1_wordFrom_27 : decode cX1_wordFrom 27 = .ok (.if_icmp .ne 38, 3) := by decide +kernel
theorem dX1_wordFrom_30 : decode cX1_wordFrom 30 = .ok (.iload 5, 2) := by decide +kernel
theorem dX1_wordFrom_32 : decode cX1_wordFrom 32 = .ok (.iload 4, 2) := by decide +kernel
theorem dX1_wordFrom_34 : decode cX1_wordFrom 34 = .ok (.isub, 1) := by decide +kernel
theorem dX1_wordFrom_35 : decode cX1_wordFrom 35 = .ok (.iload_n 2, 1) := by decide +kernel
theorem dX1_wordFrom_36 : decode cX1_wordFrom 36 = .ok (.iload_n 1, 1) := by decide +kernel
theorem dX1_wordFrom_37 : decode cX1_wordFrom 37 = .ok (.isub, 1) := by decide +kernel
theorem dX1_wordFrom_38 : decode cX1_wordFrom 38 = .ok (.if_icmp .ne 18, 3) := by decide +kernel
theorem dX1_wordFrom_41 : decode cX1_wordFrom 41 = .ok (.aload_n 0, 1) := by decide +kernel
theorem dX1_wordFrom_42 : decode cX1_wordFrom 42 = .ok (.iload 4, 2) := by decide +kernel
theorem dX1_wordFrom_44 : decode cX1_wordFrom 44 = .ok (.iload_n 1, 1) := by decide +kernel
theorem dX1_wordFrom_45 : decode cX1_wordFrom 45 = .ok (.iload_n 2, 1) := by decide +kernel
theorem dX1_wordFrom_46 : decode cX1_wordFrom 46 = .ok (.iload_n 1, 1) := by decide +kernel
theorem dX1_wordFrom_47 : decode cX1_wordFrom 47 = .ok (.isub, 1) := by decide +kernel
theorem dX1_wordFrom_48 : decode cX1_wordFrom 48 = .ok (.invokevirtual 100, 3) := by decide +kernel
theorem dX1_wordFrom_51 : decode cX1_wordFrom 51 = .ok (.ifCond .eq 5, 3) := by decide +kernel
theorem dX1_wordFrom_54 : decode cX1_wordFrom 54 = .ok (.iload_n 3, 1) := by decide +kernel
theorem dX1_wordFrom_55 : decode cX1_wordFrom 55 = .ok (.ireturn, 1) := by decide +kernel
theorem dX1_wordFrom_56 : decode cX1_wordFrom 56 = .ok (.iinc 3 1, 3) := by decide +kernel
theorem dX1_wordFrom_59 : decode cX1_wordFrom 59 = .ok (.iload 5, 2) := by decide +kernel
theorem dX1_wordFrom_61 : decode cX1_wordFrom 61 = .ok (.iconst 1, 1) := by decide +kernel
theorem dX1_wordFrom_62 : decode cX1_wordFrom 62 = .ok (.iadd, 1) := by decide +kernel
theorem dX1_wordFrom_63 : decode cX1_wordFrom 63 = .ok (.istore 4, 2) := by decide +kernel
theorem dX1_wordFrom_65 : decode cX1_wordFrom 65 = .ok (.iinc 5 1, 3) := by decide +kernel
theorem dX1_wordFrom_68 : decode cX1_wordFrom 68 = .ok (.goto (-60), 3) := by decide +kernel
theorem dX1_wordFrom_71 : decode cX1_wordFrom 71 = .ok (.sipush 258, 3) := by decide +kernel
theorem dX1_wordFrom_74 : decode cX1_wordFrom 74 = .ok (.ireturn, 1) := by decide +kernel
theorem dX1_isAlike_0 : decode cX1_isAlike 0 = .ok (.iconst 0, 1) := by decide +kernel
theorem dX1_isAlike_1 : decode cX1_isAlike 1 = .ok (.istore 4, 2) := by decide +kernel
theorem dX1_isAlike_3 : decode cX1_isAlike 3 = .ok (.iload 4, 2) := by decide +kernel
theorem dX1_isAlike_5 : decode cX1_isAlike 5 = .ok (.iload_n 3, 1) := by decide +kernel
theorem dX1_isAlike_6 : decode cX1_isAlike 6 = .ok (.if_icmp .ge 32, 3) := by decide +kernel
theorem dX1_isAlike_9 : decode cX1_isAlike 9 = .ok (.ldc 88, 2) := by decide +kernel
theorem dX1_isAlike_11 : decode cX1_isAlike 11 = .ok (.iload_n 1, 1) := by decide +kernel
theorem dX1_isAlike_12 : decode cX1_isAlike 12 = .ok (.iload 4, 2) := by decide +kernel
theorem dX1_isAlike_14 : decode cX1_isAlike 14 = .ok (.iadd, 1) := by decide +kernel
theorem dX1_isAlike_15 : decode cX1_isAlike 15 = .ok (.invokevirtual 96, 3) := by decide +kernel
theorem dX1_isAlike_18 : decode cX1_isAlike 18 = .ok (.aload_n 0, 1) := by decide +kernel
theorem dX1_isAlike_19 : decode cX1_isAlike 19 = .ok (.getfield 9, 3) := by decide +kernel
theorem dX1_isAlike_22 : decode cX1_isAlike 22 = .ok (.iload_n 2, 1) := by decide +kernel
theorem dX1_isAlike_23 : decode cX1_isAlike 23 = .ok (.iload 4, 2) := by decide +kernel
theorem dX1_isAlike_25 : decode cX1_isAlike 25 = .ok (.iadd, 1) := by decide +kernel
theorem dX1_isAlike_26 : decode cX1_isAlike 26 = .ok (.iaload, 1) := by decide +kernel
theorem dX1_isAlike_27 : decode cX1_isAlike 27 = .ok (.if_icmp .eq 5, 3) := by decide +kernel
theorem dX1_isAlike_30 : decode cX1_isAlike 30 = .ok (.iconst 0, 1) := by decide +kernel
theorem dX1_isAlike_31 : decode cX1_isAlike 31 = .ok (.ireturn, 1) := by decide +kernel
theorem dX1_isAlike_32 : decode cX1_isAlike 32 = .ok (.iinc 4 1, 3) := by decide +kernel
theorem dX1_isAlike_35 : decode cX1_isAlike 35 = .ok (.goto (-32), 3) := by decide +kernel
theorem dX1_isAlike_38 : decode cX1_isAlike 38 = .ok (.iconst 1, 1) := by decide +kernel
theorem dX1_isAlike_39 : decode cX1_isAlike 39 = .ok (.ireturn, 1) := by decide +kernel
theorem dX1_isLetter_0 : decode cX1_isLetter 0 = .ok (.iload_n 0, 1) := by decide +kernel
theorem dX1_isLetter_1 : decode cX1_isLetter 1 = .ok (.bipush 97, 2) := by decide +kernel
theorem dX1_isLetter_3 : decode cX1_isLetter 3 = .ok (.if_icmp .lt 13, 3) := by decide +kernel
theorem dX1_isLetter_6 : decode cX1_isLetter 6 = .ok (.iload_n 0, 1) := by decide +kernel
theorem dX1_isLetter_7 : decode cX1_isLetter 7 = .ok (.bipush 122, 2) := by decide +kernel
theorem dX1_isLetter_9 : decode cX1_isLetter 9 = .ok (.if_icmp .gt 7, 3) := by decide +kernel
theorem dX1_isLetter_12 : decode cX1_isLetter 12 = .ok (.iconst 1, 1) := by decide +kernel
theorem dX1_isLetter_13 : decode cX1_isLetter 13 = .ok (.goto 4, 3) := by decide +kernel
theorem dX1_isLetter_16 : decode cX1_isLetter 16 = .ok (.iconst 0, 1) := by decide +kernel
theorem dX1_isLetter_17 : decode cX1_isLetter 17 = .ok (.ireturn, 1) := by decide +kernel
theorem dX1_isDigit_0 : decode cX1_isDigit 0 = .ok (.iload_n 0, 1) := by decide +kernel
theorem dX1_isDigit_1 : decode cX1_isDigit 1 = .ok (.bipush 48, 2) := by decide +kernel
theorem dX1_isDigit_3 : decode cX1_isDigit 3 = .ok (.if_icmp .lt 13, 3) := by decide +kernel
theorem dX1_isDigit_6 : decode cX1_isDigit 6 = .ok (.iload_n 0, 1) := by decide +kernel
theorem dX1_isDigit_7 : decode cX1_isDigit 7 = .ok (.bipush 57, 2) := by decide +kernel
theorem dX1_isDigit_9 : decode cX1_isDigit 9 = .ok (.if_icmp .gt 7, 3) := by decide +kernel
theorem dX1_isDigit_12 : decode cX1_isDigit 12 = .ok (.iconst 1, 1) := by decide +kernel
theorem dX1_isDigit_13 : decode cX1_isDigit 13 = .ok (.goto 4, 3) := by decide +kernel
theorem dX1_isDigit_16 : decode cX1_isDigit 16 = .ok (.iconst 0, 1) := by decide +kernel
theorem dX1_isDigit_17 : decode cX1_isDigit 17 = .ok (.ireturn, 1) := by decide +kernel
theorem dX1_isSign_0 : decode cX1_isSign 0 = .ok (.iload_n 0, 1) := by decide +kernel
theorem dX1_isSign_1 : decode cX1_isSign 1 = .ok (.tableswitch 105 40 61 #[103, 103, 103, 103, 105, 103, 105, 105, 105, 105, 105, 105, 105, 105, 105, 105, 105, 105, 105, 103, 103, 103], 103) := by decide +kernel
theorem dX1_isSign_104 : decode cX1_isSign 104 = .ok (.iconst 1, 1) := by decide +kernel
theorem dX1_isSign_105 : decode cX1_isSign 105 = .ok (.ireturn, 1) := by decide +kernel
theorem dX1_isSign_106 : decode cX1_isSign 106 = .ok (.iconst 0, 1) := by decide +kernel
theorem dX1_isSign_107 : decode cX1_isSign 107 = .ok (.ireturn, 1) := by decide +kernel
theorem dX2_init_0 : decode cX2_init 0 = .ok (.aload_n 0, 1) := by decide +kernel
theorem dX2_init_1 : decode cX2_init 1 = .ok (.invokespecial 3, 3) := by decide +kernel
theorem dX2_init_4 : decode cX2_init 4 = .ok (.aload_n 0, 1) := by decide +kernel
theorem dX2_init_5 : decode cX2_init 5 = .ok (.bipush 40, 2) := by decide +kernel
theorem dX2_init_7 : decode cX2_init 7 = .ok (.newarray .int, 2) := by decide +kernel
theorem dX2_init_9 : decode cX2_init 9 = .ok (.putfield 9, 3) := by decide +kernel
theorem dX2_init_12 : decode cX2_init 12 = .ok (.aload_n 0, 1) := by decide +kernel
theorem dX2_init_13 : decode cX2_init 13 = .ok (.iconst (-1), 1) := by decide +kernel
theorem dX2_init_14 : decode cX2_init 14 = .ok (.putfield 15, 3) := by decide +kernel
theorem dX2_init_17 : decode cX2_init 17 = .ok (.return_, 1) := by decide +kernel
theorem dX2_become_0 : decode cX2_become 0 = .ok (.aload_n 0, 1) := by decide +kernel
theorem dX2_become_1 : decode cX2_become 1 = .ok (.iload_n 1, 1) := by decide +kernel
theorem dX2_become_2 : decode cX2_become 2 = .ok (.putfield 15, 3) := by decide +kernel
theorem dX2_become_5 : decode cX2_become 5 = .ok (.aload_n 0, 1) := by decide +kernel
theorem dX2_become_6 : decode cX2_become 6 = .ok (.iload_n 2, 1) := by decide +kernel
theorem dX2_become_7 : decode cX2_become 7 = .ok (.bipush 40, 2) := by decide +kernel
theorem dX2_become_9 : decode cX2_become 9 = .ok (.invokestatic 19, 3) := by decide +kernel
theorem dX2_become_12 : decode cX2_become 12 = .ok (.putfield 25, 3) := by decide +kernel
theorem dX2_become_15 : decode cX2_become 15 = .ok (.iconst 0, 1) := by decide +kernel
theorem dX2_become_16 : decode cX2_become 16 = .ok (.istore_n 3, 1) := by decide +kernel
theorem dX2_become_17 : decode cX2_become 17 = .ok (.iload_n 3, 1) := by decide +kernel
theorem dX2_become_18 : decode cX2_become 18 = .ok (.bipush 40, 2) := by decide +kernel
theorem dX2_become_20 : decode cX2_become 20 = .ok (.if_icmp .ge 16, 3) := by decide +kernel
theorem dX2_become_23 : decode cX2_become 23 = .ok (.aload_n 0, 1) := by decide +kernel
theorem dX2_become_24 : decode cX2_become 24 = .ok (.getfield 9, 3) := by decide +kernel
theorem dX2_become_27 : decode cX2_become 27 = .ok (.iload_n 3, 1) := by decide +kernel
theorem dX2_become_28 : decode cX2_become 28 = .ok (.iconst 0, 1) := by decide +kernel
theorem dX2_become_29 : decode cX2_become 29 = .ok (.iastore, 1) := by decide +kernel
theorem dX2_become_30 : decode cX2_become 30 = .ok (.iinc 3 1, 3) := by decide +kernel
theorem dX2_become_33 : decode cX2_become 33 = .ok (.goto (-16), 3) := by decide +kernel
theorem dX2_become_36 : decode cX2_become 36 = .ok (.return_, 1) := by decide +kernel
theorem dX2_isMissing_0 : decode cX2_isMissing 0 = .ok (.aload_n 0, 1) := by decide +kernel
theorem dX2_isMissing_1 : decode cX2_isMissing 1 = .ok (.getfield 15, 3) := by decide +kernel
theorem dX2_isMissing_4 : decode cX2_isMissing 4 = .ok (.iconst (-1), 1) := by decide +kernel
theorem dX2_isMissing_5 : decode cX2_isMissing 5 = .ok (.if_icmp .ne 7, 3) := by decide +kernel
theorem dX2_isMissing_8 : decode cX2_isMissing 8 = .ok (.iconst 1, 1) := by decide +kernel
theorem dX2_isMissing_9 : decode cX2_isMissing 9 = .ok (.goto 4, 3) := by decide +kernel
theorem dX2_isMissing_12 : decode cX2_isMissing 12 = .ok (.iconst 0, 1) := by decide +kernel
theorem dX2_isMissing_13 : decode cX2_isMissing 13 = .ok (.ireturn, 1) := by decide +kernel
theorem dX2_has_0 : decode cX2_has 0 = .ok (.iload_n 1, 1) := by decide +kernel
theorem dX2_has_1 : decode cX2_has 1 = .ok (.ifCond .lt 15, 3) := by decide +kernel
theorem dX2_has_4 : decode cX2_has 4 = .ok (.iload_n 1, 1) := by decide +kernel
theorem dX2_has_5 : decode cX2_has 5 = .ok (.aload_n 0, 1) := by decide +kernel
theorem dX2_has_6 : decode cX2_has 6 = .ok (.getfield 25, 3) := by decide +kernel
theorem dX2_has_9 : decode cX2_has 9 = .ok (.if_icmp .ge 7, 3) := by decide +kernel
theorem dX2_has_12 : decode cX2_has 12 = .ok (.iconst 1, 1) := by decide +kernel
theorem dX2_has_13 : decode cX2_has 13 = .ok (.goto 4, 3) := by decide +kernel
theorem dX2_has_16 : decode cX2_has 16 = .ok (.iconst 0, 1) := by decide +kernel
theorem dX2_has_17 : decode cX2_has 17 = .ok (.ireturn, 1) := by decide +kernel
theorem dX2_hasRange_0 : decode cX2_hasRange 0 = .ok (.iload_n 1, 1) := by decide +kernel
theorem dX2_hasRange_1 : decode cX2_hasRange 1 = .ok (.ifCond .lt 29, 3) := by decide +kernel
theorem dX2_hasRange_4 : decode cX2_hasRange 4 = .ok (.iload_n 2, 1) := by decide +kernel
theorem dX2_hasRange_5 : decode cX2_hasRange 5 = .ok (.ifCond .lt 25, 3) := by decide +kernel
theorem dX2_hasRange_8 : decode cX2_hasRange 8 = .ok (.iload_n 2, 1) := by decide +kernel
theorem dX2_hasRange_9 : decode cX2_hasRange 9 = .ok (.aload_n 0, 1) := by decide +kernel
theorem dX2_hasRange_10 : decode cX2_hasRange 10 = .ok (.getfield 25, 3) := by decide +kernel
theorem dX2_hasRange_13 : decode cX2_hasRange 13 = .ok (.if_icmp .gt 17, 3) := by decide +kernel
theorem dX2_hasRange_16 : decode cX2_hasRange 16 = .ok (.iload_n 1, 1) := by decide +kernel
theorem dX2_hasRange_17 : decode cX2_hasRange 17 = .ok (.aload_n 0, 1) := by decide +kernel
theorem dX2_hasRange_18 : decode cX2_hasRange 18 = .ok (.getfield 25, 3) := by decide +kernel
theorem dX2_hasRange_21 : decode cX2_hasRange 21 = .ok (.iload_n 2, 1) := by decide +kernel
theorem dX2_hasRange_22 : decode cX2_hasRange 22 = .ok (.isub, 1) := by decide +kernel
theorem dX2_hasRange_23 : decode cX2_hasRange 23 = .ok (.if_icmp .gt 7, 3) := by decide +kernel
theorem dX2_hasRange_26 : decode cX2_hasRange 26 = .ok (.iconst 1, 1) := by decide +kernel
theorem dX2_hasRange_27 : decode cX2_hasRange 27 = .ok (.goto 4, 3) := by decide +kernel
theorem dX2_hasRange_30 : decode cX2_hasRange 30 = .ok (.iconst 0, 1) := by decide +kernel
theorem dX2_hasRange_31 : decode cX2_hasRange 31 = .ok (.ireturn, 1) := by decide +kernel
theorem dX2_put_0 : decode cX2_put 0 = .ok (.aload_n 0, 1) := by decide +kernel
theorem dX2_put_1 : decode cX2_put 1 = .ok (.iload_n 1, 1) := by decide +kernel
theorem dX2_put_2 : decode cX2_put 2 = .ok (.invokevirtual 28, 3) := by decide +kernel
theorem dX2_put_5 : decode cX2_put 5 = .ok (.ifCond .ne 4, 3) := by decide +kernel
theorem dX2_put_8 : decode cX2_put 8 = .ok (.return_, 1) := by decide +kernel
theorem dX2_put_9 : decode cX2_put 9 = .ok (.aload_n 0, 1) := by decide +kernel
theorem dX2_put_10 : decode cX2_put 10 = .ok (.getfield 15, 3) := by decide +kernel
theorem dX2_put_13 : decode cX2_put 13 = .ok (.ifCond .ne 14, 3) := by decide +kernel
theorem dX2_put_16 : decode cX2_put 16 = .ok (.aload_n 0, 1) := by decide +kernel
theorem dX2_put_17 : decode cX2_put 17 = .ok (.getfield 9, 3) := by decide +kernel
theorem dX2_put_20 : decode cX2_put 20 = .ok (.iload_n 1, 1) := by decide +kernel
theorem dX2_put_21 : decode cX2_put 21 = .ok (.iload_n 2, 1) := by decide +kernel
theorem dX2_put_22 : decode cX2_put 22 = .ok (.i2b, 1) := by decide +kernel
theorem dX2_put_23 : decode cX2_put 23 = .ok (.iastore, 1) := by decide +kernel
theorem dX2_put_24 : decode cX2_put 24 = .ok (.goto 29, 3) := by decide +kernel
theorem dX2_put_27 : decode cX2_put 27 = .ok (.aload_n 0, 1) := by decide +kernel
theorem dX2_put_28 : decode cX2_put 28 = .ok (.getfield 15, 3) := by decide +kernel
theorem dX2_put_31 : decode cX2_put 31 = .ok (.iconst 1, 1) := by decide +kernel
theorem dX2_put_32 : decode cX2_put 32 = .ok (.if_icmp .ne 14, 3) := by decide +kernel
theorem dX2_put_35 : decode cX2_put 35 = .ok (.aload_n 0, 1) := by decide +kernel
theorem dX2_put_36 : decode cX2_put 36 = .ok (.getfield 9, 3) := by decide +kernel
theorem dX2_put_39 : decode cX2_put 39 = .ok (.iload_n 1, 1) := by decide +kernel
theorem dX2_put_40 : decode cX2_put 40 = .ok (.iload_n 2, 1) := by decide +kernel
theorem dX2_put_41 : decode cX2_put 41 = .ok (.i2s, 1) := by decide +kernel
theorem dX2_put_42 : decode cX2_put 42 = .ok (.iastore, 1) := by decide +kernel
theorem dX2_put_43 : decode cX2_put 43 = .ok (.goto 10, 3) := by decide +kernel
theorem dX2_put_46 : decode cX2_put 46 = .ok (.aload_n 0, 1) := by decide +kernel
theorem dX2_put_47 : decode cX2_put 47 = .ok (.getfield 9, 3) := by decide +kernel
theorem dX2_put_50 : decode cX2_put 50 = .ok (.iload_n 1, 1) := by decide +kernel
theorem dX2_put_51 : decode cX2_put 51 = .ok (.iload_n 2, 1) := by decide +kernel
theorem dX2_put_52 : decode cX2_put 52 = .ok (.iastore, 1) := by decide +kernel
theorem dX2_put_53 : decode cX2_put 53 = .ok (.return_, 1) := by decide +kernel
theorem dX3_init_0 : decode cX3_init 0 = .ok (.aload_n 0, 1) := by decide +kernel
theorem dX3_init_1 : decode cX3_init 1 = .ok (.invokespecial 3, 3) := by decide +kernel
theorem dX3_init_4 : decode cX3_init 4 = .ok (.aload_n 0, 1) := by decide +kernel
theorem dX3_init_5 : decode cX3_init 5 = .ok (.bipush 8, 2) := by decide +kernel
theorem dX3_init_7 : decode cX3_init 7 = .ok (.newarray .int, 2) := by decide +kernel
theorem dX3_init_9 : decode cX3_init 9 = .ok (.putfield 9, 3) := by decide +kernel
theorem dX3_init_12 : decode cX3_init 12 = .ok (.aload_n 0, 1) := by decide +kernel
theorem dX3_init_13 : decode cX3_init 13 = .ok (.bipush 8, 2) := by decide +kernel
theorem dX3_init_15 : decode cX3_init 15 = .ok (.newarray .int, 2) := by decide +kernel
theorem dX3_init_17 : decode cX3_init 17 = .ok (.putfield 15, 3) := by decide +kernel
theorem dX3_init_20 : decode cX3_init 20 = .ok (.aload_n 0, 1) := by decide +kernel
theorem dX3_init_21 : decode cX3_init 21 = .ok (.iconst 5, 1) := by decide +kernel
theorem dX3_init_22 : decode cX3_init 22 = .ok (.newarray .int, 2) := by decide +kernel
theorem dX3_init_24 : decode cX3_init 24 = .ok (.putfield 18, 3) := by decide +kernel
theorem dX3_init_27 : decode cX3_init 27 = .ok (.aload_n 0, 1) := by decide +kernel
theorem dX3_init_28 : decode cX3_init 28 = .ok (.iconst 5, 1) := by decide +kernel
theorem dX3_init_29 : decode cX3_init 29 = .ok (.newarray .int, 2) := by decide +kernel
theorem dX3_init_31 : decode cX3_init 31 = .ok (.putfield 21, 3) := by decide +kernel
theorem dX3_init_34 : decode cX3_init 34 = .ok (.aload_n 0, 1) := by decide +kernel
theorem dX3_init_35 : decode cX3_init 35 = .ok (.bipush 100, 2) := by decide +kernel
theorem dX3_init_37 : decode cX3_init 37 = .ok (.putfield 24, 3) := by decide +kernel
theorem dX3_init_40 : decode cX3_init 40 = .ok (.aload_n 0, 1) := by decide +kernel
theorem dX3_init_41 : decode cX3_init 41 = .ok (.aload_n 1, 1) := by decide +kernel
theorem dX3_init_42 : decode cX3_init 42 = .ok (.putfield 28, 3) := by decide +kernel
theorem dX3_init_45 : decode cX3_init 45 = .ok (.return_, 1) := by decide +kernel
theorem dX3_becomeAs_0 : decode cX3_becomeAs 0 = .ok (.aload_n 1, 1) := by decide +kernel
theorem dX3_becomeAs_1 : decode cX3_becomeAs 1 = .ok (.getfield 9, 3) := by decide +kernel
theorem dX3_becomeAs_4 : decode cX3_becomeAs 4 = .ok (.iconst 0, 1) := by decide +kernel
theorem dX3_becomeAs_5 : decode cX3_becomeAs 5 = .ok (.aload_n 0, 1) := by decide +kernel
theorem dX3_becomeAs_6 : decode cX3_becomeAs 6 = .ok (.getfield 9, 3) := by decide +kernel
theorem dX3_becomeAs_9 : decode cX3_becomeAs 9 = .ok (.iconst 0, 1) := by decide +kernel
theorem dX3_becomeAs_10 : decode cX3_becomeAs 10 = .ok (.bipush 8, 2) := by decide +kernel
theorem dX3_becomeAs_12 : decode cX3_becomeAs 12 = .ok (.invokestatic 32, 3) := by decide +kernel
theorem dX3_becomeAs_15 : decode cX3_becomeAs 15 = .ok (.aload_n 1, 1) := by decide +kernel
theorem dX3_becomeAs_16 : decode cX3_becomeAs 16 = .ok (.getfield 15, 3) := by decide +kernel
theorem dX3_becomeAs_19 : decode cX3_becomeAs 19 = .ok (.iconst 0, 1) := by decide +kernel
theorem dX3_becomeAs_20 : decode cX3_becomeAs 20 = .ok (.aload_n 0, 1) := by decide +kernel
theorem dX3_becomeAs_21 : decode cX3_becomeAs 21 = .ok (.getfield 15, 3) := by decide +kernel
theorem dX3_becomeAs_24 : decode cX3_becomeAs 24 = .ok (.iconst 0, 1) := by decide +kernel
theorem dX3_becomeAs_25 : decode cX3_becomeAs 25 = .ok (.bipush 8, 2) := by decide +kernel
theorem dX3_becomeAs_27 : decode cX3_becomeAs 27 = .ok (.invokestatic 32, 3) := by decide +kernel
theorem dX3_becomeAs_30 : decode cX3_becomeAs 30 = .ok (.aload_n 1, 1) := by decide +kernel
theorem dX3_becomeAs_31 : decode cX3_becomeAs 31 = .ok (.getfield 18, 3) := by decide +kernel
theorem dX3_becomeAs_34 : decode cX3_becomeAs 34 = .ok (.iconst 0, 1) := by decide +kernel
theorem dX3_becomeAs_35 : decode cX3_becomeAs 35 = .ok (.aload_n 0, 1) := by decide +kernel
theorem dX3_becomeAs_36 : decode cX3_becomeAs 36 = .ok (.getfield 18, 3) := by decide +kernel
theorem dX3_becomeAs_39 : decode cX3_becomeAs 39 = .ok (.iconst 0, 1) := by decide +kernel
theorem dX3_becomeAs_40 : decode cX3_becomeAs 40 = .ok (.iconst 5, 1) := by decide +kernel
theorem dX3_becomeAs_41 : decode cX3_becomeAs 41 = .ok (.invokestatic 32, 3) := by decide +kernel
theorem dX3_becomeAs_44 : decode cX3_becomeAs 44 = .ok (.aload_n 1, 1) := by decide +kernel
theorem dX3_becomeAs_45 : decode cX3_becomeAs 45 = .ok (.getfield 21, 3) := by decide +kernel
theorem dX3_becomeAs_48 : decode cX3_becomeAs 48 = .ok (.iconst 0, 1) := by decide +kernel
theorem dX3_becomeAs_49 : decode cX3_becomeAs 49 = .ok (.aload_n 0, 1) := by decide +kernel
theorem dX3_becomeAs_50 : decode cX3_becomeAs 50 = .ok (.getfield 21, 3) := by decide +kernel
theorem dX3_becomeAs_53 : decode cX3_becomeAs 53 = .ok (.iconst 0, 1) := by decide +kernel
theorem dX3_becomeAs_54 : decode cX3_becomeAs 54 = .ok (.iconst 5, 1) := by decide +kernel
theorem dX3_becomeAs_55 : decode cX3_becomeAs 55 = .ok (.invokestatic 32, 3) := by decide +kernel
theorem dX3_becomeAs_58 : decode cX3_becomeAs 58 = .ok (.aload_n 0, 1) := by decide +kernel
theorem dX3_becomeAs_59 : decode cX3_becomeAs 59 = .ok (.aload_n 1, 1) := by decide +kernel
theorem dX3_becomeAs_60 : decode cX3_becomeAs 60 = .ok (.getfield 38, 3) := by decide +kernel
theorem dX3_becomeAs_63 : decode cX3_becomeAs 63 = .ok (.putfield 38, 3) := by decide +kernel
theorem dX3_becomeAs_66 : decode cX3_becomeAs 66 = .ok (.aload_n 0, 1) := by decide +kernel
theorem dX3_becomeAs_67 : decode cX3_becomeAs 67 = .ok (.aload_n 1, 1) := by decide +kernel
theorem dX3_becomeAs_68 : decode cX3_becomeAs 68 = .ok (.getfield 24, 3) := by decide +kernel
theorem dX3_becomeAs_71 : decode cX3_becomeAs 71 = .ok (.putfield 24, 3) := by decide +kernel
theorem dX3_becomeAs_74 : decode cX3_becomeAs 74 = .ok (.aload_n 0, 1) := by decide +kernel
theorem dX3_becomeAs_75 : decode cX3_becomeAs 75 = .ok (.aload_n 1, 1) := by decide +kernel
theorem dX3_becomeAs_76 : decode cX3_becomeAs 76 = .ok (.getfield 41, 3) := by decide +kernel
theorem dX3_becomeAs_79 : decode cX3_becomeAs 79 = .ok (.putfield 41, 3) := by decide +kernel
theorem dX3_becomeAs_82 : decode cX3_becomeAs 82 = .ok (.aload_n 0, 1) := by decide +kernel
theorem dX3_becomeAs_83 : decode cX3_becomeAs 83 = .ok (.aload_n 1, 1) := by decide +kernel
theorem dX3_becomeAs_84 : decode cX3_becomeAs 84 = .ok (.getfield 44, 3) := by decide +kernel
theorem dX3_becomeAs_87 : decode cX3_becomeAs 87 = .ok (.putfield 44, 3) := by decide +kernel
theorem dX3_becomeAs_90 : decode cX3_becomeAs 90 = .ok (.aload_n 0, 1) := by decide +kernel
theorem dX3_becomeAs_91 : decode cX3_becomeAs 91 = .ok (.aload_n 1, 1) := by decide +kernel
theorem dX3_becomeAs_92 : decode cX3_becomeAs 92 = .ok (.getfield 47, 3) := by decide +kernel
theorem dX3_becomeAs_95 : decode cX3_becomeAs 95 = .ok (.putfield 47, 3) := by decide +kernel
theorem dX3_becomeAs_98 : decode cX3_becomeAs 98 = .ok (.aload_n 0, 1) := by decide +kernel
theorem dX3_becomeAs_99 : decode cX3_becomeAs 99 = .ok (.aload_n 1, 1) := by decide +kernel
theorem dX3_becomeAs_100 : decode cX3_becomeAs 100 = .ok (.getfield 50, 3) := by decide +kernel
theorem dX3_becomeAs_103 : decode cX3_becomeAs 103 = .ok (.putfield 50, 3) := by decide +kernel
theorem dX3_becomeAs_106 : decode cX3_becomeAs 106 = .ok (.aload_n 0, 1) := by decide +kernel
theorem dX3_becomeAs_107 : decode cX3_becomeAs 107 = .ok (.aload_n 1, 1) := by decide +kernel
theorem dX3_becomeAs_108 : decode cX3_becomeAs 108 = .ok (.getfield 53, 3) := by decide +kernel
theorem dX3_becomeAs_111 : decode cX3_becomeAs 111 = .ok (.putfield 53, 3) := by decide +kernel
theorem dX3_becomeAs_114 : decode cX3_becomeAs 114 = .ok (.aload_n 0, 1) := by decide +kernel
theorem dX3_becomeAs_115 : decode cX3_becomeAs 115 = .ok (.aload_n 1, 1) := by decide +kernel
theorem dX3_becomeAs_116 : decode cX3_becomeAs 116 = .ok (.getfield 56, 3) := by decide +kernel
theorem dX3_becomeAs_119 : decode cX3_becomeAs 119 = .ok (.putfield 56, 3) := by decide +kernel
theorem dX3_becomeAs_122 : decode cX3_becomeAs 122 = .ok (.aload_n 0, 1) := by decide +kernel
theorem dX3_becomeAs_123 : decode cX3_becomeAs 123 = .ok (.aload_n 1, 1) := by decide +kernel
theorem dX3_becomeAs_124 : decode cX3_becomeAs 124 = .ok (.getfield 59, 3) := by decide +kernel
theorem dX3_becomeAs_127 : decode cX3_becomeAs 127 = .ok (.putfield 59, 3) := by decide +kernel
theorem dX3_becomeAs_130 : decode cX3_becomeAs 130 = .ok (.aload_n 0, 1) := by decide +kernel
theorem dX3_becomeAs_131 : decode cX3_becomeAs 131 = .ok (.aload_n 1, 1) := by decide +kernel
theorem dX3_becomeAs_132 : decode cX3_becomeAs 132 = .ok (.getfield 62, 3) := by decide +kernel
theorem dX3_becomeAs_135 : decode cX3_becomeAs 135 = .ok (.putfield 62, 3) := by decide +kernel
theorem dX3_becomeAs_138 : decode cX3_becomeAs 138 = .ok (.return_, 1) := by decide +kernel
theorem dX3_hasThing_0 : decode cX3_hasThing 0 = .ok (.iload_n 1, 1) := by decide +kernel
theorem dX3_hasThing_1 : decode cX3_hasThing 1 = .ok (.ifCond .lt 15, 3) := by decide +kernel
theorem dX3_hasThing_4 : decode cX3_hasThing 4 = .ok (.iload_n 1, 1) := by decide +kernel
theorem dX3_hasThing_5 : decode cX3_hasThing 5 = .ok (.aload_n 0, 1) := by decide +kernel
theorem dX3_hasThing_6 : decode cX3_hasThing 6 = .ok (.getfield 53, 3) := by decide +kernel
theorem dX3_hasThing_9 : decode cX3_hasThing 9 = .ok (.if_icmp .ge 7, 3) := by decide +kernel
theorem dX3_hasThing_12 : decode cX3_hasThing 12 = .ok (.iconst 1, 1) := by decide +kernel
theorem dX3_hasThing_13 : decode cX3_hasThing 13 = .ok (.goto 4, 3) := by decide +kernel
theorem dX3_hasThing_16 : decode cX3_hasThing 16 = .ok (.iconst 0, 1) := by decide +kernel
theorem dX3_hasThing_17 : decode cX3_hasThing 17 = .ok (.ireturn, 1) := by decide +kernel
theorem dX3_hasNeighbour_0 : decode cX3_hasNeighbour 0 = .ok (.iload_n 1, 1) := by decide +kernel
theorem dX3_hasNeighbour_1 : decode cX3_hasNeighbour 1 = .ok (.ifCond .lt 15, 3) := by decide +kernel
theorem dX3_hasNeighbour_4 : decode cX3_hasNeighbour 4 = .ok (.iload_n 1, 1) := by decide +kernel
theorem dX3_hasNeighbour_5 : decode cX3_hasNeighbour 5 = .ok (.aload_n 0, 1) := by decide +kernel
theorem dX3_hasNeighbour_6 : decode cX3_hasNeighbour 6 = .ok (.getfield 59, 3) := by decide +kernel
theorem dX3_hasNeighbour_9 : decode cX3_hasNeighbour 9 = .ok (.if_icmp .ge 7, 3) := by decide +kernel
theorem dX3_hasNeighbour_12 : decode cX3_hasNeighbour 12 = .ok (.iconst 1, 1) := by decide +kernel
theorem dX3_hasNeighbour_13 : decode cX3_hasNeighbour 13 = .ok (.goto 4, 3) := by decide +kernel
theorem dX3_hasNeighbour_16 : decode cX3_hasNeighbour 16 = .ok (.iconst 0, 1) := by decide +kernel
theorem dX3_hasNeighbour_17 : decode cX3_hasNeighbour 17 = .ok (.ireturn, 1) := by decide +kernel
theorem dX3_addThing_0 : decode cX3_addThing 0 = .ok (.aload_n 0, 1) := by decide +kernel
theorem dX3_addThing_1 : decode cX3_addThing 1 = .ok (.getfield 53, 3) := by decide +kernel
theorem dX3_addThing_4 : decode cX3_addThing 4 = .ok (.bipush 8, 2) := by decide +kernel
theorem dX3_addThing_6 : decode cX3_addThing 6 = .ok (.if_icmp .lt 6, 3) := by decide +kernel
theorem dX3_addThing_9 : decode cX3_addThing 9 = .ok (.bipush (-4), 2) := by decide +kernel
theorem dX3_addThing_11 : decode cX3_addThing 11 = .ok (.ireturn, 1) := by decide +kernel
theorem dX3_addThing_12 : decode cX3_addThing 12 = .ok (.aload_n 0, 1) := by decide +kernel
theorem dX3_addThing_13 : decode cX3_addThing 13 = .ok (.getfield 9, 3) := by decide +kernel
theorem dX3_addThing_16 : decode cX3_addThing 16 = .ok (.aload_n 0, 1) := by decide +kernel
theorem dX3_addThing_17 : decode cX3_addThing 17 = .ok (.getfield 53, 3) := by decide +kernel
theorem dX3_addThing_20 : decode cX3_addThing 20 = .ok (.iload_n 1, 1) := by decide +kernel
theorem dX3_addThing_21 : decode cX3_addThing 21 = .ok (.iastore, 1) := by decide +kernel
theorem dX3_addThing_22 : decode cX3_addThing 22 = .ok (.aload_n 0, 1) := by decide +kernel
theorem dX3_addThing_23 : decode cX3_addThing 23 = .ok (.getfield 15, 3) := by decide +kernel
theorem dX3_addThing_26 : decode cX3_addThing 26 = .ok (.aload_n 0, 1) := by decide +kernel
theorem dX3_addThing_27 : decode cX3_addThing 27 = .ok (.getfield 53, 3) := by decide +kernel
theorem dX3_addThing_30 : decode cX3_addThing 30 = .ok (.iload_n 2, 1) := by decide +kernel
theorem dX3_addThing_31 : decode cX3_addThing 31 = .ok (.iastore, 1) := by decide +kernel
theorem dX3_addThing_32 : decode cX3_addThing 32 = .ok (.aload_n 0, 1) := by decide +kernel
theorem dX3_addThing_33 : decode cX3_addThing 33 = .ok (.dup, 1) := by decide +kernel
theorem dX3_addThing_34 : decode cX3_addThing 34 = .ok (.getfield 56, 3) := by decide +kernel
theorem dX3_addThing_37 : decode cX3_addThing 37 = .ok (.iconst 1, 1) := by decide +kernel
theorem dX3_addThing_38 : decode cX3_addThing 38 = .ok (.aload_n 0, 1) := by decide +kernel
theorem dX3_addThing_39 : decode cX3_addThing 39 = .ok (.getfield 53, 3) := by decide +kernel
theorem dX3_addThing_42 : decode cX3_addThing 42 = .ok (.ishl, 1) := by decide +kernel
theorem dX3_addThing_43 : decode cX3_addThing 43 = .ok (.iconst (-1), 1) := by decide +kernel
theorem dX3_addThing_44 : decode cX3_addThing 44 = .ok (.ixor, 1) := by decide +kernel
theorem dX3_addThing_45 : decode cX3_addThing 45 = .ok (.iand, 1) := by decide +kernel
theorem dX3_addThing_46 : decode cX3_addThing 46 = .ok (.putfield 56, 3) := by decide +kernel
theorem dX3_addThing_49 : decode cX3_addThing 49 = .ok (.aload_n 0, 1) := by decide +kernel
theorem dX3_addThing_50 : decode cX3_addThing 50 = .ok (.dup, 1) := by decide +kernel
theorem dX3_addThing_51 : decode cX3_addThing 51 = .ok (.getfield 53, 3) := by decide +kernel
theorem dX3_addThing_54 : decode cX3_addThing 54 = .ok (.iconst 1, 1) := by decide +kernel
theorem dX3_addThing_55 : decode cX3_addThing 55 = .ok (.iadd, 1) := by decide +kernel
theorem dX3_addThing_56 : decode cX3_addThing 56 = .ok (.putfield 53, 3) := by decide +kernel
theorem dX3_addThing_59 : decode cX3_addThing 59 = .ok (.aload_n 0, 1) := by decide +kernel
theorem dX3_addThing_60 : decode cX3_addThing 60 = .ok (.getfield 53, 3) := by decide +kernel
theorem dX3_addThing_63 : decode cX3_addThing 63 = .ok (.iconst 1, 1) := by decide +kernel
theorem dX3_addThing_64 : decode cX3_addThing 64 = .ok (.isub, 1) := by decide +kernel
theorem dX3_addThing_65 : decode cX3_addThing 65 = .ok (.ireturn, 1) := by decide +kernel
theorem dX3_addNeighbour_0 : decode cX3_addNeighbour 0 = .ok (.aload_n 0, 1) := by decide +kernel
theorem dX3_addNeighbour_1 : decode cX3_addNeighbour 1 = .ok (.getfield 59, 3) := by decide +kernel
theorem dX3_addNeighbour_4 : decode cX3_addNeighbour 4 = .ok (.iconst 5, 1) := by decide +kernel
theorem dX3_addNeighbour_5 : decode cX3_addNeighbour 5 = .ok (.if_icmp .lt 6, 3) := by decide +kernel
theorem dX3_addNeighbour_8 : decode cX3_addNeighbour 8 = .ok (.bipush (-4), 2) := by decide +kernel
theorem dX3_addNeighbour_10 : decode cX3_addNeighbour 10 = .ok (.ireturn, 1) := by decide +kernel
theorem dX3_addNeighbour_11 : decode cX3_addNeighbour 11 = .ok (.aload_n 0, 1) := by decide +kernel
theorem dX3_addNeighbour_12 : decode cX3_addNeighbour 12 = .ok (.getfield 18, 3) := by decide +kernel
theorem dX3_addNeighbour_15 : decode cX3_addNeighbour 15 = .ok (.aload_n 0, 1) := by decide +kernel
theorem dX3_addNeighbour_16 : decode cX3_addNeighbour 16 = .ok (.getfield 59, 3) := by decide +kernel
theorem dX3_addNeighbour_19 : decode cX3_addNeighbour 19 = .ok (.iload_n 1, 1) := by decide +kernel
theorem dX3_addNeighbour_20 : decode cX3_addNeighbour 20 = .ok (.iastore, 1) := by decide +kernel
theorem dX3_addNeighbour_21 : decode cX3_addNeighbour 21 = .ok (.aload_n 0, 1) := by decide +kernel
theorem dX3_addNeighbour_22 : decode cX3_addNeighbour 22 = .ok (.getfield 21, 3) := by decide +kernel
theorem dX3_addNeighbour_25 : decode cX3_addNeighbour 25 = .ok (.aload_n 0, 1) := by decide +kernel
theorem dX3_addNeighbour_26 : decode cX3_addNeighbour 26 = .ok (.getfield 59, 3) := by decide +kernel
theorem dX3_addNeighbour_29 : decode cX3_addNeighbour 29 = .ok (.iload_n 2, 1) := by decide +kernel
theorem dX3_addNeighbour_30 : decode cX3_addNeighbour 30 = .ok (.iastore, 1) := by decide +kernel
theorem dX3_addNeighbour_31 : decode cX3_addNeighbour 31 = .ok (.aload_n 0, 1) := by decide +kernel
theorem dX3_addNeighbour_32 : decode cX3_addNeighbour 32 = .ok (.aload_n 0, 1) := by decide +kernel
theorem dX3_addNeighbour_33 : decode cX3_addNeighbour 33 = .ok (.getfield 59, 3) := by decide +kernel
theorem dX3_addNeighbour_36 : decode cX3_addNeighbour 36 = .ok (.iconst 0, 1) := by decide +kernel
theorem dX3_addNeighbour_37 : decode cX3_addNeighbour 37 = .ok (.invokevirtual 65, 3) := by decide +kernel
theorem dX3_addNeighbour_40 : decode cX3_addNeighbour 40 = .ok (.aload_n 0, 1) := by decide +kernel
theorem dX3_addNeighbour_41 : decode cX3_addNeighbour 41 = .ok (.dup, 1) := by decide +kernel
theorem dX3_addNeighbour_42 : decode cX3_addNeighbour 42 = .ok (.getfield 59, 3) := by decide +kernel
theorem dX3_addNeighbour_45 : decode cX3_addNeighbour 45 = .ok (.iconst 1, 1) := by decide +kernel
theorem dX3_addNeighbour_46 : decode cX3_addNeighbour 46 = .ok (.iadd, 1) := by decide +kernel
theorem dX3_addNeighbour_47 : decode cX3_addNeighbour 47 = .ok (.putfield 59, 3) := by decide +kernel
theorem dX3_addNeighbour_50 : decode cX3_addNeighbour 50 = .ok (.aload_n 0, 1) := by decide +kernel
theorem dX3_addNeighbour_51 : decode cX3_addNeighbour 51 = .ok (.getfield 59, 3) := by decide +kernel
theorem dX3_addNeighbour_54 : decode cX3_addNeighbour 54 = .ok (.iconst 1, 1) := by decide +kernel
theorem dX3_addNeighbour_55 : decode cX3_addNeighbour 55 = .ok (.isub, 1) := by decide +kernel
theorem dX3_addNeighbour_56 : decode cX3_addNeighbour 56 = .ok (.ireturn, 1) := by decide +kernel
theorem dX3_knows_0 : decode cX3_knows 0 = .ok (.iload_n 1, 1) := by decide +kernel
theorem dX3_knows_1 : decode cX3_knows 1 = .ok (.tableswitch 63 5 13 #[51, 57, 57, 51, 51, 57, 57, 57, 57], 51) := by decide +kernel
theorem dX3_knows_52 : decode cX3_knows 52 = .ok (.aload_n 0, 1) := by decide +kernel
theorem dX3_knows_53 : decode cX3_knows 53 = .ok (.iload_n 2, 1) := by decide +kernel
theorem dX3_knows_54 : decode cX3_knows 54 = .ok (.invokevirtual 69, 3) := by decide +kernel
theorem dX3_knows_57 : decode cX3_knows 57 = .ok (.ireturn, 1) := by decide +kernel
theorem dX3_knows_58 : decode cX3_knows 58 = .ok (.aload_n 0, 1) := by decide +kernel
theorem dX3_knows_59 : decode cX3_knows 59 = .ok (.iload_n 2, 1) := by decide +kernel
theorem dX3_knows_60 : decode cX3_knows 60 = .ok (.invokevirtual 73, 3) := by decide +kernel
theorem dX3_knows_63 : decode cX3_knows 63 = .ok (.ireturn, 1) := by decide +kernel
theorem dX3_knows_64 : decode cX3_knows 64 = .ok (.iload_n 1, 1) := by decide +kernel
theorem dX3_knows_65 : decode cX3_knows 65 = .ok (.ifCond .lt 13, 3) := by decide +kernel
theorem dX3_knows_68 : decode cX3_knows 68 = .ok (.iload_n 1, 1) := by decide +kernel
theorem dX3_knows_69 : decode cX3_knows 69 = .ok (.bipush 16, 2) := by decide +kernel
theorem dX3_knows_71 : decode cX3_knows 71 = .ok (.if_icmp .gt 7, 3) := by decide +kernel
theorem dX3_knows_74 : decode cX3_knows 74 = .ok (.iconst 1, 1) := by decide +kernel
theorem dX3_knows_75 : decode cX3_knows 75 = .ok (.goto 4, 3) := by decide +kernel
theorem dX3_knows_78 : decode cX3_knows 78 = .ok (.iconst 0, 1) := by decide +kernel
theorem dX3_knows_79 : decode cX3_knows 79 = .ok (.ireturn, 1) := by decide +kernel
theorem dX3_amount_0 : decode cX3_amount 0 = .ok (.iload_n 1, 1) := by decide +kernel
theorem dX3_amount_1 : decode cX3_amount 1 = .ok (.tableswitch 198 0 15 #[79, 84, 89, 94, 99, 104, 111, 118, 132, 139, 153, 160, 167, 174, 188, 193], 79) := by decide +kernel
theorem dX3_amount_80 : decode cX3_amount 80 = .ok (.aload_n 0, 1) := by decide +kernel
theorem dX3_amount_81 : decode cX3_amount 81 = .ok (.getfield 38, 3) := by decide +kernel
theorem dX3_amount_84 : decode cX3_amount 84 = .ok (.ireturn, 1) := by decide +kernel
theorem dX3_amount_85 : decode cX3_amount 85 = .ok (.aload_n 0, 1) := by decide +kernel
theorem dX3_amount_86 : decode cX3_amount 86 = .ok (.getfield 24, 3) := by decide +kernel
theorem dX3_amount_89 : decode cX3_amount 89 = .ok (.ireturn, 1) := by decide +kernel
theorem dX3_amount_90 : decode cX3_amount 90 = .ok (.aload_n 0, 1) := by decide +kernel
theorem dX3_amount_91 : decode cX3_amount 91 = .ok (.getfield 41, 3) := by decide +kernel
theorem dX3_amount_94 : decode cX3_amount 94 = .ok (.ireturn, 1) := by decide +kernel
theorem dX3_amount_95 : decode cX3_amount 95 = .ok (.aload_n 0, 1) := by decide +kernel
theorem dX3_amount_96 : decode cX3_amount 96 = .ok (.getfield 44, 3) := by decide +kernel
theorem dX3_amount_99 : decode cX3_amount 99 = .ok (.ireturn, 1) := by decide +kernel
theorem dX3_amount_100 : decode cX3_amount 100 = .ok (.aload_n 0, 1) := by decide +kernel
theorem dX3_amount_101 : decode cX3_amount 101 = .ok (.getfield 47, 3) := by decide +kernel
theorem dX3_amount_104 : decode cX3_amount 104 = .ok (.ireturn, 1) := by decide +kernel
theorem dX3_amount_105 : decode cX3_amount 105 = .ok (.aload_n 0, 1) := by decide +kernel
theorem dX3_amount_106 : decode cX3_amount 106 = .ok (.getfield 15, 3) := by decide +kernel
theorem dX3_amount_109 : decode cX3_amount 109 = .ok (.iload_n 2, 1) := by decide +kernel
theorem dX3_amount_110 : decode cX3_amount 110 = .ok (.iaload, 1) := by decide +kernel
theorem dX3_amount_111 : decode cX3_amount 111 = .ok (.ireturn, 1) := by decide +kernel
theorem dX3_amount_112 : decode cX3_amount 112 = .ok (.aload_n 0, 1) := by decide +kernel
theorem dX3_amount_113 : decode cX3_amount 113 = .ok (.getfield 21, 3) := by decide +kernel
theorem dX3_amount_116 : decode cX3_amount 116 = .ok (.iload_n 2, 1) := by decide +kernel
theorem dX3_amount_117 : decode cX3_amount 117 = .ok (.iaload, 1) := by decide +kernel
theorem dX3_amount_118 : decode cX3_amount 118 = .ok (.ireturn, 1) := by decide +kernel
theorem dX3_amount_119 : decode cX3_amount 119 = .ok (.aload_n 0, 1) := by decide +kernel
theorem dX3_amount_120 : decode cX3_amount 120 = .ok (.iload_n 2, 1) := by decide +kernel
theorem dX3_amount_121 : decode cX3_amount 121 = .ok (.invokevirtual 76, 3) := by decide +kernel
theorem dX3_amount_124 : decode cX3_amount 124 = .ok (.ifCond .eq 7, 3) := by decide +kernel
theorem dX3_amount_127 : decode cX3_amount 127 = .ok (.iconst 1, 1) := by decide +kernel
theorem dX3_amount_128 : decode cX3_amount 128 = .ok (.goto 4, 3) := by decide +kernel
theorem dX3_amount_131 : decode cX3_amount 131 = .ok (.iconst 0, 1) := by decide +kernel
theorem dX3_amount_132 : decode cX3_amount 132 = .ok (.ireturn, 1) := by decide +kernel
theorem dX3_amount_133 : decode cX3_amount 133 = .ok (.aload_n 0, 1) := by decide +kernel
theorem dX3_amount_134 : decode cX3_amount 134 = .ok (.getfield 9, 3) := by decide +kernel
theorem dX3_amount_137 : decode cX3_amount 137 = .ok (.iload_n 2, 1) := by decide +kernel
theorem dX3_amount_138 : decode cX3_amount 138 = .ok (.iaload, 1) := by decide +kernel
theorem dX3_amount_139 : decode cX3_amount 139 = .ok (.ireturn, 1) := by decide +kernel
theorem dX3_amount_140 : decode cX3_amount 140 = .ok (.aload_n 0, 1) := by decide +kernel
theorem dX3_amount_141 : decode cX3_amount 141 = .ok (.iload_n 2, 1) := by decide +kernel
theorem dX3_amount_142 : decode cX3_amount 142 = .ok (.invokevirtual 79, 3) := by decide +kernel
theorem dX3_amount_145 : decode cX3_amount 145 = .ok (.ifCond .eq 7, 3) := by decide +kernel
theorem dX3_amount_148 : decode cX3_amount 148 = .ok (.iconst 1, 1) := by decide +kernel
theorem dX3_amount_149 : decode cX3_amount 149 = .ok (.goto 4, 3) := by decide +kernel
theorem dX3_amount_152 : decode cX3_amount 152 = .ok (.iconst 0, 1) := by decide +kernel
theorem dX3_amount_153 : decode cX3_amount 153 = .ok (.ireturn, 1) := by decide +kernel
theorem dX3_amount_154 : decode cX3_amount 154 = .ok (.aload_n 0, 1) := by decide +kernel
theorem dX3_amount_155 : decode cX3_amount 155 = .ok (.getfield 18, 3) := by decide +kernel
theorem dX3_amount_158 : decode cX3_amount 158 = .ok (.iload_n 2, 1) := by decide +kernel
theorem dX3_amount_159 : decode cX3_amount 159 = .ok (.iaload, 1) := by decide +kernel
theorem dX3_amount_160 : decode cX3_amount 160 = .ok (.ireturn, 1) := by decide +kernel
theorem dX3_amount_161 : decode cX3_amount 161 = .ok (.aload_n 0, 1) := by decide +kernel
theorem dX3_amount_162 : decode cX3_amount 162 = .ok (.iload_n 2, 1) := by decide +kernel
theorem dX3_amount_163 : decode cX3_amount 163 = .ok (.iconst 0, 1) := by decide +kernel
theorem dX3_amount_164 : decode cX3_amount 164 = .ok (.invokevirtual 82, 3) := by decide +kernel
theorem dX3_amount_167 : decode cX3_amount 167 = .ok (.ireturn, 1) := by decide +kernel
theorem dX3_amount_168 : decode cX3_amount 168 = .ok (.aload_n 0, 1) := by decide +kernel
theorem dX3_amount_169 : decode cX3_amount 169 = .ok (.iload_n 2, 1) := by decide +kernel
theorem dX3_amount_170 : decode cX3_amount 170 = .ok (.iconst 1, 1) := by decide +kernel
theorem dX3_amount_171 : decode cX3_amount 171 = .ok (.invokevirtual 82, 3) := by decide +kernel
theorem dX3_amount_174 : decode cX3_amount 174 = .ok (.ireturn, 1) := by decide +kernel
theorem dX3_amount_175 : decode cX3_amount 175 = .ok (.aload_n 0, 1) := by decide +kernel
theorem dX3_amount_176 : decode cX3_amount 176 = .ok (.iload_n 2, 1) := by decide +kernel
theorem dX3_amount_177 : decode cX3_amount 177 = .ok (.invokevirtual 86, 3) := by decide +kernel
theorem dX3_amount_180 : decode cX3_amount 180 = .ok (.ifCond .eq 7, 3) := by decide +kernel
theorem dX3_amount_183 : decode cX3_amount 183 = .ok (.iconst 1, 1) := by decide +kernel
theorem dX3_amount_184 : decode cX3_amount 184 = .ok (.goto 4, 3) := by decide +kernel
theorem dX3_amount_187 : decode cX3_amount 187 = .ok (.iconst 0, 1) := by decide +kernel
theorem dX3_amount_188 : decode cX3_amount 188 = .ok (.ireturn, 1) := by decide +kernel
theorem dX3_amount_189 : decode cX3_amount 189 = .ok (.aload_n 0, 1) := by decide +kernel
theorem dX3_amount_190 : decode cX3_amount 190 = .ok (.invokevirtual 89, 3) := by decide +kernel
theorem dX3_amount_193 : decode cX3_amount 193 = .ok (.ireturn, 1) := by decide +kernel
theorem dX3_amount_194 : decode cX3_amount 194 = .ok (.aload_n 0, 1) := by decide +kernel
theorem dX3_amount_195 : decode cX3_amount 195 = .ok (.invokevirtual 93, 3) := by decide +kernel
theorem dX3_amount_198 : decode cX3_amount 198 = .ok (.ireturn, 1) := by decide +kernel
theorem dX3_amount_199 : decode cX3_amount 199 = .ok (.aload_n 0, 1) := by decide +kernel
theorem dX3_amount_200 : decode cX3_amount 200 = .ok (.invokevirtual 96, 3) := by decide +kernel
theorem dX3_amount_203 : decode cX3_amount 203 = .ok (.ireturn, 1) := by decide +kernel
theorem dX3_become_0 : decode cX3_become 0 = .ok (.iload_n 1, 1) := by decide +kernel
theorem dX3_become_1 : decode cX3_become 1 = .ok (.tableswitch 103 0 6 #[43, 51, 59, 67, 75, 83, 93], 43) := by decide +kernel
theorem dX3_become_44 : decode cX3_become 44 = .ok (.aload_n 0, 1) := by decide +kernel
theorem dX3_become_45 : decode cX3_become 45 = .ok (.iload_n 3, 1) := by decide +kernel
theorem dX3_become_46 : decode cX3_become 46 = .ok (.putfield 38, 3) := by decide +kernel
theorem dX3_become_49 : decode cX3_become 49 = .ok (.goto 61, 3) := by decide +kernel
theorem dX3_become_52 : decode cX3_become 52 = .ok (.aload_n 0, 1) := by decide +kernel
theorem dX3_become_53 : decode cX3_become 53 = .ok (.iload_n 3, 1) := by decide +kernel
theorem dX3_become_54 : decode cX3_become 54 = .ok (.putfield 24, 3) := by decide +kernel
theorem dX3_become_57 : decode cX3_become 57 = .ok (.goto 53, 3) := by decide +kernel
theorem dX3_become_60 : decode cX3_become 60 = .ok (.aload_n 0, 1) := by decide +kernel
theorem dX3_become_61 : decode cX3_become 61 = .ok (.iload_n 3, 1) := by decide +kernel
theorem dX3_become_62 : decode cX3_become 62 = .ok (.putfield 41, 3) := by decide +kernel
theorem dX3_become_65 : decode cX3_become 65 = .ok (.goto 45, 3) := by decide +kernel
theorem dX3_become_68 : decode cX3_become 68 = .ok (.aload_n 0, 1) := by decide +kernel
theorem dX3_become_69 : decode cX3_become 69 = .ok (.iload_n 3, 1) := by decide +kernel
theorem dX3_become_70 : decode cX3_become 70 = .ok (.putfield 44, 3) := by decide +kernel
theorem dX3_become_73 : decode cX3_become 73 = .ok (.goto 37, 3) := by decide +kernel
theorem dX3_become_76 : decode cX3_become 76 = .ok (.aload_n 0, 1) := by decide +kernel
theorem dX3_become_77 : decode cX3_become 77 = .ok (.iload_n 3, 1) := by decide +kernel
theorem dX3_become_78 : decode cX3_become 78 = .ok (.putfield 47, 3) := by decide +kernel
theorem dX3_become_81 : decode cX3_become 81 = .ok (.goto 29, 3) := by decide +kernel
theorem dX3_become_84 : decode cX3_become 84 = .ok (.aload_n 0, 1) := by decide +kernel
theorem dX3_become_85 : decode cX3_become 85 = .ok (.getfield 15, 3) := by decide +kernel
theorem dX3_become_88 : decode cX3_become 88 = .ok (.iload_n 2, 1) := by decide +kernel
theorem dX3_become_89 : decode cX3_become 89 = .ok (.iload_n 3, 1) := by decide +kernel
theorem dX3_become_90 : decode cX3_become 90 = .ok (.iastore, 1) := by decide +kernel
theorem dX3_become_91 : decode cX3_become 91 = .ok (.goto 19, 3) := by decide +kernel
theorem dX3_become_94 : decode cX3_become 94 = .ok (.aload_n 0, 1) := by decide +kernel
theorem dX3_become_95 : decode cX3_become 95 = .ok (.getfield 21, 3) := by decide +kernel
theorem dX3_become_98 : decode cX3_become 98 = .ok (.iload_n 2, 1) := by decide +kernel
theorem dX3_become_99 : decode cX3_become 99 = .ok (.iload_n 3, 1) := by decide +kernel
theorem dX3_become_100 : decode cX3_become 100 = .ok (.iastore, 1) := by decide +kernel
theorem dX3_become_101 : decode cX3_become 101 = .ok (.goto 9, 3) := by decide +kernel
theorem dX3_become_104 : decode cX3_become 104 = .ok (.aload_n 0, 1) := by decide +kernel
theorem dX3_become_105 : decode cX3_become 105 = .ok (.iload_n 2, 1) := by decide +kernel
theorem dX3_become_106 : decode cX3_become 106 = .ok (.iload_n 3, 1) := by decide +kernel
theorem dX3_become_107 : decode cX3_become 107 = .ok (.invokevirtual 65, 3) := by decide +kernel
theorem dX3_become_110 : decode cX3_become 110 = .ok (.return_, 1) := by decide +kernel
theorem dX3_isIn_0 : decode cX3_isIn 0 = .ok (.aload_n 0, 1) := by decide +kernel
theorem dX3_isIn_1 : decode cX3_isIn 1 = .ok (.getfield 56, 3) := by decide +kernel
theorem dX3_isIn_4 : decode cX3_isIn 4 = .ok (.iload_n 1, 1) := by decide +kernel
theorem dX3_isIn_5 : decode cX3_isIn 5 = .ok (.ishr, 1) := by decide +kernel
theorem dX3_isIn_6 : decode cX3_isIn 6 = .ok (.iconst 1, 1) := by decide +kernel
theorem dX3_isIn_7 : decode cX3_isIn 7 = .ok (.iand, 1) := by decide +kernel
theorem dX3_isIn_8 : decode cX3_isIn 8 = .ok (.iconst 1, 1) := by decide +kernel
theorem dX3_isIn_9 : decode cX3_isIn 9 = .ok (.if_icmp .ne 7, 3) := by decide +kernel
theorem dX3_isIn_12 : decode cX3_isIn 12 = .ok (.iconst 1, 1) := by decide +kernel
theorem dX3_isIn_13 : decode cX3_isIn 13 = .ok (.goto 4, 3) := by decide +kernel
theorem dX3_isIn_16 : decode cX3_isIn 16 = .ok (.iconst 0, 1) := by decide +kernel
theorem dX3_isIn_17 : decode cX3_isIn 17 = .ok (.ireturn, 1) := by decide +kernel
theorem dX3_isAsked_0 : decode cX3_isAsked 0 = .ok (.aload_n 0, 1) := by decide +kernel
theorem dX3_isAsked_1 : decode cX3_isAsked 1 = .ok (.getfield 62, 3) := by decide +kernel
theorem dX3_isAsked_4 : decode cX3_isAsked 4 = .ok (.iload_n 1, 1) := by decide +kernel
theorem dX3_isAsked_5 : decode cX3_isAsked 5 = .ok (.ishr, 1) := by decide +kernel
theorem dX3_isAsked_6 : decode cX3_isAsked 6 = .ok (.iconst 1, 1) := by decide +kernel
theorem dX3_isAsked_7 : decode cX3_isAsked 7 = .ok (.iand, 1) := by decide +kernel
theorem dX3_isAsked_8 : decode cX3_isAsked 8 = .ok (.iconst 1, 1) := by decide +kernel
theorem dX3_isAsked_9 : decode cX3_isAsked 9 = .ok (.if_icmp .ne 7, 3) := by decide +kernel
theorem dX3_isAsked_12 : decode cX3_isAsked 12 = .ok (.iconst 1, 1) := by decide +kernel
theorem dX3_isAsked_13 : decode cX3_isAsked 13 = .ok (.goto 4, 3) := by decide +kernel
theorem dX3_isAsked_16 : decode cX3_isAsked 16 = .ok (.iconst 0, 1) := by decide +kernel
theorem dX3_isAsked_17 : decode cX3_isAsked 17 = .ok (.ireturn, 1) := by decide +kernel
theorem dX3_becomeAsked_0 : decode cX3_becomeAsked 0 = .ok (.aload_n 0, 1) := by decide +kernel
theorem dX3_becomeAsked_1 : decode cX3_becomeAsked 1 = .ok (.aload_n 0, 1) := by decide +kernel
theorem dX3_becomeAsked_2 : decode cX3_becomeAsked 2 = .ok (.getfield 62, 3) := by decide +kernel
theorem dX3_becomeAsked_5 : decode cX3_becomeAsked 5 = .ok (.iconst 1, 1) := by decide +kernel
theorem dX3_becomeAsked_6 : decode cX3_becomeAsked 6 = .ok (.iload_n 1, 1) := by decide +kernel
theorem dX3_becomeAsked_7 : decode cX3_becomeAsked 7 = .ok (.ishl, 1) := by decide +kernel
theorem dX3_becomeAsked_8 : decode cX3_becomeAsked 8 = .ok (.iconst (-1), 1) := by decide +kernel
theorem dX3_becomeAsked_9 : decode cX3_becomeAsked 9 = .ok (.ixor, 1) := by decide +kernel
theorem dX3_becomeAsked_10 : decode cX3_becomeAsked 10 = .ok (.iand, 1) := by decide +kernel
theorem dX3_becomeAsked_11 : decode cX3_becomeAsked 11 = .ok (.iload_n 2, 1) := by decide +kernel
theorem dX3_becomeAsked_12 : decode cX3_becomeAsked 12 = .ok (.iload_n 1, 1) := by decide +kernel
theorem dX3_becomeAsked_13 : decode cX3_becomeAsked 13 = .ok (.ishl, 1) := by decide +kernel
theorem dX3_becomeAsked_14 : decode cX3_becomeAsked 14 = .ok (.ior, 1) := by decide +kernel
theorem dX3_becomeAsked_15 : decode cX3_becomeAsked 15 = .ok (.putfield 62, 3) := by decide +kernel
theorem dX3_becomeAsked_18 : decode cX3_becomeAsked 18 = .ok (.return_, 1) := by decide +kernel
theorem dX3_full_0 : decode cX3_full 0 = .ok (.aload_n 0, 1) := by decide +kernel
theorem dX3_full_1 : decode cX3_full 1 = .ok (.getfield 44, 3) := by decide +kernel
theorem dX3_full_4 : decode cX3_full 4 = .ok (.aload_n 0, 1) := by decide +kernel
theorem dX3_full_5 : decode cX3_full 5 = .ok (.getfield 47, 3) := by decide +kernel
theorem dX3_full_8 : decode cX3_full 8 = .ok (.iadd, 1) := by decide +kernel
theorem dX3_full_9 : decode cX3_full 9 = .ok (.ireturn, 1) := by decide +kernel
theorem dX3_room_0 : decode cX3_room 0 = .ok (.aload_n 0, 1) := by decide +kernel
theorem dX3_room_1 : decode cX3_room 1 = .ok (.getfield 24, 3) := by decide +kernel
theorem dX3_room_4 : decode cX3_room 4 = .ok (.aload_n 0, 1) := by decide +kernel
theorem dX3_room_5 : decode cX3_room 5 = .ok (.invokevirtual 89, 3) := by decide +kernel
theorem dX3_room_8 : decode cX3_room 8 = .ok (.isub, 1) := by decide +kernel
theorem dX3_room_9 : decode cX3_room 9 = .ok (.iconst 0, 1) := by decide +kernel
theorem dX3_room_10 : decode cX3_room 10 = .ok (.invokestatic 99, 3) := by decide +kernel
theorem dX3_room_13 : decode cX3_room 13 = .ok (.ireturn, 1) := by decide +kernel
theorem dX3_bulkOf_0 : decode cX3_bulkOf 0 = .ok (.iconst 0, 1) := by decide +kernel
theorem dX3_bulkOf_1 : decode cX3_bulkOf 1 = .ok (.istore_n 2, 1) := by decide +kernel
theorem dX3_bulkOf_2 : decode cX3_bulkOf 2 = .ok (.iconst 0, 1) := by decide +kernel
theorem dX3_bulkOf_3 : decode cX3_bulkOf 3 = .ok (.istore_n 3, 1) := by decide +kernel
theorem dX3_bulkOf_4 : decode cX3_bulkOf 4 = .ok (.iload_n 3, 1) := by decide +kernel
theorem dX3_bulkOf_5 : decode cX3_bulkOf 5 = .ok (.aload_n 0, 1) := by decide +kernel
theorem dX3_bulkOf_6 : decode cX3_bulkOf 6 = .ok (.getfield 53, 3) := by decide +kernel
theorem dX3_bulkOf_9 : decode cX3_bulkOf 9 = .ok (.if_icmp .ge 27, 3) := by decide +kernel
theorem dX3_bulkOf_12 : decode cX3_bulkOf 12 = .ok (.iload_n 1, 1) := by decide +kernel
theorem dX3_bulkOf_13 : decode cX3_bulkOf 13 = .ok (.iload_n 3, 1) := by decide +kernel
theorem dX3_bulkOf_14 : decode cX3_bulkOf 14 = .ok (.ishr, 1) := by decide +kernel
theorem dX3_bulkOf_15 : decode cX3_bulkOf 15 = .ok (.iconst 1, 1) := by decide +kernel
theorem dX3_bulkOf_16 : decode cX3_bulkOf 16 = .ok (.iand, 1) := by decide +kernel
theorem dX3_bulkOf_17 : decode cX3_bulkOf 17 = .ok (.iconst 1, 1) := by decide +kernel
theorem dX3_bulkOf_18 : decode cX3_bulkOf 18 = .ok (.if_icmp .ne 12, 3) := by decide +kernel
theorem dX3_bulkOf_21 : decode cX3_bulkOf 21 = .ok (.iload_n 2, 1) := by decide +kernel
theorem dX3_bulkOf_22 : decode cX3_bulkOf 22 = .ok (.aload_n 0, 1) := by decide +kernel
theorem dX3_bulkOf_23 : decode cX3_bulkOf 23 = .ok (.getfield 9, 3) := by decide +kernel
theorem dX3_bulkOf_26 : decode cX3_bulkOf 26 = .ok (.iload_n 3, 1) := by decide +kernel
theorem dX3_bulkOf_27 : decode cX3_bulkOf 27 = .ok (.iaload, 1) := by decide +kernel
theorem dX3_bulkOf_28 : decode cX3_bulkOf 28 = .ok (.iadd, 1) := by decide +kernel
theorem dX3_bulkOf_29 : decode cX3_bulkOf 29 = .ok (.istore_n 2, 1) := by decide +kernel
theorem dX3_bulkOf_30 : decode cX3_bulkOf 30 = .ok (.iinc 3 1, 3) := by decide +kernel
theorem dX3_bulkOf_33 : decode cX3_bulkOf 33 = .ok (.goto (-29), 3) := by decide +kernel
theorem dX3_bulkOf_36 : decode cX3_bulkOf 36 = .ok (.iload_n 2, 1) := by decide +kernel
theorem dX3_bulkOf_37 : decode cX3_bulkOf 37 = .ok (.ireturn, 1) := by decide +kernel
theorem dX3_left_0 : decode cX3_left 0 = .ok (.aload_n 0, 1) := by decide +kernel
theorem dX3_left_1 : decode cX3_left 1 = .ok (.aload_n 0, 1) := by decide +kernel
theorem dX3_left_2 : decode cX3_left 2 = .ok (.getfield 56, 3) := by decide +kernel
theorem dX3_left_5 : decode cX3_left 5 = .ok (.iconst (-1), 1) := by decide +kernel
theorem dX3_left_6 : decode cX3_left 6 = .ok (.ixor, 1) := by decide +kernel
theorem dX3_left_7 : decode cX3_left 7 = .ok (.invokevirtual 105, 3) := by decide +kernel
theorem dX3_left_10 : decode cX3_left 10 = .ok (.ireturn, 1) := by decide +kernel
theorem dX3_takes_0 : decode cX3_takes 0 = .ok (.aload_n 0, 1) := by decide +kernel
theorem dX3_takes_1 : decode cX3_takes 1 = .ok (.iload_n 1, 1) := by decide +kernel
theorem dX3_takes_2 : decode cX3_takes 2 = .ok (.invokevirtual 79, 3) := by decide +kernel
theorem dX3_takes_5 : decode cX3_takes 5 = .ok (.ifCond .ne 20, 3) := by decide +kernel
theorem dX3_takes_8 : decode cX3_takes 8 = .ok (.aload_n 0, 1) := by decide +kernel
theorem dX3_takes_9 : decode cX3_takes 9 = .ok (.getfield 9, 3) := by decide +kernel
theorem dX3_takes_12 : decode cX3_takes 12 = .ok (.iload_n 1, 1) := by decide +kernel
theorem dX3_takes_13 : decode cX3_takes 13 = .ok (.iaload, 1) := by decide +kernel
theorem dX3_takes_14 : decode cX3_takes 14 = .ok (.aload_n 0, 1) := by decide +kernel
theorem dX3_takes_15 : decode cX3_takes 15 = .ok (.invokevirtual 93, 3) := by decide +kernel
theorem dX3_takes_18 : decode cX3_takes 18 = .ok (.if_icmp .gt 7, 3) := by decide +kernel
theorem dX3_takes_21 : decode cX3_takes 21 = .ok (.iconst 1, 1) := by decide +kernel
theorem dX3_takes_22 : decode cX3_takes 22 = .ok (.goto 4, 3) := by decide +kernel
theorem dX3_takes_25 : decode cX3_takes 25 = .ok (.iconst 0, 1) := by decide +kernel
theorem dX3_takes_26 : decode cX3_takes 26 = .ok (.ireturn, 1) := by decide +kernel
theorem dX3_putIn_0 : decode cX3_putIn 0 = .ok (.aload_n 0, 1) := by decide +kernel
theorem dX3_putIn_1 : decode cX3_putIn 1 = .ok (.dup, 1) := by decide +kernel
theorem dX3_putIn_2 : decode cX3_putIn 2 = .ok (.getfield 56, 3) := by decide +kernel
theorem dX3_putIn_5 : decode cX3_putIn 5 = .ok (.iconst 1, 1) := by decide +kernel
theorem dX3_putIn_6 : decode cX3_putIn 6 = .ok (.iload_n 1, 1) := by decide +kernel
theorem dX3_putIn_7 : decode cX3_putIn 7 = .ok (.ishl, 1) := by decide +kernel
theorem dX3_putIn_8 : decode cX3_putIn 8 = .ok (.ior, 1) := by decide +kernel
theorem dX3_putIn_9 : decode cX3_putIn 9 = .ok (.putfield 56, 3) := by decide +kernel
theorem dX3_putIn_12 : decode cX3_putIn 12 = .ok (.aload_n 0, 1) := by decide +kernel
theorem dX3_putIn_13 : decode cX3_putIn 13 = .ok (.dup, 1) := by decide +kernel
theorem dX3_putIn_14 : decode cX3_putIn 14 = .ok (.getfield 44, 3) := by decide +kernel
theorem dX3_putIn_17 : decode cX3_putIn 17 = .ok (.aload_n 0, 1) := by decide +kernel
theorem dX3_putIn_18 : decode cX3_putIn 18 = .ok (.getfield 9, 3) := by decide +kernel
theorem dX3_putIn_21 : decode cX3_putIn 21 = .ok (.iload_n 1, 1) := by decide +kernel
theorem dX3_putIn_22 : decode cX3_putIn 22 = .ok (.iaload, 1) := by decide +kernel
theorem dX3_putIn_23 : decode cX3_putIn 23 = .ok (.iadd, 1) := by decide +kernel
theorem dX3_putIn_24 : decode cX3_putIn 24 = .ok (.putfield 44, 3) := by decide +kernel
theorem dX3_putIn_27 : decode cX3_putIn 27 = .ok (.return_, 1) := by decide +kernel
theorem dX3_passAll_0 : decode cX3_passAll 0 = .ok (.iconst 0, 1) := by decide +kernel
theorem dX3_passAll_1 : decode cX3_passAll 1 = .ok (.istore_n 3, 1) := by decide +kernel
theorem dX3_passAll_2 : decode cX3_passAll 2 = .ok (.iconst 0, 1) := by decide +kernel
theorem dX3_passAll_3 : decode cX3_passAll 3 = .ok (.istore 4, 2) := by decide +kernel
theorem dX3_passAll_5 : decode cX3_passAll 5 = .ok (.iload 4, 2) := by decide +kernel
theorem dX3_passAll_7 : decode cX3_passAll 7 = .ok (.iload_n 1, 1) := by decide +kernel
theorem dX3_passAll_8 : decode cX3_passAll 8 = .ok (.if_icmp .ge 31, 3) := by decide +kernel
theorem dX3_passAll_11 : decode cX3_passAll 11 = .ok (.iload_n 3, 1) := by decide +kernel
theorem dX3_passAll_12 : decode cX3_passAll 12 = .ok (.aload_n 0, 1) := by decide +kernel
theorem dX3_passAll_13 : decode cX3_passAll 13 = .ok (.iload_n 2, 1) := by decide +kernel
theorem dX3_passAll_14 : decode cX3_passAll 14 = .ok (.iload 4, 2) := by decide +kernel
theorem dX3_passAll_16 : decode cX3_passAll 16 = .ok (.ishr, 1) := by decide +kernel
theorem dX3_passAll_17 : decode cX3_passAll 17 = .ok (.iconst 1, 1) := by decide +kernel
theorem dX3_passAll_18 : decode cX3_passAll 18 = .ok (.iand, 1) := by decide +kernel
theorem dX3_passAll_19 : decode cX3_passAll 19 = .ok (.iconst 1, 1) := by decide +kernel
theorem dX3_passAll_20 : decode cX3_passAll 20 = .ok (.if_icmp .ne 7, 3) := by decide +kernel
theorem dX3_passAll_23 : decode cX3_passAll 23 = .ok (.iconst 1, 1) := by decide +kernel
theorem dX3_passAll_24 : decode cX3_passAll 24 = .ok (.goto 4, 3) := by decide +kernel
theorem dX3_passAll_27 : decode cX3_passAll 27 = .ok (.iconst 0, 1) := by decide +kernel
theorem dX3_passAll_28 : decode cX3_passAll 28 = .ok (.invokevirtual 109, 3) := by decide +kernel
theorem dX3_passAll_31 : decode cX3_passAll 31 = .ok (.iadd, 1) := by decide +kernel
theorem dX3_passAll_32 : decode cX3_passAll 32 = .ok (.istore_n 3, 1) := by decide +kernel
theorem dX3_passAll_33 : decode cX3_passAll 33 = .ok (.iinc 4 1, 3) := by decide +kernel
theorem dX3_passAll_36 : decode cX3_passAll 36 = .ok (.goto (-31), 3) := by decide +kernel
theorem dX3_passAll_39 : decode cX3_passAll 39 = .ok (.iload_n 3, 1) := by decide +kernel
theorem dX3_passAll_40 : decode cX3_passAll 40 = .ok (.ireturn, 1) := by decide +kernel
theorem dX3_pass_0 : decode cX3_pass 0 = .ok (.aload_n 0, 1) := by decide +kernel
theorem dX3_pass_1 : decode cX3_pass 1 = .ok (.invokevirtual 113, 3) := by decide +kernel
theorem dX3_pass_4 : decode cX3_pass 4 = .ok (.iconst 0, 1) := by decide +kernel
theorem dX3_pass_5 : decode cX3_pass 5 = .ok (.istore_n 2, 1) := by decide +kernel
theorem dX3_pass_6 : decode cX3_pass 6 = .ok (.iconst 0, 1) := by decide +kernel
theorem dX3_pass_7 : decode cX3_pass 7 = .ok (.istore_n 3, 1) := by decide +kernel
theorem dX3_pass_8 : decode cX3_pass 8 = .ok (.iload_n 3, 1) := by decide +kernel
theorem dX3_pass_9 : decode cX3_pass 9 = .ok (.aload_n 0, 1) := by decide +kernel
theorem dX3_pass_10 : decode cX3_pass 10 = .ok (.getfield 59, 3) := by decide +kernel
theorem dX3_pass_13 : decode cX3_pass 13 = .ok (.if_icmp .ge 83, 3) := by decide +kernel
theorem dX3_pass_16 : decode cX3_pass 16 = .ok (.aload_n 0, 1) := by decide +kernel
theorem dX3_pass_17 : decode cX3_pass 17 = .ok (.iload_n 3, 1) := by decide +kernel
theorem dX3_pass_18 : decode cX3_pass 18 = .ok (.invokevirtual 86, 3) := by decide +kernel
theorem dX3_pass_21 : decode cX3_pass 21 = .ok (.ifCond .ne 6, 3) := by decide +kernel
theorem dX3_pass_24 : decode cX3_pass 24 = .ok (.goto 66, 3) := by decide +kernel
theorem dX3_pass_27 : decode cX3_pass 27 = .ok (.aload_n 0, 1) := by decide +kernel
theorem dX3_pass_28 : decode cX3_pass 28 = .ok (.iload_n 3, 1) := by decide +kernel
theorem dX3_pass_29 : decode cX3_pass 29 = .ok (.iload_n 1, 1) := by decide +kernel
theorem dX3_pass_30 : decode cX3_pass 30 = .ok (.invokevirtual 82, 3) := by decide +kernel
theorem dX3_pass_33 : decode cX3_pass 33 = .ok (.istore 4, 2) := by decide +kernel
theorem dX3_pass_35 : decode cX3_pass 35 = .ok (.iload 4, 2) := by decide +kernel
theorem dX3_pass_37 : decode cX3_pass 37 = .ok (.iconst 0, 1) := by decide +kernel
theorem dX3_pass_38 : decode cX3_pass 38 = .ok (.invokestatic 99, 3) := by decide +kernel
theorem dX3_pass_41 : decode cX3_pass 41 = .ok (.aload_n 0, 1) := by decide +kernel
theorem dX3_pass_42 : decode cX3_pass 42 = .ok (.invokevirtual 93, 3) := by decide +kernel
theorem dX3_pass_45 : decode cX3_pass 45 = .ok (.invokestatic 116, 3) := by decide +kernel
theorem dX3_pass_48 : decode cX3_pass 48 = .ok (.istore 5, 2) := by decide +kernel
theorem dX3_pass_50 : decode cX3_pass 50 = .ok (.iload 4, 2) := by decide +kernel
theorem dX3_pass_52 : decode cX3_pass 52 = .ok (.ineg, 1) := by decide +kernel
theorem dX3_pass_53 : decode cX3_pass 53 = .ok (.iconst 0, 1) := by decide +kernel
theorem dX3_pass_54 : decode cX3_pass 54 = .ok (.invokestatic 99, 3) := by decide +kernel
theorem dX3_pass_57 : decode cX3_pass 57 = .ok (.aload_n 0, 1) := by decide +kernel
theorem dX3_pass_58 : decode cX3_pass 58 = .ok (.getfield 47, 3) := by decide +kernel
theorem dX3_pass_61 : decode cX3_pass 61 = .ok (.invokestatic 116, 3) := by decide +kernel
theorem dX3_pass_64 : decode cX3_pass 64 = .ok (.istore 6, 2) := by decide +kernel
theorem dX3_pass_66 : decode cX3_pass 66 = .ok (.iload_n 2, 1) := by decide +kernel
theorem dX3_pass_67 : decode cX3_pass 67 = .ok (.aload_n 0, 1) := by decide +kernel
theorem dX3_pass_68 : decode cX3_pass 68 = .ok (.iload_n 3, 1) := by decide +kernel
theorem dX3_pass_69 : decode cX3_pass 69 = .ok (.iload 5, 2) := by decide +kernel
theorem dX3_pass_71 : decode cX3_pass 71 = .ok (.invokevirtual 119, 3) := by decide +kernel
theorem dX3_pass_74 : decode cX3_pass 74 = .ok (.iadd, 1) := by decide +kernel
theorem dX3_pass_75 : decode cX3_pass 75 = .ok (.istore_n 2, 1) := by decide +kernel
theorem dX3_pass_76 : decode cX3_pass 76 = .ok (.aload_n 0, 1) := by decide +kernel
theorem dX3_pass_77 : decode cX3_pass 77 = .ok (.dup, 1) := by decide +kernel
theorem dX3_pass_78 : decode cX3_pass 78 = .ok (.getfield 47, 3) := by decide +kernel
theorem dX3_pass_81 : decode cX3_pass 81 = .ok (.iload 5, 2) := by decide +kernel
theorem dX3_pass_83 : decode cX3_pass 83 = .ok (.iload 6, 2) := by decide +kernel
theorem dX3_pass_85 : decode cX3_pass 85 = .ok (.isub, 1) := by decide +kernel
theorem dX3_pass_86 : decode cX3_pass 86 = .ok (.iadd, 1) := by decide +kernel
theorem dX3_pass_87 : decode cX3_pass 87 = .ok (.putfield 47, 3) := by decide +kernel
theorem dX3_pass_90 : decode cX3_pass 90 = .ok (.iinc 3 1, 3) := by decide +kernel
theorem dX3_pass_93 : decode cX3_pass 93 = .ok (.goto (-85), 3) := by decide +kernel
theorem dX3_pass_96 : decode cX3_pass 96 = .ok (.aload_n 0, 1) := by decide +kernel
theorem dX3_pass_97 : decode cX3_pass 97 = .ok (.dup, 1) := by decide +kernel
theorem dX3_pass_98 : decode cX3_pass 98 = .ok (.getfield 38, 3) := by decide +kernel
theorem dX3_pass_101 : decode cX3_pass 101 = .ok (.iconst 1, 1) := by decide +kernel
theorem dX3_pass_102 : decode cX3_pass 102 = .ok (.iadd, 1) := by decide +kernel
theorem dX3_pass_103 : decode cX3_pass 103 = .ok (.putfield 38, 3) := by decide +kernel
theorem dX3_pass_106 : decode cX3_pass 106 = .ok (.iload_n 2, 1) := by decide +kernel
theorem dX3_pass_107 : decode cX3_pass 107 = .ok (.ireturn, 1) := by decide +kernel
theorem dX3_putReadyIn_0 : decode cX3_putReadyIn 0 = .ok (.iconst 0, 1) := by decide +kernel
theorem dX3_putReadyIn_1 : decode cX3_putReadyIn 1 = .ok (.istore_n 1, 1) := by decide +kernel
theorem dX3_putReadyIn_2 : decode cX3_putReadyIn 2 = .ok (.iload_n 1, 1) := by decide +kernel
theorem dX3_putReadyIn_3 : decode cX3_putReadyIn 3 = .ok (.aload_n 0, 1) := by decide +kernel
theorem dX3_putReadyIn_4 : decode cX3_putReadyIn 4 = .ok (.getfield 53, 3) := by decide +kernel
theorem dX3_putReadyIn_7 : decode cX3_putReadyIn 7 = .ok (.if_icmp .ge 35, 3) := by decide +kernel
theorem dX3_putReadyIn_10 : decode cX3_putReadyIn 10 = .ok (.aload_n 0, 1) := by decide +kernel
theorem dX3_putReadyIn_11 : decode cX3_putReadyIn 11 = .ok (.getfield 15, 3) := by decide +kernel
theorem dX3_putReadyIn_14 : decode cX3_putReadyIn 14 = .ok (.iload_n 1, 1) := by decide +kernel
theorem dX3_putReadyIn_15 : decode cX3_putReadyIn 15 = .ok (.iaload, 1) := by decide +kernel
theorem dX3_putReadyIn_16 : decode cX3_putReadyIn 16 = .ok (.aload_n 0, 1) := by decide +kernel
theorem dX3_putReadyIn_17 : decode cX3_putReadyIn 17 = .ok (.getfield 38, 3) := by decide +kernel
theorem dX3_putReadyIn_20 : decode cX3_putReadyIn 20 = .ok (.if_icmp .gt 16, 3) := by decide +kernel
theorem dX3_putReadyIn_23 : decode cX3_putReadyIn 23 = .ok (.aload_n 0, 1) := by decide +kernel
theorem dX3_putReadyIn_24 : decode cX3_putReadyIn 24 = .ok (.iload_n 1, 1) := by decide +kernel
theorem dX3_putReadyIn_25 : decode cX3_putReadyIn 25 = .ok (.invokevirtual 122, 3) := by decide +kernel
theorem dX3_putReadyIn_28 : decode cX3_putReadyIn 28 = .ok (.ifCond .eq 8, 3) := by decide +kernel
theorem dX3_putReadyIn_31 : decode cX3_putReadyIn 31 = .ok (.aload_n 0, 1) := by decide +kernel
theorem dX3_putReadyIn_32 : decode cX3_putReadyIn 32 = .ok (.iload_n 1, 1) := by decide +kernel
theorem dX3_putReadyIn_33 : decode cX3_putReadyIn 33 = .ok (.invokevirtual 125, 3) := by decide +kernel
theorem dX3_putReadyIn_36 : decode cX3_putReadyIn 36 = .ok (.iinc 1 1, 3) := by decide +kernel
theorem dX3_putReadyIn_39 : decode cX3_putReadyIn 39 = .ok (.goto (-37), 3) := by decide +kernel
theorem dX3_putReadyIn_42 : decode cX3_putReadyIn 42 = .ok (.return_, 1) := by decide +kernel
theorem dX3_throwing_0 : decode cX3_throwing 0 = .ok (.aload_n 0, 1) := by decide +kernel
theorem dX3_throwing_1 : decode cX3_throwing 1 = .ok (.iload_n 1, 1) := by decide +kernel
theorem dX3_throwing_2 : decode cX3_throwing 2 = .ok (.iconst 0, 1) := by decide +kernel
theorem dX3_throwing_3 : decode cX3_throwing 3 = .ok (.invokevirtual 129, 3) := by decide +kernel
theorem dX3_throwing_6 : decode cX3_throwing 6 = .ok (.istore_n 3, 1) := by decide +kernel
theorem dX3_throwing_7 : decode cX3_throwing 7 = .ok (.iload_n 2, 1) := by decide +kernel
theorem dX3_throwing_8 : decode cX3_throwing 8 = .ok (.ifCond .eq 7, 3) := by decide +kernel
theorem dX3_throwing_11 : decode cX3_throwing 11 = .ok (.iconst 0, 1) := by decide +kernel
theorem dX3_throwing_12 : decode cX3_throwing 12 = .ok (.goto 4, 3) := by decide +kernel
theorem dX3_throwing_15 : decode cX3_throwing 15 = .ok (.iload_n 3, 1) := by decide +kernel
theorem dX3_throwing_16 : decode cX3_throwing 16 = .ok (.istore 4, 2) := by decide +kernel
theorem dX3_throwing_18 : decode cX3_throwing 18 = .ok (.aload_n 0, 1) := by decide +kernel
theorem dX3_throwing_19 : decode cX3_throwing 19 = .ok (.iload_n 1, 1) := by decide +kernel
theorem dX3_throwing_20 : decode cX3_throwing 20 = .ok (.invokevirtual 76, 3) := by decide +kernel
theorem dX3_throwing_23 : decode cX3_throwing 23 = .ok (.ifCond .eq 10, 3) := by decide +kernel
theorem dX3_throwing_26 : decode cX3_throwing 26 = .ok (.iconst 2, 1) := by decide +kernel
theorem dX3_throwing_27 : decode cX3_throwing 27 = .ok (.iload 4, 2) := by decide +kernel
theorem dX3_throwing_29 : decode cX3_throwing 29 = .ok (.imul, 1) := by decide +kernel
theorem dX3_throwing_30 : decode cX3_throwing 30 = .ok (.goto 5, 3) := by decide +kernel
theorem dX3_throwing_33 : decode cX3_throwing 33 = .ok (.iload 4, 2) := by decide +kernel
theorem dX3_throwing_35 : decode cX3_throwing 35 = .ok (.istore 5, 2) := by decide +kernel
theorem dX3_throwing_37 : decode cX3_throwing 37 = .ok (.aload_n 0, 1) := by decide +kernel
theorem dX3_throwing_38 : decode cX3_throwing 38 = .ok (.iload_n 1, 1) := by decide +kernel
theorem dX3_throwing_39 : decode cX3_throwing 39 = .ok (.iload_n 3, 1) := by decide +kernel
theorem dX3_throwing_40 : decode cX3_throwing 40 = .ok (.iload 4, 2) := by decide +kernel
theorem dX3_throwing_42 : decode cX3_throwing 42 = .ok (.iload 5, 2) := by decide +kernel
theorem dX3_throwing_44 : decode cX3_throwing 44 = .ok (.invokevirtual 132, 3) := by decide +kernel
theorem dX3_throwing_47 : decode cX3_throwing 47 = .ok (.bipush (-99), 2) := by decide +kernel
theorem dX3_throwing_49 : decode cX3_throwing 49 = .ok (.bipush 99, 2) := by decide +kernel
theorem dX3_throwing_51 : decode cX3_throwing 51 = .ok (.invokestatic 136, 3) := by decide +kernel
theorem dX3_throwing_54 : decode cX3_throwing 54 = .ok (.ireturn, 1) := by decide +kernel
theorem dX3_byKind_0 : decode cX3_byKind 0 = .ok (.aload_n 0, 1) := by decide +kernel
theorem dX3_byKind_1 : decode cX3_byKind 1 = .ok (.getfield 18, 3) := by decide +kernel
theorem dX3_byKind_4 : decode cX3_byKind 4 = .ok (.iload_n 1, 1) := by decide +kernel
theorem dX3_byKind_5 : decode cX3_byKind 5 = .ok (.iaload, 1) := by decide +kernel
theorem dX3_byKind_6 : decode cX3_byKind 6 = .ok (.tableswitch 77 1 5 #[34, 37, 40, 52, 70], 34) := by decide +kernel
theorem dX3_byKind_40 : decode cX3_byKind 40 = .ok (.iload 4, 2) := by decide +kernel
theorem dX3_byKind_42 : decode cX3_byKind 42 = .ok (.ireturn, 1) := by decide +kernel
theorem dX3_byKind_43 : decode cX3_byKind 43 = .ok (.iload_n 2, 1) := by decide +kernel
theorem dX3_byKind_44 : decode cX3_byKind 44 = .ok (.ineg, 1) := by decide +kernel
theorem dX3_byKind_45 : decode cX3_byKind 45 = .ok (.ireturn, 1) := by decide +kernel
theorem dX3_byKind_46 : decode cX3_byKind 46 = .ok (.iload 4, 2) := by decide +kernel
theorem dX3_byKind_48 : decode cX3_byKind 48 = .ok (.aload_n 0, 1) := by decide +kernel
theorem dX3_byKind_49 : decode cX3_byKind 49 = .ok (.getfield 21, 3) := by decide +kernel
theorem dX3_byKind_52 : decode cX3_byKind 52 = .ok (.iload_n 1, 1) := by decide +kernel
theorem dX3_byKind_53 : decode cX3_byKind 53 = .ok (.iaload, 1) := by decide +kernel
theorem dX3_byKind_54 : decode cX3_byKind 54 = .ok (.invokestatic 116, 3) := by decide +kernel
theorem dX3_byKind_57 : decode cX3_byKind 57 = .ok (.ireturn, 1) := by decide +kernel
theorem dX3_byKind_58 : decode cX3_byKind 58 = .ok (.aload_n 0, 1) := by decide +kernel
theorem dX3_byKind_59 : decode cX3_byKind 59 = .ok (.getfield 38, 3) := by decide +kernel
theorem dX3_byKind_62 : decode cX3_byKind 62 = .ok (.iconst 2, 1) := by decide +kernel
theorem dX3_byKind_63 : decode cX3_byKind 63 = .ok (.irem, 1) := by decide +kernel
theorem dX3_byKind_64 : decode cX3_byKind 64 = .ok (.ifCond .ne 10, 3) := by decide +kernel
theorem dX3_byKind_67 : decode cX3_byKind 67 = .ok (.bipush (-2), 2) := by decide +kernel
theorem dX3_byKind_69 : decode cX3_byKind 69 = .ok (.iload_n 2, 1) := by decide +kernel
theorem dX3_byKind_70 : decode cX3_byKind 70 = .ok (.imul, 1) := by decide +kernel
theorem dX3_byKind_71 : decode cX3_byKind 71 = .ok (.goto 4, 3) := by decide +kernel
theorem dX3_byKind_74 : decode cX3_byKind 74 = .ok (.iconst 0, 1) := by decide +kernel
theorem dX3_byKind_75 : decode cX3_byKind 75 = .ok (.ireturn, 1) := by decide +kernel
theorem dX3_byKind_76 : decode cX3_byKind 76 = .ok (.aload_n 0, 1) := by decide +kernel
theorem dX3_byKind_77 : decode cX3_byKind 77 = .ok (.getfield 21, 3) := by decide +kernel
theorem dX3_byKind_80 : decode cX3_byKind 80 = .ok (.iload_n 1, 1) := by decide +kernel
theorem dX3_byKind_81 : decode cX3_byKind 81 = .ok (.iaload, 1) := by decide +kernel
theorem dX3_byKind_82 : decode cX3_byKind 82 = .ok (.ireturn, 1) := by decide +kernel
theorem dX3_byKind_83 : decode cX3_byKind 83 = .ok (.iload_n 3, 1) := by decide +kernel
theorem dX3_byKind_84 : decode cX3_byKind 84 = .ok (.ireturn, 1) := by decide +kernel
theorem dX3_comes_0 : decode cX3_comes 0 = .ok (.aload_n 0, 1) := by decide +kernel
theorem dX3_comes_1 : decode cX3_comes 1 = .ok (.getfield 18, 3) := by decide +kernel
theorem dX3_comes_4 : decode cX3_comes 4 = .ok (.iload_n 1, 1) := by decide +kernel
theorem dX3_comes_5 : decode cX3_comes 5 = .ok (.iaload, 1) := by decide +kernel
theorem dX3_comes_6 : decode cX3_comes 6 = .ok (.tableswitch 127 1 5 #[34, 57, 79, 81, 112], 34) := by decide +kernel
theorem dX3_comes_40 : decode cX3_comes 40 = .ok (.aload_n 0, 1) := by decide +kernel
theorem dX3_comes_41 : decode cX3_comes 41 = .ok (.iload_n 1, 1) := by decide +kernel
theorem dX3_comes_42 : decode cX3_comes 42 = .ok (.invokevirtual 76, 3) := by decide +kernel
theorem dX3_comes_45 : decode cX3_comes 45 = .ok (.ifCond .eq 16, 3) := by decide +kernel
theorem dX3_comes_48 : decode cX3_comes 48 = .ok (.aload_n 0, 1) := by decide +kernel
theorem dX3_comes_49 : decode cX3_comes 49 = .ok (.iload_n 1, 1) := by decide +kernel
theorem dX3_comes_50 : decode cX3_comes 50 = .ok (.iconst 1, 1) := by decide +kernel
theorem dX3_comes_51 : decode cX3_comes 51 = .ok (.invokevirtual 129, 3) := by decide +kernel
theorem dX3_comes_54 : decode cX3_comes 54 = .ok (.ifCond .eq 7, 3) := by decide +kernel
theorem dX3_comes_57 : decode cX3_comes 57 = .ok (.iconst 1, 1) := by decide +kernel
theorem dX3_comes_58 : decode cX3_comes 58 = .ok (.goto 4, 3) := by decide +kernel
theorem dX3_comes_61 : decode cX3_comes 61 = .ok (.iconst 0, 1) := by decide +kernel
theorem dX3_comes_62 : decode cX3_comes 62 = .ok (.ireturn, 1) := by decide +kernel
theorem dX3_comes_63 : decode cX3_comes 63 = .ok (.aload_n 0, 1) := by decide +kernel
theorem dX3_comes_64 : decode cX3_comes 64 = .ok (.getfield 41, 3) := by decide +kernel
theorem dX3_comes_67 : decode cX3_comes 67 = .ok (.ifCond .ne 16, 3) := by decide +kernel
theorem dX3_comes_70 : decode cX3_comes 70 = .ok (.aload_n 0, 1) := by decide +kernel
theorem dX3_comes_71 : decode cX3_comes 71 = .ok (.iload_n 1, 1) := by decide +kernel
theorem dX3_comes_72 : decode cX3_comes 72 = .ok (.iconst 1, 1) := by decide +kernel
theorem dX3_comes_73 : decode cX3_comes 73 = .ok (.invokevirtual 129, 3) := by decide +kernel
theorem dX3_comes_76 : decode cX3_comes 76 = .ok (.ifCond .eq 7, 3) := by decide +kernel
theorem dX3_comes_79 : decode cX3_comes 79 = .ok (.iconst 1, 1) := by decide +kernel
theorem dX3_comes_80 : decode cX3_comes 80 = .ok (.goto 4, 3) := by decide +kernel
theorem dX3_comes_83 : decode cX3_comes 83 = .ok (.iconst 0, 1) := by decide +kernel
theorem dX3_comes_84 : decode cX3_comes 84 = .ok (.ireturn, 1) := by decide +kernel
theorem dX3_comes_85 : decode cX3_comes 85 = .ok (.iconst 1, 1) := by decide +kernel
theorem dX3_comes_86 : decode cX3_comes 86 = .ok (.ireturn, 1) := by decide +kernel
theorem dX3_comes_87 : decode cX3_comes 87 = .ok (.aload_n 0, 1) := by decide +kernel
theorem dX3_comes_88 : decode cX3_comes 88 = .ok (.invokevirtual 89, 3) := by decide +kernel
theorem dX3_comes_91 : decode cX3_comes 91 = .ok (.bipush 50, 2) := by decide +kernel
theorem dX3_comes_93 : decode cX3_comes 93 = .ok (.if_icmp .gt 19, 3) := by decide +kernel
theorem dX3_comes_96 : decode cX3_comes 96 = .ok (.aload_n 0, 1) := by decide +kernel
theorem dX3_comes_97 : decode cX3_comes 97 = .ok (.getfield 41, 3) := by decide +kernel
theorem dX3_comes_100 : decode cX3_comes 100 = .ok (.ifCond .ne 16, 3) := by decide +kernel
theorem dX3_comes_103 : decode cX3_comes 103 = .ok (.aload_n 0, 1) := by decide +kernel
theorem dX3_comes_104 : decode cX3_comes 104 = .ok (.iload_n 1, 1) := by decide +kernel
theorem dX3_comes_105 : decode cX3_comes 105 = .ok (.iconst 1, 1) := by decide +kernel
theorem dX3_comes_106 : decode cX3_comes 106 = .ok (.invokevirtual 129, 3) := by decide +kernel
theorem dX3_comes_109 : decode cX3_comes 109 = .ok (.ifCond .eq 7, 3) := by decide +kernel
theorem dX3_comes_112 : decode cX3_comes 112 = .ok (.iconst 1, 1) := by decide +kernel
theorem dX3_comes_113 : decode cX3_comes 113 = .ok (.goto 4, 3) := by decide +kernel
theorem dX3_comes_116 : decode cX3_comes 116 = .ok (.iconst 0, 1) := by decide +kernel
theorem dX3_comes_117 : decode cX3_comes 117 = .ok (.ireturn, 1) := by decide +kernel
theorem dX3_comes_118 : decode cX3_comes 118 = .ok (.aload_n 0, 1) := by decide +kernel
theorem dX3_comes_119 : decode cX3_comes 119 = .ok (.getfield 38, 3) := by decide +kernel
theorem dX3_comes_122 : decode cX3_comes 122 = .ok (.iconst 3, 1) := by decide +kernel
theorem dX3_comes_123 : decode cX3_comes 123 = .ok (.irem, 1) := by decide +kernel
theorem dX3_comes_124 : decode cX3_comes 124 = .ok (.ifCond .ne 7, 3) := by decide +kernel
theorem dX3_comes_127 : decode cX3_comes 127 = .ok (.iconst 1, 1) := by decide +kernel
theorem dX3_comes_128 : decode cX3_comes 128 = .ok (.goto 4, 3) := by decide +kernel
theorem dX3_comes_131 : decode cX3_comes 131 = .ok (.iconst 0, 1) := by decide +kernel
theorem dX3_comes_132 : decode cX3_comes 132 = .ok (.ireturn, 1) := by decide +kernel
theorem dX3_comes_133 : decode cX3_comes 133 = .ok (.aload_n 0, 1) := by decide +kernel
theorem dX3_comes_134 : decode cX3_comes 134 = .ok (.iload_n 1, 1) := by decide +kernel
theorem dX3_comes_135 : decode cX3_comes 135 = .ok (.iconst 1, 1) := by decide +kernel
theorem dX3_comes_136 : decode cX3_comes 136 = .ok (.invokevirtual 129, 3) := by decide +kernel
theorem dX3_comes_139 : decode cX3_comes 139 = .ok (.ifCond .eq 7, 3) := by decide +kernel
theorem dX3_comes_142 : decode cX3_comes 142 = .ok (.iconst 1, 1) := by decide +kernel
theorem dX3_comes_143 : decode cX3_comes 143 = .ok (.goto 4, 3) := by decide +kernel
theorem dX3_comes_146 : decode cX3_comes 146 = .ok (.iconst 0, 1) := by decide +kernel
theorem dX3_comes_147 : decode cX3_comes 147 = .ok (.ireturn, 1) := by decide +kernel
theorem dX3_paying_0 : decode cX3_paying 0 = .ok (.aload_n 0, 1) := by decide +kernel
theorem dX3_paying_1 : decode cX3_paying 1 = .ok (.iload_n 1, 1) := by decide +kernel
theorem dX3_paying_2 : decode cX3_paying 2 = .ok (.invokevirtual 76, 3) := by decide +kernel
theorem dX3_paying_5 : decode cX3_paying 5 = .ok (.ifCond .eq 14, 3) := by decide +kernel
theorem dX3_paying_8 : decode cX3_paying 8 = .ok (.aload_n 0, 1) := by decide +kernel
theorem dX3_paying_9 : decode cX3_paying 9 = .ok (.iload_n 1, 1) := by decide +kernel
theorem dX3_paying_10 : decode cX3_paying 10 = .ok (.iconst 2, 1) := by decide +kernel
theorem dX3_paying_11 : decode cX3_paying 11 = .ok (.invokevirtual 129, 3) := by decide +kernel
theorem dX3_paying_14 : decode cX3_paying 14 = .ok (.iload_n 2, 1) := by decide +kernel
theorem dX3_paying_15 : decode cX3_paying 15 = .ok (.imul, 1) := by decide +kernel
theorem dX3_paying_16 : decode cX3_paying 16 = .ok (.goto 4, 3) := by decide +kernel
theorem dX3_paying_19 : decode cX3_paying 19 = .ok (.iconst 0, 1) := by decide +kernel
theorem dX3_paying_20 : decode cX3_paying 20 = .ok (.istore_n 3, 1) := by decide +kernel
theorem dX3_paying_21 : decode cX3_paying 21 = .ok (.aload_n 0, 1) := by decide +kernel
theorem dX3_paying_22 : decode cX3_paying 22 = .ok (.getfield 18, 3) := by decide +kernel
theorem dX3_paying_25 : decode cX3_paying 25 = .ok (.iload_n 1, 1) := by decide +kernel
theorem dX3_paying_26 : decode cX3_paying 26 = .ok (.iaload, 1) := by decide +kernel
theorem dX3_paying_27 : decode cX3_paying 27 = .ok (.tableswitch 42 2 5 #[29, 38, 31, 29], 29) := by decide +kernel
theorem dX3_paying_56 : decode cX3_paying 56 = .ok (.iconst 0, 1) := by decide +kernel
theorem dX3_paying_57 : decode cX3_paying 57 = .ok (.ireturn, 1) := by decide +kernel
theorem dX3_paying_58 : decode cX3_paying 58 = .ok (.aload_n 0, 1) := by decide +kernel
theorem dX3_paying_59 : decode cX3_paying 59 = .ok (.getfield 21, 3) := by decide +kernel
theorem dX3_paying_62 : decode cX3_paying 62 = .ok (.iload_n 1, 1) := by decide +kernel
theorem dX3_paying_63 : decode cX3_paying 63 = .ok (.iaload, 1) := by decide +kernel
theorem dX3_paying_64 : decode cX3_paying 64 = .ok (.ireturn, 1) := by decide +kernel
theorem dX3_paying_65 : decode cX3_paying 65 = .ok (.iload_n 3, 1) := by decide +kernel
theorem dX3_paying_66 : decode cX3_paying 66 = .ok (.iconst 2, 1) := by decide +kernel
theorem dX3_paying_67 : decode cX3_paying 67 = .ok (.idiv, 1) := by decide +kernel
theorem dX3_paying_68 : decode cX3_paying 68 = .ok (.ireturn, 1) := by decide +kernel
theorem dX3_paying_69 : decode cX3_paying 69 = .ok (.iload_n 3, 1) := by decide +kernel
theorem dX3_paying_70 : decode cX3_paying 70 = .ok (.ireturn, 1) := by decide +kernel
theorem dX3_ruled_0 : decode cX3_ruled 0 = .ok (.aload_n 0, 1) := by decide +kernel
theorem dX3_ruled_1 : decode cX3_ruled 1 = .ok (.getfield 28, 3) := by decide +kernel
theorem dX3_ruled_4 : decode cX3_ruled 4 = .ok (.getfield 140, 3) := by decide +kernel
theorem dX3_ruled_7 : decode cX3_ruled 7 = .ok (.astore_n 3, 1) := by decide +kernel
theorem dX3_ruled_8 : decode cX3_ruled 8 = .ok (.aload_n 3, 1) := by decide +kernel
theorem dX3_ruled_9 : decode cX3_ruled 9 = .ok (.iconst 0, 1) := by decide +kernel
theorem dX3_ruled_10 : decode cX3_ruled 10 = .ok (.aload_n 0, 1) := by decide +kernel
theorem dX3_ruled_11 : decode cX3_ruled 11 = .ok (.invokevirtual 89, 3) := by decide +kernel
theorem dX3_ruled_14 : decode cX3_ruled 14 = .ok (.iastore, 1) := by decide +kernel
theorem dX3_ruled_15 : decode cX3_ruled 15 = .ok (.aload_n 3, 1) := by decide +kernel
theorem dX3_ruled_16 : decode cX3_ruled 16 = .ok (.iconst 1, 1) := by decide +kernel
theorem dX3_ruled_17 : decode cX3_ruled 17 = .ok (.aload_n 0, 1) := by decide +kernel
theorem dX3_ruled_18 : decode cX3_ruled 18 = .ok (.getfield 21, 3) := by decide +kernel
theorem dX3_ruled_21 : decode cX3_ruled 21 = .ok (.iload_n 1, 1) := by decide +kernel
theorem dX3_ruled_22 : decode cX3_ruled 22 = .ok (.iaload, 1) := by decide +kernel
theorem dX3_ruled_23 : decode cX3_ruled 23 = .ok (.iastore, 1) := by decide +kernel
theorem dX3_ruled_24 : decode cX3_ruled 24 = .ok (.aload_n 3, 1) := by decide +kernel
theorem dX3_ruled_25 : decode cX3_ruled 25 = .ok (.iconst 2, 1) := by decide +kernel
theorem dX3_ruled_26 : decode cX3_ruled 26 = .ok (.aload_n 0, 1) := by decide +kernel
theorem dX3_ruled_27 : decode cX3_ruled 27 = .ok (.getfield 38, 3) := by decide +kernel
theorem dX3_ruled_30 : decode cX3_ruled 30 = .ok (.iastore, 1) := by decide +kernel
theorem dX3_ruled_31 : decode cX3_ruled 31 = .ok (.aload_n 3, 1) := by decide +kernel
theorem dX3_ruled_32 : decode cX3_ruled 32 = .ok (.iconst 3, 1) := by decide +kernel
theorem dX3_ruled_33 : decode cX3_ruled 33 = .ok (.aload_n 0, 1) := by decide +kernel
theorem dX3_ruled_34 : decode cX3_ruled 34 = .ok (.getfield 41, 3) := by decide +kernel
theorem dX3_ruled_37 : decode cX3_ruled 37 = .ok (.iastore, 1) := by decide +kernel
theorem dX3_ruled_38 : decode cX3_ruled 38 = .ok (.aload_n 3, 1) := by decide +kernel
theorem dX3_ruled_39 : decode cX3_ruled 39 = .ok (.iconst 4, 1) := by decide +kernel
theorem dX3_ruled_40 : decode cX3_ruled 40 = .ok (.aload_n 0, 1) := by decide +kernel
theorem dX3_ruled_41 : decode cX3_ruled 41 = .ok (.iload_n 1, 1) := by decide +kernel
theorem dX3_ruled_42 : decode cX3_ruled 42 = .ok (.invokevirtual 76, 3) := by decide +kernel
theorem dX3_ruled_45 : decode cX3_ruled 45 = .ok (.ifCond .eq 7, 3) := by decide +kernel
theorem dX3_ruled_48 : decode cX3_ruled 48 = .ok (.iconst 1, 1) := by decide +kernel
theorem dX3_ruled_49 : decode cX3_ruled 49 = .ok (.goto 4, 3) := by decide +kernel
theorem dX3_ruled_52 : decode cX3_ruled 52 = .ok (.iconst 0, 1) := by decide +kernel
theorem dX3_ruled_53 : decode cX3_ruled 53 = .ok (.iastore, 1) := by decide +kernel
theorem dX3_ruled_54 : decode cX3_ruled 54 = .ok (.aload_n 3, 1) := by decide +kernel
theorem dX3_ruled_55 : decode cX3_ruled 55 = .ok (.iconst 5, 1) := by decide +kernel
theorem dX3_ruled_56 : decode cX3_ruled 56 = .ok (.aload_n 0, 1) := by decide +kernel
theorem dX3_ruled_57 : decode cX3_ruled 57 = .ok (.getfield 44, 3) := by decide +kernel
theorem dX3_ruled_60 : decode cX3_ruled 60 = .ok (.iastore, 1) := by decide +kernel
theorem dX3_ruled_61 : decode cX3_ruled 61 = .ok (.aload_n 0, 1) := by decide +kernel
theorem dX3_ruled_62 : decode cX3_ruled 62 = .ok (.getfield 28, 3) := by decide +kernel
theorem dX3_ruled_65 : decode cX3_ruled 65 = .ok (.aload_n 0, 1) := by decide +kernel
theorem dX3_ruled_66 : decode cX3_ruled 66 = .ok (.getfield 50, 3) := by decide +kernel
theorem dX3_ruled_69 : decode cX3_ruled 69 = .ok (.iload_n 2, 1) := by decide +kernel
theorem dX3_ruled_70 : decode cX3_ruled 70 = .ok (.invokevirtual 145, 3) := by decide +kernel
theorem dX3_ruled_73 : decode cX3_ruled 73 = .ok (.istore 4, 2) := by decide +kernel
theorem dX3_ruled_75 : decode cX3_ruled 75 = .ok (.iload_n 2, 1) := by decide +kernel
theorem dX3_ruled_76 : decode cX3_ruled 76 = .ok (.lookupswitch 47 #[(0, 28), (2, 38)], 28) := by decide +kernel
theorem dX3_ruled_104 : decode cX3_ruled 104 = .ok (.iload 4, 2) := by decide +kernel
theorem dX3_ruled_106 : decode cX3_ruled 106 = .ok (.bipush (-99), 2) := by decide +kernel
theorem dX3_ruled_108 : decode cX3_ruled 108 = .ok (.bipush 99, 2) := by decide +kernel
theorem dX3_ruled_110 : decode cX3_ruled 110 = .ok (.invokestatic 136, 3) := by decide +kernel
theorem dX3_ruled_113 : decode cX3_ruled 113 = .ok (.ireturn, 1) := by decide +kernel
theorem dX3_ruled_114 : decode cX3_ruled 114 = .ok (.iload 4, 2) := by decide +kernel
theorem dX3_ruled_116 : decode cX3_ruled 116 = .ok (.iconst 0, 1) := by decide +kernel
theorem dX3_ruled_117 : decode cX3_ruled 117 = .ok (.bipush 9, 2) := by decide +kernel
theorem dX3_ruled_119 : decode cX3_ruled 119 = .ok (.invokestatic 136, 3) := by decide +kernel
theorem dX3_ruled_122 : decode cX3_ruled 122 = .ok (.ireturn, 1) := by decide +kernel
theorem dX3_ruled_123 : decode cX3_ruled 123 = .ok (.iload 4, 2) := by decide +kernel
theorem dX3_ruled_125 : decode cX3_ruled 125 = .ok (.ireturn, 1) := by decide +kernel
theorem dX3_bounded_0 : decode cX3_bounded 0 = .ok (.iload_n 1, 1) := by decide +kernel
theorem dX3_bounded_1 : decode cX3_bounded 1 = .ok (.iload_n 0, 1) := by decide +kernel
theorem dX3_bounded_2 : decode cX3_bounded 2 = .ok (.iload_n 2, 1) := by decide +kernel
theorem dX3_bounded_3 : decode cX3_bounded 3 = .ok (.invokestatic 116, 3) := by decide +kernel
theorem dX3_bounded_6 : decode cX3_bounded 6 = .ok (.invokestatic 99, 3) := by decide +kernel
theorem dX3_bounded_9 : decode cX3_bounded 9 = .ok (.ireturn, 1) := by decide +kernel
theorem dX4_init_0 : decode cX4_init 0 = .ok (.aload_n 0, 1) := by decide +kernel
theorem dX4_init_1 : decode cX4_init 1 = .ok (.invokespecial 3, 3) := by decide +kernel
theorem dX4_init_4 : decode cX4_init 4 = .ok (.aload_n 0, 1) := by decide +kernel
theorem dX4_init_5 : decode cX4_init 5 = .ok (.bipush 6, 2) := by decide +kernel
theorem dX4_init_7 : decode cX4_init 7 = .ok (.sipush 160, 3) := by decide +kernel
theorem dX4_init_10 : decode cX4_init 10 = .ok (.multianewarray 9 2, 4) := by decide +kernel
theorem dX4_init_14 : decode cX4_init 14 = .ok (.putfield 11, 3) := by decide +kernel
theorem dX4_init_17 : decode cX4_init 17 = .ok (.aload_n 0, 1) := by decide +kernel
theorem dX4_init_18 : decode cX4_init 18 = .ok (.bipush 6, 2) := by decide +kernel
theorem dX4_init_20 : decode cX4_init 20 = .ok (.iconst 3, 1) := by decide +kernel
theorem dX4_init_21 : decode cX4_init 21 = .ok (.multianewarray 9 2, 4) := by decide +kernel
theorem dX4_init_25 : decode cX4_init 25 = .ok (.putfield 16, 3) := by decide +kernel
theorem dX4_init_28 : decode cX4_init 28 = .ok (.aload_n 0, 1) := by decide +kernel
theorem dX4_init_29 : decode cX4_init 29 = .ok (.bipush 6, 2) := by decide +kernel
theorem dX4_init_31 : decode cX4_init 31 = .ok (.newarray .int, 2) := by decide +kernel
theorem dX4_init_33 : decode cX4_init 33 = .ok (.putfield 19, 3) := by decide +kernel
theorem dX4_init_36 : decode cX4_init 36 = .ok (.aload_n 0, 1) := by decide +kernel
theorem dX4_init_37 : decode cX4_init 37 = .ok (.bipush 32, 2) := by decide +kernel
theorem dX4_init_39 : decode cX4_init 39 = .ok (.newarray .int, 2) := by decide +kernel
theorem dX4_init_41 : decode cX4_init 41 = .ok (.putfield 23, 3) := by decide +kernel
theorem dX4_init_44 : decode cX4_init 44 = .ok (.aload_n 0, 1) := by decide +kernel
theorem dX4_init_45 : decode cX4_init 45 = .ok (.getfield 11, 3) := by decide +kernel
theorem dX4_init_48 : decode cX4_init 48 = .ok (.iconst 0, 1) := by decide +kernel
theorem dX4_init_49 : decode cX4_init 49 = .ok (.aaload, 1) := by decide +kernel
theorem dX4_init_50 : decode cX4_init 50 = .ok (.iconst 0, 1) := by decide +kernel
theorem dX4_init_51 : decode cX4_init 51 = .ok (.bipush 9, 2) := by decide +kernel
theorem dX4_init_53 : decode cX4_init 53 = .ok (.iastore, 1) := by decide +kernel
theorem dX4_init_54 : decode cX4_init 54 = .ok (.aload_n 0, 1) := by decide +kernel
theorem dX4_init_55 : decode cX4_init 55 = .ok (.getfield 11, 3) := by decide +kernel
theorem dX4_init_58 : decode cX4_init 58 = .ok (.iconst 0, 1) := by decide +kernel
theorem dX4_init_59 : decode cX4_init 59 = .ok (.aaload, 1) := by decide +kernel
theorem dX4_init_60 : decode cX4_init 60 = .ok (.iconst 1, 1) := by decide +kernel
theorem dX4_init_61 : decode cX4_init 61 = .ok (.iconst 1, 1) := by decide +kernel
theorem dX4_init_62 : decode cX4_init 62 = .ok (.iastore, 1) := by decide +kernel
theorem dX4_init_63 : decode cX4_init 63 = .ok (.aload_n 0, 1) := by decide +kernel
theorem dX4_init_64 : decode cX4_init 64 = .ok (.getfield 11, 3) := by decide +kernel
theorem dX4_init_67 : decode cX4_init 67 = .ok (.iconst 0, 1) := by decide +kernel
theorem dX4_init_68 : decode cX4_init 68 = .ok (.aaload, 1) := by decide +kernel
theorem dX4_init_69 : decode cX4_init 69 = .ok (.iconst 2, 1) := by decide +kernel
theorem dX4_init_70 : decode cX4_init 70 = .ok (.iconst 1, 1) := by decide +kernel
theorem dX4_init_71 : decode cX4_init 71 = .ok (.iastore, 1) := by decide +kernel
theorem dX4_init_72 : decode cX4_init 72 = .ok (.iconst 0, 1) := by decide +kernel
theorem dX4_init_73 : decode cX4_init 73 = .ok (.istore_n 1, 1) := by decide +kernel
theorem dX4_init_74 : decode cX4_init 74 = .ok (.iload_n 1, 1) := by decide +kernel
theorem dX4_init_75 : decode cX4_init 75 = .ok (.iconst 3, 1) := by decide +kernel
theorem dX4_init_76 : decode cX4_init 76 = .ok (.if_icmp .ge 20, 3) := by decide +kernel
theorem dX4_init_79 : decode cX4_init 79 = .ok (.aload_n 0, 1) := by decide +kernel
theorem dX4_init_80 : decode cX4_init 80 = .ok (.getfield 16, 3) := by decide +kernel
theorem dX4_init_83 : decode cX4_init 83 = .ok (.iconst 0, 1) := by decide +kernel
theorem dX4_init_84 : decode cX4_init 84 = .ok (.aaload, 1) := by decide +kernel
theorem dX4_init_85 : decode cX4_init 85 = .ok (.iload_n 1, 1) := by decide +kernel
theorem dX4_init_86 : decode cX4_init 86 = .ok (.iload_n 1, 1) := by decide +kernel
theorem dX4_init_87 : decode cX4_init 87 = .ok (.iconst 1, 1) := by decide +kernel
theorem dX4_init_88 : decode cX4_init 88 = .ok (.iadd, 1) := by decide +kernel
theorem dX4_init_89 : decode cX4_init 89 = .ok (.iastore, 1) := by decide +kernel
theorem dX4_init_90 : decode cX4_init 90 = .ok (.iinc 1 1, 3) := by decide +kernel
theorem dX4_init_93 : decode cX4_init 93 = .ok (.goto (-19), 3) := by decide +kernel
theorem dX4_init_96 : decode cX4_init 96 = .ok (.aload_n 0, 1) := by decide +kernel
theorem dX4_init_97 : decode cX4_init 97 = .ok (.iconst 1, 1) := by decide +kernel
theorem dX4_init_98 : decode cX4_init 98 = .ok (.putfield 26, 3) := by decide +kernel
theorem dX4_init_101 : decode cX4_init 101 = .ok (.return_, 1) := by decide +kernel
theorem dX4_value_0 : decode cX4_value 0 = .ok (.aload_n 0, 1) := by decide +kernel
theorem dX4_value_1 : decode cX4_value 1 = .ok (.getfield 11, 3) := by decide +kernel
theorem dX4_value_4 : decode cX4_value 4 = .ok (.iload_n 1, 1) := by decide +kernel
theorem dX4_value_5 : decode cX4_value 5 = .ok (.aaload, 1) := by decide +kernel
theorem dX4_value_6 : decode cX4_value 6 = .ok (.astore_n 3, 1) := by decide +kernel
theorem dX4_value_7 : decode cX4_value 7 = .ok (.aload_n 0, 1) := by decide +kernel
theorem dX4_value_8 : decode cX4_value 8 = .ok (.getfield 16, 3) := by decide +kernel
theorem dX4_value_11 : decode cX4_value 11 = .ok (.iload_n 1, 1) := by decide +kernel
theorem dX4_value_12 : decode cX4_value 12 = .ok (.aaload, 1) := by decide +kernel
theorem dX4_value_13 : decode cX4_value 13 = .ok (.iload_n 2, 1) := by decide +kernel
theorem dX4_value_14 : decode cX4_value 14 = .ok (.iaload, 1) := by decide +kernel
theorem dX4_value_15 : decode cX4_value 15 = .ok (.istore 4, 2) := by decide +kernel
theorem dX4_value_17 : decode cX4_value 17 = .ok (.iconst 0, 1) := by decide +kernel
theorem dX4_value_18 : decode cX4_value 18 = .ok (.istore 5, 2) := by decide +kernel
theorem dX4_value_20 : decode cX4_value 20 = .ok (.iload_n 2, 1) := by decide +kernel
theorem dX4_value_21 : decode cX4_value 21 = .ok (.ifCond .ne 7, 3) := by decide +kernel
theorem dX4_value_24 : decode cX4_value 24 = .ok (.iconst 0, 1) := by decide +kernel
theorem dX4_value_25 : decode cX4_value 25 = .ok (.goto 13, 3) := by decide +kernel
theorem dX4_value_28 : decode cX4_value 28 = .ok (.aload_n 0, 1) := by decide +kernel
theorem dX4_value_29 : decode cX4_value 29 = .ok (.getfield 16, 3) := by decide +kernel
theorem dX4_value_32 : decode cX4_value 32 = .ok (.iload_n 1, 1) := by decide +kernel
theorem dX4_value_33 : decode cX4_value 33 = .ok (.aaload, 1) := by decide +kernel
theorem dX4_value_34 : decode cX4_value 34 = .ok (.iload_n 2, 1) := by decide +kernel
theorem dX4_value_35 : decode cX4_value 35 = .ok (.iconst 1, 1) := by decide +kernel
theorem dX4_value_36 : decode cX4_value 36 = .ok (.isub, 1) := by decide +kernel
theorem dX4_value_37 : decode cX4_value 37 = .ok (.iaload, 1) := by decide +kernel
theorem dX4_value_38 : decode cX4_value 38 = .ok (.istore 6, 2) := by decide +kernel
theorem dX4_value_40 : decode cX4_value 40 = .ok (.iload 6, 2) := by decide +kernel
theorem dX4_value_42 : decode cX4_value 42 = .ok (.iload 4, 2) := by decide +kernel
theorem dX4_value_44 : decode cX4_value 44 = .ok (.if_icmp .ge 182, 3) := by decide +kernel
theorem dX4_value_47 : decode cX4_value 47 = .ok (.aload_n 3, 1) := by decide +kernel
theorem dX4_value_48 : decode cX4_value 48 = .ok (.iload 6, 2) := by decide +kernel
theorem dX4_value_50 : decode cX4_value 50 = .ok (.iaload, 1) := by decide +kernel
theorem dX4_value_51 : decode cX4_value 51 = .ok (.istore 7, 2) := by decide +kernel
theorem dX4_value_53 : decode cX4_value 53 = .ok (.iload 7, 2) := by decide +kernel
theorem dX4_value_55 : decode cX4_value 55 = .ok (.bipush (-6), 2) := by decide +kernel
theorem dX4_value_57 : decode cX4_value 57 = .ok (.if_icmp .lt 47, 3) := by decide +kernel
theorem dX4_value_60 : decode cX4_value 60 = .ok (.iload 5, 2) := by decide +kernel
theorem dX4_value_62 : decode cX4_value 62 = .ok (.aload_n 0, 1) := by decide +kernel
theorem dX4_value_63 : decode cX4_value 63 = .ok (.getfield 23, 3) := by decide +kernel
theorem dX4_value_66 : decode cX4_value 66 = .ok (.arraylength, 1) := by decide +kernel
theorem dX4_value_67 : decode cX4_value 67 = .ok (.if_icmp .lt 5, 3) := by decide +kernel
theorem dX4_value_70 : decode cX4_value 70 = .ok (.iconst 0, 1) := by decide +kernel
theorem dX4_value_71 : decode cX4_value 71 = .ok (.ireturn, 1) := by decide +kernel
theorem dX4_value_72 : decode cX4_value 72 = .ok (.aload_n 0, 1) := by decide +kernel
theorem dX4_value_73 : decode cX4_value 73 = .ok (.getfield 23, 3) := by decide +kernel
theorem dX4_value_76 : decode cX4_value 76 = .ok (.iload 5, 2) := by decide +kernel
theorem dX4_value_78 : decode cX4_value 78 = .ok (.iload 7, 2) := by decide +kernel
theorem dX4_value_80 : decode cX4_value 80 = .ok (.ifCond .lt 8, 3) := by decide +kernel
theorem dX4_value_83 : decode cX4_value 83 = .ok (.iload 7, 2) := by decide +kernel
theorem dX4_value_85 : decode cX4_value 85 = .ok (.goto 12, 3) := by decide +kernel
theorem dX4_value_88 : decode cX4_value 88 = .ok (.aload_n 0, 1) := by decide +kernel
theorem dX4_value_89 : decode cX4_value 89 = .ok (.getfield 19, 3) := by decide +kernel
theorem dX4_value_92 : decode cX4_value 92 = .ok (.iconst (-1), 1) := by decide +kernel
theorem dX4_value_93 : decode cX4_value 93 = .ok (.iload 7, 2) := by decide +kernel
theorem dX4_value_95 : decode cX4_value 95 = .ok (.isub, 1) := by decide +kernel
theorem dX4_value_96 : decode cX4_value 96 = .ok (.iaload, 1) := by decide +kernel
theorem dX4_value_97 : decode cX4_value 97 = .ok (.iastore, 1) := by decide +kernel
theorem dX4_value_98 : decode cX4_value 98 = .ok (.iinc 5 1, 3) := by decide +kernel
theorem dX4_value_101 : decode cX4_value 101 = .ok (.goto 119, 3) := by decide +kernel
theorem dX4_value_104 : decode cX4_value 104 = .ok (.iload 7, 2) := by decide +kernel
theorem dX4_value_106 : decode cX4_value 106 = .ok (.sipush (-1000), 3) := by decide +kernel
theorem dX4_value_109 : decode cX4_value 109 = .ok (.if_icmp .eq 10, 3) := by decide +kernel
theorem dX4_value_112 : decode cX4_value 112 = .ok (.iload 7, 2) := by decide +kernel
theorem dX4_value_114 : decode cX4_value 114 = .ok (.bipush (-12), 2) := by decide +kernel
theorem dX4_value_116 : decode cX4_value 116 = .ok (.if_icmp .ne 61, 3) := by decide +kernel
theorem dX4_value_119 : decode cX4_value 119 = .ok (.iload 5, 2) := by decide +kernel
theorem dX4_value_121 : decode cX4_value 121 = .ok (.iconst 1, 1) := by decide +kernel
theorem dX4_value_122 : decode cX4_value 122 = .ok (.if_icmp .ge 5, 3) := by decide +kernel
theorem dX4_value_125 : decode cX4_value 125 = .ok (.iconst 0, 1) := by decide +kernel
theorem dX4_value_126 : decode cX4_value 126 = .ok (.ireturn, 1) := by decide +kernel
theorem dX4_value_127 : decode cX4_value 127 = .ok (.aload_n 0, 1) := by decide +kernel
theorem dX4_value_128 : decode cX4_value 128 = .ok (.getfield 23, 3) := by decide +kernel
theorem dX4_value_131 : decode cX4_value 131 = .ok (.iload 5, 2) := by decide +kernel
theorem dX4_value_133 : decode cX4_value 133 = .ok (.iconst 1, 1) := by decide +kernel
theorem dX4_value_134 : decode cX4_value 134 = .ok (.isub, 1) := by decide +kernel
theorem dX4_value_135 : decode cX4_value 135 = .ok (.iload 7, 2) := by decide +kernel
theorem dX4_value_137 : decode cX4_value 137 = .ok (.sipush (-1000), 3) := by decide +kernel
theorem dX4_value_140 : decode cX4_value 140 = .ok (.if_icmp .ne 16, 3) := by decide +kernel
theorem dX4_value_143 : decode cX4_value 143 = .ok (.aload_n 0, 1) := by decide +kernel
theorem dX4_value_144 : decode cX4_value 144 = .ok (.getfield 23, 3) := by decide +kernel
theorem dX4_value_147 : decode cX4_value 147 = .ok (.iload 5, 2) := by decide +kernel
theorem dX4_value_149 : decode cX4_value 149 = .ok (.iconst 1, 1) := by decide +kernel
theorem dX4_value_150 : decode cX4_value 150 = .ok (.isub, 1) := by decide +kernel
theorem dX4_value_151 : decode cX4_value 151 = .ok (.iaload, 1) := by decide +kernel
theorem dX4_value_152 : decode cX4_value 152 = .ok (.ineg, 1) := by decide +kernel
theorem dX4_value_153 : decode cX4_value 153 = .ok (.goto 20, 3) := by decide +kernel
theorem dX4_value_156 : decode cX4_value 156 = .ok (.aload_n 0, 1) := by decide +kernel
theorem dX4_value_157 : decode cX4_value 157 = .ok (.getfield 23, 3) := by decide +kernel
theorem dX4_value_160 : decode cX4_value 160 = .ok (.iload 5, 2) := by decide +kernel
theorem dX4_value_162 : decode cX4_value 162 = .ok (.iconst 1, 1) := by decide +kernel
theorem dX4_value_163 : decode cX4_value 163 = .ok (.isub, 1) := by decide +kernel
theorem dX4_value_164 : decode cX4_value 164 = .ok (.iaload, 1) := by decide +kernel
theorem dX4_value_165 : decode cX4_value 165 = .ok (.ifCond .ne 7, 3) := by decide +kernel
theorem dX4_value_168 : decode cX4_value 168 = .ok (.iconst 1, 1) := by decide +kernel
theorem dX4_value_169 : decode cX4_value 169 = .ok (.goto 4, 3) := by decide +kernel
theorem dX4_value_172 : decode cX4_value 172 = .ok (.iconst 0, 1) := by decide +kernel
theorem dX4_value_173 : decode cX4_value 173 = .ok (.iastore, 1) := by decide +kernel
theorem dX4_value_174 : decode cX4_value 174 = .ok (.goto 46, 3) := by decide +kernel
theorem dX4_value_177 : decode cX4_value 177 = .ok (.iload 5, 2) := by decide +kernel
theorem dX4_value_179 : decode cX4_value 179 = .ok (.iconst 2, 1) := by decide +kernel
theorem dX4_value_180 : decode cX4_value 180 = .ok (.if_icmp .ge 5, 3) := by decide +kernel
theorem dX4_value_183 : decode cX4_value 183 = .ok (.iconst 0, 1) := by decide +kernel
theorem dX4_value_184 : decode cX4_value 184 = .ok (.ireturn, 1) := by decide +kernel
theorem dX4_value_185 : decode cX4_value 185 = .ok (.iinc 5 (-1), 3) := by decide +kernel
theorem dX4_value_188 : decode cX4_value 188 = .ok (.aload_n 0, 1) := by decide +kernel
theorem dX4_value_189 : decode cX4_value 189 = .ok (.getfield 23, 3) := by decide +kernel
theorem dX4_value_192 : decode cX4_value 192 = .ok (.iload 5, 2) := by decide +kernel
theorem dX4_value_194 : decode cX4_value 194 = .ok (.iconst 1, 1) := by decide +kernel
theorem dX4_value_195 : decode cX4_value 195 = .ok (.isub, 1) := by decide +kernel
theorem dX4_value_196 : decode cX4_value 196 = .ok (.iconst (-1), 1) := by decide +kernel
theorem dX4_value_197 : decode cX4_value 197 = .ok (.iload 7, 2) := by decide +kernel
theorem dX4_value_199 : decode cX4_value 199 = .ok (.isub, 1) := by decide +kernel
theorem dX4_value_200 : decode cX4_value 200 = .ok (.aload_n 0, 1) := by decide +kernel
theorem dX4_value_201 : decode cX4_value 201 = .ok (.getfield 23, 3) := by decide +kernel
theorem dX4_value_204 : decode cX4_value 204 = .ok (.iload 5, 2) := by decide +kernel
theorem dX4_value_206 : decode cX4_value 206 = .ok (.iconst 1, 1) := by decide +kernel
theorem dX4_value_207 : decode cX4_value 207 = .ok (.isub, 1) := by decide +kernel
theorem dX4_value_208 : decode cX4_value 208 = .ok (.iaload, 1) := by decide +kernel
theorem dX4_value_209 : decode cX4_value 209 = .ok (.aload_n 0, 1) := by decide +kernel
theorem dX4_value_210 : decode cX4_value 210 = .ok (.getfield 23, 3) := by decide +kernel
theorem dX4_value_213 : decode cX4_value 213 = .ok (.iload 5, 2) := by decide +kernel
theorem dX4_value_215 : decode cX4_value 215 = .ok (.iaload, 1) := by decide +kernel
theorem dX4_value_216 : decode cX4_value 216 = .ok (.invokestatic 32, 3) := by decide +kernel
theorem dX4_value_219 : decode cX4_value 219 = .ok (.iastore, 1) := by decide +kernel
theorem dX4_value_220 : decode cX4_value 220 = .ok (.iinc 6 1, 3) := by decide +kernel
theorem dX4_value_223 : decode cX4_value 223 = .ok (.goto (-183), 3) := by decide +kernel
theorem dX4_value_226 : decode cX4_value 226 = .ok (.iload 5, 2) := by decide +kernel
theorem dX4_value_228 : decode cX4_value 228 = .ok (.ifCond .le 15, 3) := by decide +kernel
theorem dX4_value_231 : decode cX4_value 231 = .ok (.aload_n 0, 1) := by decide +kernel
theorem dX4_value_232 : decode cX4_value 232 = .ok (.getfield 23, 3) := by decide +kernel
theorem dX4_value_235 : decode cX4_value 235 = .ok (.iload 5, 2) := by decide +kernel
theorem dX4_value_237 : decode cX4_value 237 = .ok (.iconst 1, 1) := by decide +kernel
theorem dX4_value_238 : decode cX4_value 238 = .ok (.isub, 1) := by decide +kernel
theorem dX4_value_239 : decode cX4_value 239 = .ok (.iaload, 1) := by decide +kernel
theorem dX4_value_240 : decode cX4_value 240 = .ok (.goto 4, 3) := by decide +kernel
theorem dX4_value_243 : decode cX4_value 243 = .ok (.iconst 0, 1) := by decide +kernel
theorem dX4_value_244 : decode cX4_value 244 = .ok (.ireturn, 1) := by decide +kernel
theorem dX4_joined_0 : decode cX4_joined 0 = .ok (.iload_n 0, 1) := by decide +kernel
theorem dX4_joined_1 : decode cX4_joined 1 = .ok (.lookupswitch 107 #[(10, 93), (42, 67), (43, 59), (45, 63), (60, 71), (61, 82)], 59) := by decide +kernel
theorem dX4_joined_60 : decode cX4_joined 60 = .ok (.iload_n 1, 1) := by decide +kernel
theorem dX4_joined_61 : decode cX4_joined 61 = .ok (.iload_n 2, 1) := by decide +kernel
theorem dX4_joined_62 : decode cX4_joined 62 = .ok (.iadd, 1) := by decide +kernel
theorem dX4_joined_63 : decode cX4_joined 63 = .ok (.ireturn, 1) := by decide +kernel
theorem dX4_joined_64 : decode cX4_joined 64 = .ok (.iload_n 1, 1) := by decide +kernel
theorem dX4_joined_65 : decode cX4_joined 65 = .ok (.iload_n 2, 1) := by decide +kernel
theorem dX4_joined_66 : decode cX4_joined 66 = .ok (.isub, 1) := by decide +kernel
theorem dX4_joined_67 : decode cX4_joined 67 = .ok (.ireturn, 1) := by decide +kernel
theorem dX4_joined_68 : decode cX4_joined 68 = .ok (.iload_n 1, 1) := by decide +kernel
theorem dX4_joined_69 : decode cX4_joined 69 = .ok (.iload_n 2, 1) := by decide +kernel
theorem dX4_joined_70 : decode cX4_joined 70 = .ok (.imul, 1) := by decide +kernel
theorem dX4_joined_71 : decode cX4_joined 71 = .ok (.ireturn, 1) := by decide +kernel
theorem dX4_joined_72 : decode cX4_joined 72 = .ok (.iload_n 1, 1) := by decide +kernel
theorem dX4_joined_73 : decode cX4_joined 73 = .ok (.iload_n 2, 1) := by decide +kernel
theorem dX4_joined_74 : decode cX4_joined 74 = .ok (.if_icmp .ge 7, 3) := by decide +kernel
theorem dX4_joined_77 : decode cX4_joined 77 = .ok (.iconst 1, 1) := by decide +kernel
theorem dX4_joined_78 : decode cX4_joined 78 = .ok (.goto 4, 3) := by decide +kernel
theorem dX4_joined_81 : decode cX4_joined 81 = .ok (.iconst 0, 1) := by decide +kernel
theorem dX4_joined_82 : decode cX4_joined 82 = .ok (.ireturn, 1) := by decide +kernel
theorem dX4_joined_83 : decode cX4_joined 83 = .ok (.iload_n 1, 1) := by decide +kernel
theorem dX4_joined_84 : decode cX4_joined 84 = .ok (.iload_n 2, 1) := by decide +kernel
theorem dX4_joined_85 : decode cX4_joined 85 = .ok (.if_icmp .ne 7, 3) := by decide +kernel
theorem dX4_joined_88 : decode cX4_joined 88 = .ok (.iconst 1, 1) := by decide +kernel
theorem dX4_joined_89 : decode cX4_joined 89 = .ok (.goto 4, 3) := by decide +kernel
theorem dX4_joined_92 : decode cX4_joined 92 = .ok (.iconst 0, 1) := by decide +kernel
theorem dX4_joined_93 : decode cX4_joined 93 = .ok (.ireturn, 1) := by decide +kernel
theorem dX4_joined_94 : decode cX4_joined 94 = .ok (.iload_n 1, 1) := by decide +kernel
theorem dX4_joined_95 : decode cX4_joined 95 = .ok (.ifCond .eq 11, 3) := by decide +kernel
theorem dX4_joined_98 : decode cX4_joined 98 = .ok (.iload_n 2, 1) := by decide +kernel
theorem dX4_joined_99 : decode cX4_joined 99 = .ok (.ifCond .eq 7, 3) := by decide +kernel
theorem dX4_joined_102 : decode cX4_joined 102 = .ok (.iconst 1, 1) := by decide +kernel
theorem dX4_joined_103 : decode cX4_joined 103 = .ok (.goto 4, 3) := by decide +kernel
theorem dX4_joined_106 : decode cX4_joined 106 = .ok (.iconst 0, 1) := by decide +kernel
theorem dX4_joined_107 : decode cX4_joined 107 = .ok (.ireturn, 1) := by decide +kernel
theorem dX4_joined_108 : decode cX4_joined 108 = .ok (.iload_n 1, 1) := by decide +kernel
theorem dX4_joined_109 : decode cX4_joined 109 = .ok (.ifCond .ne 7, 3) := by decide +kernel
theorem dX4_joined_112 : decode cX4_joined 112 = .ok (.iload_n 2, 1) := by decide +kernel
theorem dX4_joined_113 : decode cX4_joined 113 = .ok (.ifCond .eq 7, 3) := by decide +kernel
theorem dX4_joined_116 : decode cX4_joined 116 = .ok (.iconst 1, 1) := by decide +kernel
theorem dX4_joined_117 : decode cX4_joined 117 = .ok (.goto 4, 3) := by decide +kernel
theorem dX4_joined_120 : decode cX4_joined 120 = .ok (.iconst 0, 1) := by decide +kernel
theorem dX4_joined_121 : decode cX4_joined 121 = .ok (.ireturn, 1) := by decide +kernel
theorem dX5_init_0 : decode cX5_init 0 = .ok (.aload_n 0, 1) := by decide +kernel
theorem dX5_init_1 : decode cX5_init 1 = .ok (.invokespecial 1, 3) := by decide +kernel
theorem dX5_init_4 : decode cX5_init 4 = .ok (.aload_n 0, 1) := by decide +kernel
theorem dX5_init_5 : decode cX5_init 5 = .ok (.new 7, 3) := by decide +kernel
theorem dX5_init_8 : decode cX5_init 8 = .ok (.dup, 1) := by decide +kernel
theorem dX5_init_9 : decode cX5_init 9 = .ok (.invokespecial 9, 3) := by decide +kernel
theorem dX5_init_12 : decode cX5_init 12 = .ok (.putfield 10, 3) := by decide +kernel
theorem dX5_init_15 : decode cX5_init 15 = .ok (.aload_n 0, 1) := by decide +kernel
theorem dX5_init_16 : decode cX5_init 16 = .ok (.new 16, 3) := by decide +kernel
theorem dX5_init_19 : decode cX5_init 19 = .ok (.dup, 1) := by decide +kernel
theorem dX5_init_20 : decode cX5_init 20 = .ok (.invokespecial 18, 3) := by decide +kernel
theorem dX5_init_23 : decode cX5_init 23 = .ok (.putfield 19, 3) := by decide +kernel
theorem dX5_init_26 : decode cX5_init 26 = .ok (.aload_n 0, 1) := by decide +kernel
theorem dX5_init_27 : decode cX5_init 27 = .ok (.new 23, 3) := by decide +kernel
theorem dX5_init_30 : decode cX5_init 30 = .ok (.dup, 1) := by decide +kernel
theorem dX5_init_31 : decode cX5_init 31 = .ok (.aload_n 0, 1) := by decide +kernel
theorem dX5_init_32 : decode cX5_init 32 = .ok (.getfield 10, 3) := by decide +kernel
theorem dX5_init_35 : decode cX5_init 35 = .ok (.invokespecial 25, 3) := by decide +kernel
theorem dX5_init_38 : decode cX5_init 38 = .ok (.putfield 28, 3) := by decide +kernel
theorem dX5_init_41 : decode cX5_init 41 = .ok (.aload_n 0, 1) := by decide +kernel
theorem dX5_init_42 : decode cX5_init 42 = .ok (.new 23, 3) := by decide +kernel
theorem dX5_init_45 : decode cX5_init 45 = .ok (.dup, 1) := by decide +kernel
theorem dX5_init_46 : decode cX5_init 46 = .ok (.aload_n 0, 1) := by decide +kernel
theorem dX5_init_47 : decode cX5_init 47 = .ok (.getfield 10, 3) := by decide +kernel
theorem dX5_init_50 : decode cX5_init 50 = .ok (.invokespecial 25, 3) := by decide +kernel
theorem dX5_init_53 : decode cX5_init 53 = .ok (.putfield 32, 3) := by decide +kernel
theorem dX5_init_56 : decode cX5_init 56 = .ok (.aload_n 0, 1) := by decide +kernel
theorem dX5_init_57 : decode cX5_init 57 = .ok (.bipush 8, 2) := by decide +kernel
theorem dX5_init_59 : decode cX5_init 59 = .ok (.anewarray 23, 3) := by decide +kernel
theorem dX5_init_62 : decode cX5_init 62 = .ok (.putfield 35, 3) := by decide +kernel
theorem dX5_init_65 : decode cX5_init 65 = .ok (.iconst 0, 1) := by decide +kernel
theorem dX5_init_66 : decode cX5_init 66 = .ok (.istore_n 1, 1) := by decide +kernel
theorem dX5_init_67 : decode cX5_init 67 = .ok (.iload_n 1, 1) := by decide +kernel
theorem dX5_init_68 : decode cX5_init 68 = .ok (.aload_n 0, 1) := by decide +kernel
theorem dX5_init_69 : decode cX5_init 69 = .ok (.getfield 35, 3) := by decide +kernel
theorem dX5_init_72 : decode cX5_init 72 = .ok (.arraylength, 1) := by decide +kernel
theorem dX5_init_73 : decode cX5_init 73 = .ok (.if_icmp .ge 26, 3) := by decide +kernel
theorem dX5_init_76 : decode cX5_init 76 = .ok (.aload_n 0, 1) := by decide +kernel
theorem dX5_init_77 : decode cX5_init 77 = .ok (.getfield 35, 3) := by decide +kernel
theorem dX5_init_80 : decode cX5_init 80 = .ok (.iload_n 1, 1) := by decide +kernel
theorem dX5_init_81 : decode cX5_init 81 = .ok (.new 23, 3) := by decide +kernel
theorem dX5_init_84 : decode cX5_init 84 = .ok (.dup, 1) := by decide +kernel
theorem dX5_init_85 : decode cX5_init 85 = .ok (.aload_n 0, 1) := by decide +kernel
theorem dX5_init_86 : decode cX5_init 86 = .ok (.getfield 10, 3) := by decide +kernel
theorem dX5_init_89 : decode cX5_init 89 = .ok (.invokespecial 25, 3) := by decide +kernel
theorem dX5_init_92 : decode cX5_init 92 = .ok (.aastore, 1) := by decide +kernel
theorem dX5_init_93 : decode cX5_init 93 = .ok (.iinc 1 1, 3) := by decide +kernel
theorem dX5_init_96 : decode cX5_init 96 = .ok (.goto (-29), 3) := by decide +kernel
theorem dX5_init_99 : decode cX5_init 99 = .ok (.aload_n 0, 1) := by decide +kernel
theorem dX5_init_100 : decode cX5_init 100 = .ok (.new 39, 3) := by decide +kernel
theorem dX5_init_103 : decode cX5_init 103 = .ok (.dup, 1) := by decide +kernel
theorem dX5_init_104 : decode cX5_init 104 = .ok (.invokespecial 41, 3) := by decide +kernel
theorem dX5_init_107 : decode cX5_init 107 = .ok (.putfield 42, 3) := by decide +kernel
theorem dX5_init_110 : decode cX5_init 110 = .ok (.aload_n 0, 1) := by decide +kernel
theorem dX5_init_111 : decode cX5_init 111 = .ok (.iconst 4, 1) := by decide +kernel
theorem dX5_init_112 : decode cX5_init 112 = .ok (.anewarray 46, 3) := by decide +kernel
theorem dX5_init_115 : decode cX5_init 115 = .ok (.putfield 48, 3) := by decide +kernel
theorem dX5_init_118 : decode cX5_init 118 = .ok (.iconst 0, 1) := by decide +kernel
theorem dX5_init_119 : decode cX5_init 119 = .ok (.istore_n 1, 1) := by decide +kernel
theorem dX5_init_120 : decode cX5_init 120 = .ok (.iload_n 1, 1) := by decide +kernel
theorem dX5_init_121 : decode cX5_init 121 = .ok (.aload_n 0, 1) := by decide +kernel
theorem dX5_init_122 : decode cX5_init 122 = .ok (.getfield 48, 3) := by decide +kernel
theorem dX5_init_125 : decode cX5_init 125 = .ok (.arraylength, 1) := by decide +kernel
theorem dX5_init_126 : decode cX5_init 126 = .ok (.if_icmp .ge 22, 3) := by decide +kernel
theorem dX5_init_129 : decode cX5_init 129 = .ok (.aload_n 0, 1) := by decide +kernel
theorem dX5_init_130 : decode cX5_init 130 = .ok (.getfield 48, 3) := by decide +kernel
theorem dX5_init_133 : decode cX5_init 133 = .ok (.iload_n 1, 1) := by decide +kernel
theorem dX5_init_134 : decode cX5_init 134 = .ok (.new 46, 3) := by decide +kernel
theorem dX5_init_137 : decode cX5_init 137 = .ok (.dup, 1) := by decide +kernel
theorem dX5_init_138 : decode cX5_init 138 = .ok (.invokespecial 52, 3) := by decide +kernel
theorem dX5_init_141 : decode cX5_init 141 = .ok (.aastore, 1) := by decide +kernel
theorem dX5_init_142 : decode cX5_init 142 = .ok (.iinc 1 1, 3) := by decide +kernel
theorem dX5_init_145 : decode cX5_init 145 = .ok (.goto (-25), 3) := by decide +kernel
theorem dX5_init_148 : decode cX5_init 148 = .ok (.return_, 1) := by decide +kernel
theorem dX5_set_0 : decode cX5_set 0 = .ok (.iload_n 1, 1) := by decide +kernel
theorem dX5_set_1 : decode cX5_set 1 = .ok (.ifCond .lt 33, 3) := by decide +kernel
theorem dX5_set_4 : decode cX5_set 4 = .ok (.iload_n 1, 1) := by decide +kernel
theorem dX5_set_5 : decode cX5_set 5 = .ok (.bipush 7, 2) := by decide +kernel
theorem dX5_set_7 : decode cX5_set 7 = .ok (.if_icmp .gt 27, 3) := by decide +kernel
theorem dX5_set_10 : decode cX5_set 10 = .ok (.aload_n 0, 1) := by decide +kernel
theorem dX5_set_11 : decode cX5_set 11 = .ok (.getfield 28, 3) := by decide +kernel
theorem dX5_set_14 : decode cX5_set 14 = .ok (.iload_n 1, 1) := by decide +kernel
theorem dX5_set_15 : decode cX5_set 15 = .ok (.iload_n 2, 1) := by decide +kernel
theorem dX5_set_16 : decode cX5_set 16 = .ok (.invokevirtual 53, 3) := by decide +kernel
theorem dX5_set_19 : decode cX5_set 19 = .ok (.ifCond .eq 15, 3) := by decide +kernel
theorem dX5_set_22 : decode cX5_set 22 = .ok (.iload_n 3, 1) := by decide +kernel
theorem dX5_set_23 : decode cX5_set 23 = .ok (.iconst 0, 1) := by decide +kernel
theorem dX5_set_24 : decode cX5_set 24 = .ok (.iload_n 1, 1) := by decide +kernel
theorem dX5_set_25 : decode cX5_set 25 = .ok (.invokestatic 57, 3) := by decide +kernel
theorem dX5_set_28 : decode cX5_set 28 = .ok (.invokestatic 61, 3) := by decide +kernel
theorem dX5_set_31 : decode cX5_set 31 = .ok (.ifCond .ne 7, 3) := by decide +kernel
theorem dX5_set_34 : decode cX5_set 34 = .ok (.sipush (-1000), 3) := by decide +kernel
theorem dX5_set_37 : decode cX5_set 37 = .ok (.ireturn, 1) := by decide +kernel
theorem dX5_set_38 : decode cX5_set 38 = .ok (.aload_n 0, 1) := by decide +kernel
theorem dX5_set_39 : decode cX5_set 39 = .ok (.getfield 28, 3) := by decide +kernel
theorem dX5_set_42 : decode cX5_set 42 = .ok (.iload_n 1, 1) := by decide +kernel
theorem dX5_set_43 : decode cX5_set 43 = .ok (.iload_n 2, 1) := by decide +kernel
theorem dX5_set_44 : decode cX5_set 44 = .ok (.invokevirtual 65, 3) := by decide +kernel
theorem dX5_set_47 : decode cX5_set 47 = .ok (.istore 4, 2) := by decide +kernel
theorem dX5_set_49 : decode cX5_set 49 = .ok (.aload_n 0, 1) := by decide +kernel
theorem dX5_set_50 : decode cX5_set 50 = .ok (.getfield 28, 3) := by decide +kernel
theorem dX5_set_53 : decode cX5_set 53 = .ok (.iload_n 1, 1) := by decide +kernel
theorem dX5_set_54 : decode cX5_set 54 = .ok (.iload_n 2, 1) := by decide +kernel
theorem dX5_set_55 : decode cX5_set 55 = .ok (.iload_n 3, 1) := by decide +kernel
theorem dX5_set_56 : decode cX5_set 56 = .ok (.invokevirtual 69, 3) := by decide +kernel
theorem dX5_set_59 : decode cX5_set 59 = .ok (.iload 4, 2) := by decide +kernel
theorem dX5_set_61 : decode cX5_set 61 = .ok (.ireturn, 1) := by decide +kernel
theorem dX5_mostOf_0 : decode cX5_mostOf 0 = .ok (.iload_n 0, 1) := by decide +kernel
theorem dX5_mostOf_1 : decode cX5_mostOf 1 = .ok (.tableswitch 61 0 7 #[47, 61, 51, 61, 61, 53, 56, 59], 47) := by decide +kernel
theorem dX5_mostOf_48 : decode cX5_mostOf 48 = .ok (.sipush 999, 3) := by decide +kernel
theorem dX5_mostOf_51 : decode cX5_mostOf 51 = .ok (.ireturn, 1) := by decide +kernel
theorem dX5_mostOf_52 : decode cX5_mostOf 52 = .ok (.iconst 1, 1) := by decide +kernel
theorem dX5_mostOf_53 : decode cX5_mostOf 53 = .ok (.ireturn, 1) := by decide +kernel
theorem dX5_mostOf_54 : decode cX5_mostOf 54 = .ok (.bipush 99, 2) := by decide +kernel
theorem dX5_mostOf_56 : decode cX5_mostOf 56 = .ok (.ireturn, 1) := by decide +kernel
theorem dX5_mostOf_57 : decode cX5_mostOf 57 = .ok (.bipush 9, 2) := by decide +kernel
theorem dX5_mostOf_59 : decode cX5_mostOf 59 = .ok (.ireturn, 1) := by decide +kernel
theorem dX5_mostOf_60 : decode cX5_mostOf 60 = .ok (.iconst 1, 1) := by decide +kernel
theorem dX5_mostOf_61 : decode cX5_mostOf 61 = .ok (.ireturn, 1) := by decide +kernel
theorem dX5_mostOf_62 : decode cX5_mostOf 62 = .ok (.sipush 999, 3) := by decide +kernel
theorem dX5_mostOf_65 : decode cX5_mostOf 65 = .ok (.ireturn, 1) := by decide +kernel
theorem dX5_within_0 : decode cX5_within 0 = .ok (.iload_n 0, 1) := by decide +kernel
theorem dX5_within_1 : decode cX5_within 1 = .ok (.iload_n 1, 1) := by decide +kernel
theorem dX5_within_2 : decode cX5_within 2 = .ok (.if_icmp .lt 12, 3) := by decide +kernel
theorem dX5_within_5 : decode cX5_within 5 = .ok (.iload_n 0, 1) := by decide +kernel
theorem dX5_within_6 : decode cX5_within 6 = .ok (.iload_n 2, 1) := by decide +kernel
theorem dX5_within_7 : decode cX5_within 7 = .ok (.if_icmp .gt 7, 3) := by decide +kernel
theorem dX5_within_10 : decode cX5_within 10 = .ok (.iconst 1, 1) := by decide +kernel
theorem dX5_within_11 : decode cX5_within 11 = .ok (.goto 4, 3) := by decide +kernel
theorem dX5_within_14 : decode cX5_within 14 = .ok (.iconst 0, 1) := by decide +kernel
theorem dX5_within_15 : decode cX5_within 15 = .ok (.ireturn, 1) := by decide +kernel
theorem dX5_thing_0 : decode cX5_thing 0 = .ok (.iload_n 1, 1) := by decide +kernel
theorem dX5_thing_1 : decode cX5_thing 1 = .ok (.iconst 1, 1) := by decide +kernel
theorem dX5_thing_2 : decode cX5_thing 2 = .ok (.bipush 99, 2) := by decide +kernel
theorem dX5_thing_4 : decode cX5_thing 4 = .ok (.invokestatic 61, 3) := by decide +kernel
theorem dX5_thing_7 : decode cX5_thing 7 = .ok (.ifCond .eq 13, 3) := by decide +kernel
theorem dX5_thing_10 : decode cX5_thing 10 = .ok (.iload_n 2, 1) := by decide +kernel
theorem dX5_thing_11 : decode cX5_thing 11 = .ok (.iconst 0, 1) := by decide +kernel
theorem dX5_thing_12 : decode cX5_thing 12 = .ok (.bipush 99, 2) := by decide +kernel
theorem dX5_thing_14 : decode cX5_thing 14 = .ok (.invokestatic 61, 3) := by decide +kernel
theorem dX5_thing_17 : decode cX5_thing 17 = .ok (.ifCond .ne 6, 3) := by decide +kernel
theorem dX5_thing_20 : decode cX5_thing 20 = .ok (.bipush (-2), 2) := by decide +kernel
theorem dX5_thing_22 : decode cX5_thing 22 = .ok (.ireturn, 1) := by decide +kernel
theorem dX5_thing_23 : decode cX5_thing 23 = .ok (.aload_n 0, 1) := by decide +kernel
theorem dX5_thing_24 : decode cX5_thing 24 = .ok (.getfield 28, 3) := by decide +kernel
theorem dX5_thing_27 : decode cX5_thing 27 = .ok (.iload_n 1, 1) := by decide +kernel
theorem dX5_thing_28 : decode cX5_thing 28 = .ok (.iload_n 2, 1) := by decide +kernel
theorem dX5_thing_29 : decode cX5_thing 29 = .ok (.invokevirtual 73, 3) := by decide +kernel
theorem dX5_thing_32 : decode cX5_thing 32 = .ok (.ireturn, 1) := by decide +kernel
theorem dX5_neighbour_0 : decode cX5_neighbour 0 = .ok (.aload_n 0, 1) := by decide +kernel
theorem dX5_neighbour_1 : decode cX5_neighbour 1 = .ok (.iload_n 1, 1) := by decide +kernel
theorem dX5_neighbour_2 : decode cX5_neighbour 2 = .ok (.iload_n 2, 1) := by decide +kernel
theorem dX5_neighbour_3 : decode cX5_neighbour 3 = .ok (.invokevirtual 76, 3) := by decide +kernel
theorem dX5_neighbour_6 : decode cX5_neighbour 6 = .ok (.ireturn, 1) := by decide +kernel
theorem dX5_settle_0 : decode cX5_settle 0 = .ok (.iload_n 1, 1) := by decide +kernel
theorem dX5_settle_1 : decode cX5_settle 1 = .ok (.iconst 0, 1) := by decide +kernel
theorem dX5_settle_2 : decode cX5_settle 2 = .ok (.iconst 5, 1) := by decide +kernel
theorem dX5_settle_3 : decode cX5_settle 3 = .ok (.invokestatic 61, 3) := by decide +kernel
theorem dX5_settle_6 : decode cX5_settle 6 = .ok (.ifCond .eq 13, 3) := by decide +kernel
theorem dX5_settle_9 : decode cX5_settle 9 = .ok (.iload_n 2, 1) := by decide +kernel
theorem dX5_settle_10 : decode cX5_settle 10 = .ok (.iconst 0, 1) := by decide +kernel
theorem dX5_settle_11 : decode cX5_settle 11 = .ok (.bipush 9, 2) := by decide +kernel
theorem dX5_settle_13 : decode cX5_settle 13 = .ok (.invokestatic 61, 3) := by decide +kernel
theorem dX5_settle_16 : decode cX5_settle 16 = .ok (.ifCond .ne 6, 3) := by decide +kernel
theorem dX5_settle_19 : decode cX5_settle 19 = .ok (.bipush (-2), 2) := by decide +kernel
theorem dX5_settle_21 : decode cX5_settle 21 = .ok (.ireturn, 1) := by decide +kernel
theorem dX5_settle_22 : decode cX5_settle 22 = .ok (.aload_n 0, 1) := by decide +kernel
theorem dX5_settle_23 : decode cX5_settle 23 = .ok (.getfield 28, 3) := by decide +kernel
theorem dX5_settle_26 : decode cX5_settle 26 = .ok (.iload_n 1, 1) := by decide +kernel
theorem dX5_settle_27 : decode cX5_settle 27 = .ok (.iload_n 2, 1) := by decide +kernel
theorem dX5_settle_28 : decode cX5_settle 28 = .ok (.invokevirtual 79, 3) := by decide +kernel
theorem dX5_settle_31 : decode cX5_settle 31 = .ok (.ireturn, 1) := by decide +kernel
theorem dX5_told_0 : decode cX5_told 0 = .ok (.aload_n 0, 1) := by decide +kernel
theorem dX5_told_1 : decode cX5_told 1 = .ok (.getfield 28, 3) := by decide +kernel
theorem dX5_told_4 : decode cX5_told 4 = .ok (.iload_n 2, 1) := by decide +kernel
theorem dX5_told_5 : decode cX5_told 5 = .ok (.iload_n 1, 1) := by decide +kernel
theorem dX5_told_6 : decode cX5_told 6 = .ok (.invokevirtual 53, 3) := by decide +kernel
theorem dX5_told_9 : decode cX5_told 9 = .ok (.ifCond .eq 15, 3) := by decide +kernel
theorem dX5_told_12 : decode cX5_told 12 = .ok (.aload_n 0, 1) := by decide +kernel
theorem dX5_told_13 : decode cX5_told 13 = .ok (.getfield 28, 3) := by decide +kernel
theorem dX5_told_16 : decode cX5_told 16 = .ok (.iload_n 2, 1) := by decide +kernel
theorem dX5_told_17 : decode cX5_told 17 = .ok (.iload_n 1, 1) := by decide +kernel
theorem dX5_told_18 : decode cX5_told 18 = .ok (.invokevirtual 65, 3) := by decide +kernel
theorem dX5_told_21 : decode cX5_told 21 = .ok (.goto 6, 3) := by decide +kernel
theorem dX5_told_24 : decode cX5_told 24 = .ok (.sipush (-1000), 3) := by decide +kernel
theorem dX5_told_27 : decode cX5_told 27 = .ok (.ireturn, 1) := by decide +kernel
theorem dX5_pays_0 : decode cX5_pays 0 = .ok (.aload_n 0, 1) := by decide +kernel
theorem dX5_pays_1 : decode cX5_pays 1 = .ok (.getfield 28, 3) := by decide +kernel
theorem dX5_pays_4 : decode cX5_pays 4 = .ok (.iload_n 1, 1) := by decide +kernel
theorem dX5_pays_5 : decode cX5_pays 5 = .ok (.invokevirtual 82, 3) := by decide +kernel
theorem dX5_pays_8 : decode cX5_pays 8 = .ok (.ifCond .eq 13, 3) := by decide +kernel
theorem dX5_pays_11 : decode cX5_pays 11 = .ok (.iload_n 2, 1) := by decide +kernel
theorem dX5_pays_12 : decode cX5_pays 12 = .ok (.iconst 0, 1) := by decide +kernel
theorem dX5_pays_13 : decode cX5_pays 13 = .ok (.bipush 99, 2) := by decide +kernel
theorem dX5_pays_15 : decode cX5_pays 15 = .ok (.invokestatic 61, 3) := by decide +kernel
theorem dX5_pays_18 : decode cX5_pays 18 = .ok (.ifCond .ne 7, 3) := by decide +kernel
theorem dX5_pays_21 : decode cX5_pays 21 = .ok (.sipush (-1000), 3) := by decide +kernel
theorem dX5_pays_24 : decode cX5_pays 24 = .ok (.ireturn, 1) := by decide +kernel
theorem dX5_pays_25 : decode cX5_pays 25 = .ok (.aload_n 0, 1) := by decide +kernel
theorem dX5_pays_26 : decode cX5_pays 26 = .ok (.getfield 28, 3) := by decide +kernel
theorem dX5_pays_29 : decode cX5_pays 29 = .ok (.iload_n 1, 1) := by decide +kernel
theorem dX5_pays_30 : decode cX5_pays 30 = .ok (.iload_n 2, 1) := by decide +kernel
theorem dX5_pays_31 : decode cX5_pays 31 = .ok (.invokevirtual 86, 3) := by decide +kernel
theorem dX5_pays_34 : decode cX5_pays 34 = .ok (.ireturn, 1) := by decide +kernel
theorem dX5_feed_0 : decode cX5_feed 0 = .ok (.iload_n 1, 1) := by decide +kernel
theorem dX5_feed_1 : decode cX5_feed 1 = .ok (.iconst 0, 1) := by decide +kernel
theorem dX5_feed_2 : decode cX5_feed 2 = .ok (.sipush 255, 3) := by decide +kernel
theorem dX5_feed_5 : decode cX5_feed 5 = .ok (.invokestatic 61, 3) := by decide +kernel
theorem dX5_feed_8 : decode cX5_feed 8 = .ok (.ifCond .ne 6, 3) := by decide +kernel
theorem dX5_feed_11 : decode cX5_feed 11 = .ok (.bipush (-2), 2) := by decide +kernel
theorem dX5_feed_13 : decode cX5_feed 13 = .ok (.ireturn, 1) := by decide +kernel
theorem dX5_feed_14 : decode cX5_feed 14 = .ok (.aload_n 0, 1) := by decide +kernel
theorem dX5_feed_15 : decode cX5_feed 15 = .ok (.getfield 19, 3) := by decide +kernel
theorem dX5_feed_18 : decode cX5_feed 18 = .ok (.iload_n 1, 1) := by decide +kernel
theorem dX5_feed_19 : decode cX5_feed 19 = .ok (.invokevirtual 89, 3) := by decide +kernel
theorem dX5_feed_22 : decode cX5_feed 22 = .ok (.ireturn, 1) := by decide +kernel
theorem dX5_text_0 : decode cX5_text 0 = .ok (.aload_n 0, 1) := by decide +kernel
theorem dX5_text_1 : decode cX5_text 1 = .ok (.getfield 10, 3) := by decide +kernel
theorem dX5_text_4 : decode cX5_text 4 = .ok (.getfield 92, 3) := by decide +kernel
theorem dX5_text_7 : decode cX5_text 7 = .ok (.bipush 6, 2) := by decide +kernel
theorem dX5_text_9 : decode cX5_text 9 = .ok (.if_icmp .lt 6, 3) := by decide +kernel
theorem dX5_text_12 : decode cX5_text 12 = .ok (.bipush (-4), 2) := by decide +kernel
theorem dX5_text_14 : decode cX5_text 14 = .ok (.ireturn, 1) := by decide +kernel
theorem dX5_text_15 : decode cX5_text 15 = .ok (.aload_n 0, 1) := by decide +kernel
theorem dX5_text_16 : decode cX5_text 16 = .ok (.getfield 19, 3) := by decide +kernel
theorem dX5_text_19 : decode cX5_text 19 = .ok (.aload_n 0, 1) := by decide +kernel
theorem dX5_text_20 : decode cX5_text 20 = .ok (.getfield 10, 3) := by decide +kernel
theorem dX5_text_23 : decode cX5_text 23 = .ok (.getfield 96, 3) := by decide +kernel
theorem dX5_text_26 : decode cX5_text 26 = .ok (.aload_n 0, 1) := by decide +kernel
theorem dX5_text_27 : decode cX5_text 27 = .ok (.getfield 10, 3) := by decide +kernel
theorem dX5_text_30 : decode cX5_text 30 = .ok (.getfield 92, 3) := by decide +kernel
theorem dX5_text_33 : decode cX5_text 33 = .ok (.aaload, 1) := by decide +kernel
theorem dX5_text_34 : decode cX5_text 34 = .ok (.aload_n 0, 1) := by decide +kernel
theorem dX5_text_35 : decode cX5_text 35 = .ok (.getfield 10, 3) := by decide +kernel
theorem dX5_text_38 : decode cX5_text 38 = .ok (.getfield 100, 3) := by decide +kernel
theorem dX5_text_41 : decode cX5_text 41 = .ok (.aload_n 0, 1) := by decide +kernel
theorem dX5_text_42 : decode cX5_text 42 = .ok (.getfield 10, 3) := by decide +kernel
theorem dX5_text_45 : decode cX5_text 45 = .ok (.getfield 92, 3) := by decide +kernel
theorem dX5_text_48 : decode cX5_text 48 = .ok (.aaload, 1) := by decide +kernel
theorem dX5_text_49 : decode cX5_text 49 = .ok (.invokevirtual 103, 3) := by decide +kernel
theorem dX5_text_52 : decode cX5_text 52 = .ok (.istore_n 1, 1) := by decide +kernel
theorem dX5_text_53 : decode cX5_text 53 = .ok (.aload_n 0, 1) := by decide +kernel
theorem dX5_text_54 : decode cX5_text 54 = .ok (.getfield 19, 3) := by decide +kernel
theorem dX5_text_57 : decode cX5_text 57 = .ok (.iconst 0, 1) := by decide +kernel
theorem dX5_text_58 : decode cX5_text 58 = .ok (.putfield 107, 3) := by decide +kernel
theorem dX5_text_61 : decode cX5_text 61 = .ok (.iload_n 1, 1) := by decide +kernel
theorem dX5_text_62 : decode cX5_text 62 = .ok (.iconst (-1), 1) := by decide +kernel
theorem dX5_text_63 : decode cX5_text 63 = .ok (.if_icmp .eq 8, 3) := by decide +kernel
theorem dX5_text_66 : decode cX5_text 66 = .ok (.bipush (-100), 2) := by decide +kernel
theorem dX5_text_68 : decode cX5_text 68 = .ok (.iload_n 1, 1) := by decide +kernel
theorem dX5_text_69 : decode cX5_text 69 = .ok (.isub, 1) := by decide +kernel
theorem dX5_text_70 : decode cX5_text 70 = .ok (.ireturn, 1) := by decide +kernel
theorem dX5_text_71 : decode cX5_text 71 = .ok (.aload_n 0, 1) := by decide +kernel
theorem dX5_text_72 : decode cX5_text 72 = .ok (.getfield 10, 3) := by decide +kernel
theorem dX5_text_75 : decode cX5_text 75 = .ok (.dup, 1) := by decide +kernel
theorem dX5_text_76 : decode cX5_text 76 = .ok (.getfield 92, 3) := by decide +kernel
theorem dX5_text_79 : decode cX5_text 79 = .ok (.iconst 1, 1) := by decide +kernel
theorem dX5_text_80 : decode cX5_text 80 = .ok (.iadd, 1) := by decide +kernel
theorem dX5_text_81 : decode cX5_text 81 = .ok (.putfield 92, 3) := by decide +kernel
theorem dX5_text_84 : decode cX5_text 84 = .ok (.aload_n 0, 1) := by decide +kernel
theorem dX5_text_85 : decode cX5_text 85 = .ok (.getfield 10, 3) := by decide +kernel
theorem dX5_text_88 : decode cX5_text 88 = .ok (.getfield 92, 3) := by decide +kernel
theorem dX5_text_91 : decode cX5_text 91 = .ok (.iconst 1, 1) := by decide +kernel
theorem dX5_text_92 : decode cX5_text 92 = .ok (.isub, 1) := by decide +kernel
theorem dX5_text_93 : decode cX5_text 93 = .ok (.ireturn, 1) := by decide +kernel
theorem dX5_force_0 : decode cX5_force 0 = .ok (.iload_n 1, 1) := by decide +kernel
theorem dX5_force_1 : decode cX5_force 1 = .ok (.iconst 0, 1) := by decide +kernel
theorem dX5_force_2 : decode cX5_force 2 = .ok (.aload_n 0, 1) := by decide +kernel
theorem dX5_force_3 : decode cX5_force 3 = .ok (.getfield 10, 3) := by decide +kernel
theorem dX5_force_6 : decode cX5_force 6 = .ok (.getfield 92, 3) := by decide +kernel
theorem dX5_force_9 : decode cX5_force 9 = .ok (.iconst 1, 1) := by decide +kernel
theorem dX5_force_10 : decode cX5_force 10 = .ok (.isub, 1) := by decide +kernel
theorem dX5_force_11 : decode cX5_force 11 = .ok (.invokestatic 61, 3) := by decide +kernel
theorem dX5_force_14 : decode cX5_force 14 = .ok (.ifCond .ne 6, 3) := by decide +kernel
theorem dX5_force_17 : decode cX5_force 17 = .ok (.bipush (-2), 2) := by decide +kernel
theorem dX5_force_19 : decode cX5_force 19 = .ok (.ireturn, 1) := by decide +kernel
theorem dX5_force_20 : decode cX5_force 20 = .ok (.aload_n 0, 1) := by decide +kernel
theorem dX5_force_21 : decode cX5_force 21 = .ok (.getfield 28, 3) := by decide +kernel
theorem dX5_force_24 : decode cX5_force 24 = .ok (.getfield 108, 3) := by decide +kernel
theorem dX5_force_27 : decode cX5_force 27 = .ok (.istore_n 2, 1) := by decide +kernel
theorem dX5_force_28 : decode cX5_force 28 = .ok (.aload_n 0, 1) := by decide +kernel
theorem dX5_force_29 : decode cX5_force 29 = .ok (.getfield 28, 3) := by decide +kernel
theorem dX5_force_32 : decode cX5_force 32 = .ok (.iload_n 1, 1) := by decide +kernel
theorem dX5_force_33 : decode cX5_force 33 = .ok (.putfield 108, 3) := by decide +kernel
theorem dX5_force_36 : decode cX5_force 36 = .ok (.iload_n 2, 1) := by decide +kernel
theorem dX5_force_37 : decode cX5_force 37 = .ok (.ireturn, 1) := by decide +kernel
theorem dX5_night_0 : decode cX5_night 0 = .ok (.iload_n 1, 1) := by decide +kernel
theorem dX5_night_1 : decode cX5_night 1 = .ok (.iconst 0, 1) := by decide +kernel
theorem dX5_night_2 : decode cX5_night 2 = .ok (.iconst 1, 1) := by decide +kernel
theorem dX5_night_3 : decode cX5_night 3 = .ok (.invokestatic 61, 3) := by decide +kernel
theorem dX5_night_6 : decode cX5_night 6 = .ok (.ifCond .ne 6, 3) := by decide +kernel
theorem dX5_night_9 : decode cX5_night 9 = .ok (.bipush (-2), 2) := by decide +kernel
theorem dX5_night_11 : decode cX5_night 11 = .ok (.ireturn, 1) := by decide +kernel
theorem dX5_night_12 : decode cX5_night 12 = .ok (.aload_n 0, 1) := by decide +kernel
theorem dX5_night_13 : decode cX5_night 13 = .ok (.getfield 28, 3) := by decide +kernel
theorem dX5_night_16 : decode cX5_night 16 = .ok (.getfield 111, 3) := by decide +kernel
theorem dX5_night_19 : decode cX5_night 19 = .ok (.sipush 999, 3) := by decide +kernel
theorem dX5_night_22 : decode cX5_night 22 = .ok (.if_icmp .lt 6, 3) := by decide +kernel
theorem dX5_night_25 : decode cX5_night 25 = .ok (.bipush (-3), 2) := by decide +kernel
theorem dX5_night_27 : decode cX5_night 27 = .ok (.ireturn, 1) := by decide +kernel
theorem dX5_night_28 : decode cX5_night 28 = .ok (.aload_n 0, 1) := by decide +kernel
theorem dX5_night_29 : decode cX5_night 29 = .ok (.getfield 28, 3) := by decide +kernel
theorem dX5_night_32 : decode cX5_night 32 = .ok (.iload_n 1, 1) := by decide +kernel
theorem dX5_night_33 : decode cX5_night 33 = .ok (.iconst 1, 1) := by decide +kernel
theorem dX5_night_34 : decode cX5_night 34 = .ok (.if_icmp .ne 7, 3) := by decide +kernel
theorem dX5_night_37 : decode cX5_night 37 = .ok (.iconst 1, 1) := by decide +kernel
theorem dX5_night_38 : decode cX5_night 38 = .ok (.goto 4, 3) := by decide +kernel
theorem dX5_night_41 : decode cX5_night 41 = .ok (.iconst 0, 1) := by decide +kernel
theorem dX5_night_42 : decode cX5_night 42 = .ok (.invokevirtual 114, 3) := by decide +kernel
theorem dX5_night_45 : decode cX5_night 45 = .ok (.ireturn, 1) := by decide +kernel
theorem dX5_load_0 : decode cX5_load 0 = .ok (.aload_n 0, 1) := by decide +kernel
theorem dX5_load_1 : decode cX5_load 1 = .ok (.getfield 28, 3) := by decide +kernel
theorem dX5_load_4 : decode cX5_load 4 = .ok (.iload_n 1, 1) := by decide +kernel
theorem dX5_load_5 : decode cX5_load 5 = .ok (.invokevirtual 118, 3) := by decide +kernel
theorem dX5_load_8 : decode cX5_load 8 = .ok (.ifCond .ne 6, 3) := by decide +kernel
theorem dX5_load_11 : decode cX5_load 11 = .ok (.bipush (-2), 2) := by decide +kernel
theorem dX5_load_13 : decode cX5_load 13 = .ok (.ireturn, 1) := by decide +kernel
theorem dX5_load_14 : decode cX5_load 14 = .ok (.aload_n 0, 1) := by decide +kernel
theorem dX5_load_15 : decode cX5_load 15 = .ok (.getfield 28, 3) := by decide +kernel
theorem dX5_load_18 : decode cX5_load 18 = .ok (.iload_n 1, 1) := by decide +kernel
theorem dX5_load_19 : decode cX5_load 19 = .ok (.invokevirtual 121, 3) := by decide +kernel
theorem dX5_load_22 : decode cX5_load 22 = .ok (.ifCond .ne 6, 3) := by decide +kernel
theorem dX5_load_25 : decode cX5_load 25 = .ok (.bipush (-3), 2) := by decide +kernel
theorem dX5_load_27 : decode cX5_load 27 = .ok (.ireturn, 1) := by decide +kernel
theorem dX5_load_28 : decode cX5_load 28 = .ok (.aload_n 0, 1) := by decide +kernel
theorem dX5_load_29 : decode cX5_load 29 = .ok (.getfield 28, 3) := by decide +kernel
theorem dX5_load_32 : decode cX5_load 32 = .ok (.iload_n 1, 1) := by decide +kernel
theorem dX5_load_33 : decode cX5_load 33 = .ok (.invokevirtual 124, 3) := by decide +kernel
theorem dX5_load_36 : decode cX5_load 36 = .ok (.aload_n 0, 1) := by decide +kernel
theorem dX5_load_37 : decode cX5_load 37 = .ok (.getfield 28, 3) := by decide +kernel
theorem dX5_load_40 : decode cX5_load 40 = .ok (.invokevirtual 128, 3) := by decide +kernel
theorem dX5_load_43 : decode cX5_load 43 = .ok (.ireturn, 1) := by decide +kernel
theorem dX5_run_0 : decode cX5_run 0 = .ok (.iload_n 1, 1) := by decide +kernel
theorem dX5_run_1 : decode cX5_run 1 = .ok (.iconst 0, 1) := by decide +kernel
theorem dX5_run_2 : decode cX5_run 2 = .ok (.bipush 30, 2) := by decide +kernel
theorem dX5_run_4 : decode cX5_run 4 = .ok (.invokestatic 61, 3) := by decide +kernel
theorem dX5_run_7 : decode cX5_run 7 = .ok (.ifCond .eq 22, 3) := by decide +kernel
theorem dX5_run_10 : decode cX5_run 10 = .ok (.iload_n 2, 1) := by decide +kernel
theorem dX5_run_11 : decode cX5_run 11 = .ok (.iconst 0, 1) := by decide +kernel
theorem dX5_run_12 : decode cX5_run 12 = .ok (.ldc 132, 2) := by decide +kernel
theorem dX5_run_14 : decode cX5_run 14 = .ok (.invokestatic 61, 3) := by decide +kernel
theorem dX5_run_17 : decode cX5_run 17 = .ok (.ifCond .eq 12, 3) := by decide +kernel
theorem dX5_run_20 : decode cX5_run 20 = .ok (.iload_n 3, 1) := by decide +kernel
theorem dX5_run_21 : decode cX5_run 21 = .ok (.iconst 0, 1) := by decide +kernel
theorem dX5_run_22 : decode cX5_run 22 = .ok (.iconst 5, 1) := by decide +kernel
theorem dX5_run_23 : decode cX5_run 23 = .ok (.invokestatic 61, 3) := by decide +kernel
theorem dX5_run_26 : decode cX5_run 26 = .ok (.ifCond .ne 6, 3) := by decide +kernel
theorem dX5_run_29 : decode cX5_run 29 = .ok (.bipush (-2), 2) := by decide +kernel
theorem dX5_run_31 : decode cX5_run 31 = .ok (.ireturn, 1) := by decide +kernel
theorem dX5_run_32 : decode cX5_run 32 = .ok (.aload_n 0, 1) := by decide +kernel
theorem dX5_run_33 : decode cX5_run 33 = .ok (.getfield 35, 3) := by decide +kernel
theorem dX5_run_36 : decode cX5_run 36 = .ok (.iconst 0, 1) := by decide +kernel
theorem dX5_run_37 : decode cX5_run 37 = .ok (.aaload, 1) := by decide +kernel
theorem dX5_run_38 : decode cX5_run 38 = .ok (.astore 4, 2) := by decide +kernel
theorem dX5_run_40 : decode cX5_run 40 = .ok (.aload 4, 2) := by decide +kernel
theorem dX5_run_42 : decode cX5_run 42 = .ok (.aload_n 0, 1) := by decide +kernel
theorem dX5_run_43 : decode cX5_run 43 = .ok (.getfield 28, 3) := by decide +kernel
theorem dX5_run_46 : decode cX5_run 46 = .ok (.invokevirtual 133, 3) := by decide +kernel
theorem dX5_run_49 : decode cX5_run 49 = .ok (.aload 4, 2) := by decide +kernel
theorem dX5_run_51 : decode cX5_run 51 = .ok (.iload_n 1, 1) := by decide +kernel
theorem dX5_run_52 : decode cX5_run 52 = .ok (.iload_n 2, 1) := by decide +kernel
theorem dX5_run_53 : decode cX5_run 53 = .ok (.invokevirtual 137, 3) := by decide +kernel
theorem dX5_run_56 : decode cX5_run 56 = .ok (.istore 5, 2) := by decide +kernel
theorem dX5_run_58 : decode cX5_run 58 = .ok (.iload_n 3, 1) := by decide +kernel
theorem dX5_run_59 : decode cX5_run 59 = .ok (.tableswitch 60 0 4 #[33, 39, 45, 51, 54], 33) := by decide +kernel
theorem dX5_run_92 : decode cX5_run 92 = .ok (.aload 4, 2) := by decide +kernel
theorem dX5_run_94 : decode cX5_run 94 = .ok (.invokevirtual 140, 3) := by decide +kernel
theorem dX5_run_97 : decode cX5_run 97 = .ok (.ireturn, 1) := by decide +kernel
theorem dX5_run_98 : decode cX5_run 98 = .ok (.aload 4, 2) := by decide +kernel
theorem dX5_run_100 : decode cX5_run 100 = .ok (.getfield 143, 3) := by decide +kernel
theorem dX5_run_103 : decode cX5_run 103 = .ok (.ireturn, 1) := by decide +kernel
theorem dX5_run_104 : decode cX5_run 104 = .ok (.aload 4, 2) := by decide +kernel
theorem dX5_run_106 : decode cX5_run 106 = .ok (.getfield 146, 3) := by decide +kernel
theorem dX5_run_109 : decode cX5_run 109 = .ok (.ireturn, 1) := by decide +kernel
theorem dX5_run_110 : decode cX5_run 110 = .ok (.iload 5, 2) := by decide +kernel
theorem dX5_run_112 : decode cX5_run 112 = .ok (.ireturn, 1) := by decide +kernel
theorem dX5_run_113 : decode cX5_run 113 = .ok (.aload 4, 2) := by decide +kernel
theorem dX5_run_115 : decode cX5_run 115 = .ok (.invokevirtual 149, 3) := by decide +kernel
theorem dX5_run_118 : decode cX5_run 118 = .ok (.ireturn, 1) := by decide +kernel
theorem dX5_run_119 : decode cX5_run 119 = .ok (.aload 4, 2) := by decide +kernel
theorem dX5_run_121 : decode cX5_run 121 = .ok (.getfield 152, 3) := by decide +kernel
theorem dX5_run_124 : decode cX5_run 124 = .ok (.ireturn, 1) := by decide +kernel
theorem dX5_cover_0 : decode cX5_cover 0 = .ok (.iload_n 1, 1) := by decide +kernel
theorem dX5_cover_1 : decode cX5_cover 1 = .ok (.iconst 0, 1) := by decide +kernel
theorem dX5_cover_2 : decode cX5_cover 2 = .ok (.bipush 7, 2) := by decide +kernel
theorem dX5_cover_4 : decode cX5_cover 4 = .ok (.invokestatic 61, 3) := by decide +kernel
theorem dX5_cover_7 : decode cX5_cover 7 = .ok (.ifCond .eq 12, 3) := by decide +kernel
theorem dX5_cover_10 : decode cX5_cover 10 = .ok (.iload_n 2, 1) := by decide +kernel
theorem dX5_cover_11 : decode cX5_cover 11 = .ok (.iconst 0, 1) := by decide +kernel
theorem dX5_cover_12 : decode cX5_cover 12 = .ok (.iconst 1, 1) := by decide +kernel
theorem dX5_cover_13 : decode cX5_cover 13 = .ok (.invokestatic 61, 3) := by decide +kernel
theorem dX5_cover_16 : decode cX5_cover 16 = .ok (.ifCond .ne 6, 3) := by decide +kernel
theorem dX5_cover_19 : decode cX5_cover 19 = .ok (.bipush (-2), 2) := by decide +kernel
theorem dX5_cover_21 : decode cX5_cover 21 = .ok (.ireturn, 1) := by decide +kernel
theorem dX5_cover_22 : decode cX5_cover 22 = .ok (.aload_n 0, 1) := by decide +kernel
theorem dX5_cover_23 : decode cX5_cover 23 = .ok (.getfield 42, 3) := by decide +kernel
theorem dX5_cover_26 : decode cX5_cover 26 = .ok (.invokevirtual 155, 3) := by decide +kernel
theorem dX5_cover_29 : decode cX5_cover 29 = .ok (.aload_n 0, 1) := by decide +kernel
theorem dX5_cover_30 : decode cX5_cover 30 = .ok (.getfield 35, 3) := by decide +kernel
theorem dX5_cover_33 : decode cX5_cover 33 = .ok (.iconst 0, 1) := by decide +kernel
theorem dX5_cover_34 : decode cX5_cover 34 = .ok (.aaload, 1) := by decide +kernel
theorem dX5_cover_35 : decode cX5_cover 35 = .ok (.aload_n 0, 1) := by decide +kernel
theorem dX5_cover_36 : decode cX5_cover 36 = .ok (.getfield 28, 3) := by decide +kernel
theorem dX5_cover_39 : decode cX5_cover 39 = .ok (.invokevirtual 133, 3) := by decide +kernel
theorem dX5_cover_42 : decode cX5_cover 42 = .ok (.aload_n 0, 1) := by decide +kernel
theorem dX5_cover_43 : decode cX5_cover 43 = .ok (.iconst 0, 1) := by decide +kernel
theorem dX5_cover_44 : decode cX5_cover 44 = .ok (.iload_n 1, 1) := by decide +kernel
theorem dX5_cover_45 : decode cX5_cover 45 = .ok (.iconst 0, 1) := by decide +kernel
theorem dX5_cover_46 : decode cX5_cover 46 = .ok (.invokevirtual 158, 3) := by decide +kernel
theorem dX5_cover_49 : decode cX5_cover 49 = .ok (.iload_n 2, 1) := by decide +kernel
theorem dX5_cover_50 : decode cX5_cover 50 = .ok (.ifCond .ne 13, 3) := by decide +kernel
theorem dX5_cover_53 : decode cX5_cover 53 = .ok (.aload_n 0, 1) := by decide +kernel
theorem dX5_cover_54 : decode cX5_cover 54 = .ok (.getfield 42, 3) := by decide +kernel
theorem dX5_cover_57 : decode cX5_cover 57 = .ok (.getfield 161, 3) := by decide +kernel
theorem dX5_cover_60 : decode cX5_cover 60 = .ok (.goto 10, 3) := by decide +kernel
theorem dX5_cover_63 : decode cX5_cover 63 = .ok (.aload_n 0, 1) := by decide +kernel
theorem dX5_cover_64 : decode cX5_cover 64 = .ok (.getfield 42, 3) := by decide +kernel
theorem dX5_cover_67 : decode cX5_cover 67 = .ok (.getfield 164, 3) := by decide +kernel
theorem dX5_cover_70 : decode cX5_cover 70 = .ok (.ireturn, 1) := by decide +kernel
theorem dX5_tryCovers_0 : decode cX5_tryCovers 0 = .ok (.aload_n 0, 1) := by decide +kernel
theorem dX5_tryCovers_1 : decode cX5_tryCovers 1 = .ok (.getfield 35, 3) := by decide +kernel
theorem dX5_tryCovers_4 : decode cX5_tryCovers 4 = .ok (.iload_n 1, 1) := by decide +kernel
theorem dX5_tryCovers_5 : decode cX5_tryCovers 5 = .ok (.aaload, 1) := by decide +kernel
theorem dX5_tryCovers_6 : decode cX5_tryCovers 6 = .ok (.astore 4, 2) := by decide +kernel
theorem dX5_tryCovers_8 : decode cX5_tryCovers 8 = .ok (.iload_n 1, 1) := by decide +kernel
theorem dX5_tryCovers_9 : decode cX5_tryCovers 9 = .ok (.iload_n 2, 1) := by decide +kernel
theorem dX5_tryCovers_10 : decode cX5_tryCovers 10 = .ok (.if_icmp .ge 14, 3) := by decide +kernel
theorem dX5_tryCovers_13 : decode cX5_tryCovers 13 = .ok (.iload_n 1, 1) := by decide +kernel
theorem dX5_tryCovers_14 : decode cX5_tryCovers 14 = .ok (.iconst 1, 1) := by decide +kernel
theorem dX5_tryCovers_15 : decode cX5_tryCovers 15 = .ok (.iadd, 1) := by decide +kernel
theorem dX5_tryCovers_16 : decode cX5_tryCovers 16 = .ok (.aload_n 0, 1) := by decide +kernel
theorem dX5_tryCovers_17 : decode cX5_tryCovers 17 = .ok (.getfield 35, 3) := by decide +kernel
theorem dX5_tryCovers_20 : decode cX5_tryCovers 20 = .ok (.arraylength, 1) := by decide +kernel
theorem dX5_tryCovers_21 : decode cX5_tryCovers 21 = .ok (.if_icmp .lt 21, 3) := by decide +kernel
theorem dX5_tryCovers_24 : decode cX5_tryCovers 24 = .ok (.aload_n 0, 1) := by decide +kernel
theorem dX5_tryCovers_25 : decode cX5_tryCovers 25 = .ok (.getfield 42, 3) := by decide +kernel
theorem dX5_tryCovers_28 : decode cX5_tryCovers 28 = .ok (.aload 4, 2) := by decide +kernel
theorem dX5_tryCovers_30 : decode cX5_tryCovers 30 = .ok (.invokevirtual 149, 3) := by decide +kernel
theorem dX5_tryCovers_33 : decode cX5_tryCovers 33 = .ok (.iload_n 3, 1) := by decide +kernel
theorem dX5_tryCovers_34 : decode cX5_tryCovers 34 = .ok (.invokestatic 167, 3) := by decide +kernel
theorem dX5_tryCovers_37 : decode cX5_tryCovers 37 = .ok (.iload_n 3, 1) := by decide +kernel
theorem dX5_tryCovers_38 : decode cX5_tryCovers 38 = .ok (.invokevirtual 172, 3) := by decide +kernel
theorem dX5_tryCovers_41 : decode cX5_tryCovers 41 = .ok (.return_, 1) := by decide +kernel
theorem dX5_tryCovers_42 : decode cX5_tryCovers 42 = .ok (.iconst 0, 1) := by decide +kernel
theorem dX5_tryCovers_43 : decode cX5_tryCovers 43 = .ok (.istore 5, 2) := by decide +kernel
theorem dX5_tryCovers_45 : decode cX5_tryCovers 45 = .ok (.iload 5, 2) := by decide +kernel
theorem dX5_tryCovers_47 : decode cX5_tryCovers 47 = .ok (.iconst 2, 1) := by decide +kernel
theorem dX5_tryCovers_48 : decode cX5_tryCovers 48 = .ok (.if_icmp .ge 59, 3) := by decide +kernel
theorem dX5_tryCovers_51 : decode cX5_tryCovers 51 = .ok (.aload_n 0, 1) := by decide +kernel
theorem dX5_tryCovers_52 : decode cX5_tryCovers 52 = .ok (.getfield 35, 3) := by decide +kernel
theorem dX5_tryCovers_55 : decode cX5_tryCovers 55 = .ok (.iload_n 1, 1) := by decide +kernel
theorem dX5_tryCovers_56 : decode cX5_tryCovers 56 = .ok (.iconst 1, 1) := by decide +kernel
theorem dX5_tryCovers_57 : decode cX5_tryCovers 57 = .ok (.iadd, 1) := by decide +kernel
theorem dX5_tryCovers_58 : decode cX5_tryCovers 58 = .ok (.aaload, 1) := by decide +kernel
theorem dX5_tryCovers_59 : decode cX5_tryCovers 59 = .ok (.aload 4, 2) := by decide +kernel
theorem dX5_tryCovers_61 : decode cX5_tryCovers 61 = .ok (.invokevirtual 133, 3) := by decide +kernel
theorem dX5_tryCovers_64 : decode cX5_tryCovers 64 = .ok (.aload_n 0, 1) := by decide +kernel
theorem dX5_tryCovers_65 : decode cX5_tryCovers 65 = .ok (.getfield 35, 3) := by decide +kernel
theorem dX5_tryCovers_68 : decode cX5_tryCovers 68 = .ok (.iload_n 1, 1) := by decide +kernel
theorem dX5_tryCovers_69 : decode cX5_tryCovers 69 = .ok (.iconst 1, 1) := by decide +kernel
theorem dX5_tryCovers_70 : decode cX5_tryCovers 70 = .ok (.iadd, 1) := by decide +kernel
theorem dX5_tryCovers_71 : decode cX5_tryCovers 71 = .ok (.aaload, 1) := by decide +kernel
theorem dX5_tryCovers_72 : decode cX5_tryCovers 72 = .ok (.iload 5, 2) := by decide +kernel
theorem dX5_tryCovers_74 : decode cX5_tryCovers 74 = .ok (.iconst 1, 1) := by decide +kernel
theorem dX5_tryCovers_75 : decode cX5_tryCovers 75 = .ok (.if_icmp .ne 7, 3) := by decide +kernel
theorem dX5_tryCovers_78 : decode cX5_tryCovers 78 = .ok (.iconst 1, 1) := by decide +kernel
theorem dX5_tryCovers_79 : decode cX5_tryCovers 79 = .ok (.goto 4, 3) := by decide +kernel
theorem dX5_tryCovers_82 : decode cX5_tryCovers 82 = .ok (.iconst 0, 1) := by decide +kernel
theorem dX5_tryCovers_83 : decode cX5_tryCovers 83 = .ok (.invokevirtual 114, 3) := by decide +kernel
theorem dX5_tryCovers_86 : decode cX5_tryCovers 86 = .ok (.pop, 1) := by decide +kernel
theorem dX5_tryCovers_87 : decode cX5_tryCovers 87 = .ok (.aload_n 0, 1) := by decide +kernel
theorem dX5_tryCovers_88 : decode cX5_tryCovers 88 = .ok (.iload_n 1, 1) := by decide +kernel
theorem dX5_tryCovers_89 : decode cX5_tryCovers 89 = .ok (.iconst 1, 1) := by decide +kernel
theorem dX5_tryCovers_90 : decode cX5_tryCovers 90 = .ok (.iadd, 1) := by decide +kernel
theorem dX5_tryCovers_91 : decode cX5_tryCovers 91 = .ok (.iload_n 2, 1) := by decide +kernel
theorem dX5_tryCovers_92 : decode cX5_tryCovers 92 = .ok (.iload_n 3, 1) := by decide +kernel
theorem dX5_tryCovers_93 : decode cX5_tryCovers 93 = .ok (.iload 5, 2) := by decide +kernel
theorem dX5_tryCovers_95 : decode cX5_tryCovers 95 = .ok (.iload_n 1, 1) := by decide +kernel
theorem dX5_tryCovers_96 : decode cX5_tryCovers 96 = .ok (.ishl, 1) := by decide +kernel
theorem dX5_tryCovers_97 : decode cX5_tryCovers 97 = .ok (.ior, 1) := by decide +kernel
theorem dX5_tryCovers_98 : decode cX5_tryCovers 98 = .ok (.invokevirtual 158, 3) := by decide +kernel
theorem dX5_tryCovers_101 : decode cX5_tryCovers 101 = .ok (.iinc 5 1, 3) := by decide +kernel
theorem dX5_tryCovers_104 : decode cX5_tryCovers 104 = .ok (.goto (-59), 3) := by decide +kernel
theorem dX5_tryCovers_107 : decode cX5_tryCovers 107 = .ok (.return_, 1) := by decide +kernel
theorem dX5_ask_0 : decode cX5_ask 0 = .ok (.iload_n 1, 1) := by decide +kernel
theorem dX5_ask_1 : decode cX5_ask 1 = .ok (.iconst 0, 1) := by decide +kernel
theorem dX5_ask_2 : decode cX5_ask 2 = .ok (.bipush 7, 2) := by decide +kernel
theorem dX5_ask_4 : decode cX5_ask 4 = .ok (.invokestatic 61, 3) := by decide +kernel
theorem dX5_ask_7 : decode cX5_ask 7 = .ok (.ifCond .eq 12, 3) := by decide +kernel
theorem dX5_ask_10 : decode cX5_ask 10 = .ok (.iload_n 2, 1) := by decide +kernel
theorem dX5_ask_11 : decode cX5_ask 11 = .ok (.iconst 0, 1) := by decide +kernel
theorem dX5_ask_12 : decode cX5_ask 12 = .ok (.iconst 2, 1) := by decide +kernel
theorem dX5_ask_13 : decode cX5_ask 13 = .ok (.invokestatic 61, 3) := by decide +kernel
theorem dX5_ask_16 : decode cX5_ask 16 = .ok (.ifCond .ne 6, 3) := by decide +kernel
theorem dX5_ask_19 : decode cX5_ask 19 = .ok (.bipush (-2), 2) := by decide +kernel
theorem dX5_ask_21 : decode cX5_ask 21 = .ok (.ireturn, 1) := by decide +kernel
theorem dX5_ask_22 : decode cX5_ask 22 = .ok (.aload_n 0, 1) := by decide +kernel
theorem dX5_ask_23 : decode cX5_ask 23 = .ok (.getfield 42, 3) := by decide +kernel
theorem dX5_ask_26 : decode cX5_ask 26 = .ok (.invokevirtual 155, 3) := by decide +kernel
theorem dX5_ask_29 : decode cX5_ask 29 = .ok (.aload_n 0, 1) := by decide +kernel
theorem dX5_ask_30 : decode cX5_ask 30 = .ok (.getfield 35, 3) := by decide +kernel
theorem dX5_ask_33 : decode cX5_ask 33 = .ok (.iconst 0, 1) := by decide +kernel
theorem dX5_ask_34 : decode cX5_ask 34 = .ok (.aaload, 1) := by decide +kernel
theorem dX5_ask_35 : decode cX5_ask 35 = .ok (.astore_n 3, 1) := by decide +kernel
theorem dX5_ask_36 : decode cX5_ask 36 = .ok (.iconst 0, 1) := by decide +kernel
theorem dX5_ask_37 : decode cX5_ask 37 = .ok (.istore 4, 2) := by decide +kernel
theorem dX5_ask_39 : decode cX5_ask 39 = .ok (.iload 4, 2) := by decide +kernel
theorem dX5_ask_41 : decode cX5_ask 41 = .ok (.iconst 1, 1) := by decide +kernel
theorem dX5_ask_42 : decode cX5_ask 42 = .ok (.aload_n 0, 1) := by decide +kernel
theorem dX5_ask_43 : decode cX5_ask 43 = .ok (.getfield 28, 3) := by decide +kernel
theorem dX5_ask_46 : decode cX5_ask 46 = .ok (.getfield 175, 3) := by decide +kernel
theorem dX5_ask_49 : decode cX5_ask 49 = .ok (.ishl, 1) := by decide +kernel
theorem dX5_ask_50 : decode cX5_ask 50 = .ok (.if_icmp .ge 47, 3) := by decide +kernel
theorem dX5_ask_53 : decode cX5_ask 53 = .ok (.aload_n 3, 1) := by decide +kernel
theorem dX5_ask_54 : decode cX5_ask 54 = .ok (.aload_n 0, 1) := by decide +kernel
theorem dX5_ask_55 : decode cX5_ask 55 = .ok (.getfield 28, 3) := by decide +kernel
theorem dX5_ask_58 : decode cX5_ask 58 = .ok (.invokevirtual 133, 3) := by decide +kernel
theorem dX5_ask_61 : decode cX5_ask 61 = .ok (.aload_n 3, 1) := by decide +kernel
theorem dX5_ask_62 : decode cX5_ask 62 = .ok (.iload 4, 2) := by decide +kernel
theorem dX5_ask_64 : decode cX5_ask 64 = .ok (.putfield 178, 3) := by decide +kernel
theorem dX5_ask_67 : decode cX5_ask 67 = .ok (.aload_n 3, 1) := by decide +kernel
theorem dX5_ask_68 : decode cX5_ask 68 = .ok (.iload_n 1, 1) := by decide +kernel
theorem dX5_ask_69 : decode cX5_ask 69 = .ok (.iconst 0, 1) := by decide +kernel
theorem dX5_ask_70 : decode cX5_ask 70 = .ok (.invokevirtual 137, 3) := by decide +kernel
theorem dX5_ask_73 : decode cX5_ask 73 = .ok (.istore 5, 2) := by decide +kernel
