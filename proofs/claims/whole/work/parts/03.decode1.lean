theorem dX5_ask_75 : decode cX5_ask 75 = .ok (.aload_n 0, 1) := by decide +kernel
theorem dX5_ask_76 : decode cX5_ask 76 = .ok (.getfield 42, 3) := by decide +kernel
theorem dX5_ask_79 : decode cX5_ask 79 = .ok (.aload_n 3, 1) := by decide +kernel
theorem dX5_ask_80 : decode cX5_ask 80 = .ok (.invokevirtual 149, 3) := by decide +kernel
theorem dX5_ask_83 : decode cX5_ask 83 = .ok (.iload 5, 2) := by decide +kernel
theorem dX5_ask_85 : decode cX5_ask 85 = .ok (.ineg, 1) := by decide +kernel
theorem dX5_ask_86 : decode cX5_ask 86 = .ok (.iload 4, 2) := by decide +kernel
theorem dX5_ask_88 : decode cX5_ask 88 = .ok (.invokevirtual 172, 3) := by decide +kernel
theorem dX5_ask_91 : decode cX5_ask 91 = .ok (.iinc 4 1, 3) := by decide +kernel
theorem dX5_ask_94 : decode cX5_ask 94 = .ok (.goto (-55), 3) := by decide +kernel
theorem dX5_ask_97 : decode cX5_ask 97 = .ok (.iload_n 2, 1) := by decide +kernel
theorem dX5_ask_98 : decode cX5_ask 98 = .ok (.ifCond .ne 11, 3) := by decide +kernel
theorem dX5_ask_101 : decode cX5_ask 101 = .ok (.aload_n 0, 1) := by decide +kernel
theorem dX5_ask_102 : decode cX5_ask 102 = .ok (.getfield 42, 3) := by decide +kernel
theorem dX5_ask_105 : decode cX5_ask 105 = .ok (.getfield 161, 3) := by decide +kernel
theorem dX5_ask_108 : decode cX5_ask 108 = .ok (.ireturn, 1) := by decide +kernel
theorem dX5_ask_109 : decode cX5_ask 109 = .ok (.iload_n 2, 1) := by decide +kernel
theorem dX5_ask_110 : decode cX5_ask 110 = .ok (.iconst 1, 1) := by decide +kernel
theorem dX5_ask_111 : decode cX5_ask 111 = .ok (.if_icmp .ne 13, 3) := by decide +kernel
theorem dX5_ask_114 : decode cX5_ask 114 = .ok (.aload_n 0, 1) := by decide +kernel
theorem dX5_ask_115 : decode cX5_ask 115 = .ok (.getfield 42, 3) := by decide +kernel
theorem dX5_ask_118 : decode cX5_ask 118 = .ok (.getfield 164, 3) := by decide +kernel
theorem dX5_ask_121 : decode cX5_ask 121 = .ok (.goto 11, 3) := by decide +kernel
theorem dX5_ask_124 : decode cX5_ask 124 = .ok (.aload_n 0, 1) := by decide +kernel
theorem dX5_ask_125 : decode cX5_ask 125 = .ok (.getfield 42, 3) := by decide +kernel
theorem dX5_ask_128 : decode cX5_ask 128 = .ok (.getfield 181, 3) := by decide +kernel
theorem dX5_ask_131 : decode cX5_ask 131 = .ok (.ineg, 1) := by decide +kernel
theorem dX5_ask_132 : decode cX5_ask 132 = .ok (.ireturn, 1) := by decide +kernel
theorem dX5_best_0 : decode cX5_best 0 = .ok (.aload_n 0, 1) := by decide +kernel
theorem dX5_best_1 : decode cX5_best 1 = .ok (.getfield 42, 3) := by decide +kernel
theorem dX5_best_4 : decode cX5_best 4 = .ok (.invokevirtual 155, 3) := by decide +kernel
theorem dX5_best_7 : decode cX5_best 7 = .ok (.iload_n 1, 1) := by decide +kernel
theorem dX5_best_8 : decode cX5_best 8 = .ok (.tableswitch 114 0 5 #[40, 52, 65, 77, 89, 101], 40) := by decide +kernel
theorem dX5_best_48 : decode cX5_best 48 = .ok (.aload_n 0, 1) := by decide +kernel
theorem dX5_best_49 : decode cX5_best 49 = .ok (.invokevirtual 184, 3) := by decide +kernel
theorem dX5_best_52 : decode cX5_best 52 = .ok (.aload_n 0, 1) := by decide +kernel
theorem dX5_best_53 : decode cX5_best 53 = .ok (.getfield 42, 3) := by decide +kernel
theorem dX5_best_56 : decode cX5_best 56 = .ok (.getfield 161, 3) := by decide +kernel
theorem dX5_best_59 : decode cX5_best 59 = .ok (.ireturn, 1) := by decide +kernel
theorem dX5_best_60 : decode cX5_best 60 = .ok (.aload_n 0, 1) := by decide +kernel
theorem dX5_best_61 : decode cX5_best 61 = .ok (.invokevirtual 184, 3) := by decide +kernel
theorem dX5_best_64 : decode cX5_best 64 = .ok (.aload_n 0, 1) := by decide +kernel
theorem dX5_best_65 : decode cX5_best 65 = .ok (.getfield 42, 3) := by decide +kernel
theorem dX5_best_68 : decode cX5_best 68 = .ok (.getfield 164, 3) := by decide +kernel
theorem dX5_best_71 : decode cX5_best 71 = .ok (.ineg, 1) := by decide +kernel
theorem dX5_best_72 : decode cX5_best 72 = .ok (.ireturn, 1) := by decide +kernel
theorem dX5_best_73 : decode cX5_best 73 = .ok (.aload_n 0, 1) := by decide +kernel
theorem dX5_best_74 : decode cX5_best 74 = .ok (.invokevirtual 187, 3) := by decide +kernel
theorem dX5_best_77 : decode cX5_best 77 = .ok (.aload_n 0, 1) := by decide +kernel
theorem dX5_best_78 : decode cX5_best 78 = .ok (.getfield 42, 3) := by decide +kernel
theorem dX5_best_81 : decode cX5_best 81 = .ok (.getfield 161, 3) := by decide +kernel
theorem dX5_best_84 : decode cX5_best 84 = .ok (.ireturn, 1) := by decide +kernel
theorem dX5_best_85 : decode cX5_best 85 = .ok (.aload_n 0, 1) := by decide +kernel
theorem dX5_best_86 : decode cX5_best 86 = .ok (.invokevirtual 187, 3) := by decide +kernel
theorem dX5_best_89 : decode cX5_best 89 = .ok (.aload_n 0, 1) := by decide +kernel
theorem dX5_best_90 : decode cX5_best 90 = .ok (.getfield 42, 3) := by decide +kernel
theorem dX5_best_93 : decode cX5_best 93 = .ok (.getfield 164, 3) := by decide +kernel
theorem dX5_best_96 : decode cX5_best 96 = .ok (.ireturn, 1) := by decide +kernel
theorem dX5_best_97 : decode cX5_best 97 = .ok (.aload_n 0, 1) := by decide +kernel
theorem dX5_best_98 : decode cX5_best 98 = .ok (.invokevirtual 190, 3) := by decide +kernel
theorem dX5_best_101 : decode cX5_best 101 = .ok (.aload_n 0, 1) := by decide +kernel
theorem dX5_best_102 : decode cX5_best 102 = .ok (.getfield 42, 3) := by decide +kernel
theorem dX5_best_105 : decode cX5_best 105 = .ok (.getfield 161, 3) := by decide +kernel
theorem dX5_best_108 : decode cX5_best 108 = .ok (.ireturn, 1) := by decide +kernel
theorem dX5_best_109 : decode cX5_best 109 = .ok (.aload_n 0, 1) := by decide +kernel
theorem dX5_best_110 : decode cX5_best 110 = .ok (.invokevirtual 190, 3) := by decide +kernel
theorem dX5_best_113 : decode cX5_best 113 = .ok (.aload_n 0, 1) := by decide +kernel
theorem dX5_best_114 : decode cX5_best 114 = .ok (.getfield 42, 3) := by decide +kernel
theorem dX5_best_117 : decode cX5_best 117 = .ok (.getfield 164, 3) := by decide +kernel
theorem dX5_best_120 : decode cX5_best 120 = .ok (.ineg, 1) := by decide +kernel
theorem dX5_best_121 : decode cX5_best 121 = .ok (.ireturn, 1) := by decide +kernel
theorem dX5_best_122 : decode cX5_best 122 = .ok (.sipush (-1000), 3) := by decide +kernel
theorem dX5_best_125 : decode cX5_best 125 = .ok (.ireturn, 1) := by decide +kernel
theorem dX5_tryPacks_0 : decode cX5_tryPacks 0 = .ok (.aload_n 0, 1) := by decide +kernel
theorem dX5_tryPacks_1 : decode cX5_tryPacks 1 = .ok (.getfield 28, 3) := by decide +kernel
theorem dX5_tryPacks_4 : decode cX5_tryPacks 4 = .ok (.invokevirtual 128, 3) := by decide +kernel
theorem dX5_tryPacks_7 : decode cX5_tryPacks 7 = .ok (.istore_n 1, 1) := by decide +kernel
theorem dX5_tryPacks_8 : decode cX5_tryPacks 8 = .ok (.iconst 0, 1) := by decide +kernel
theorem dX5_tryPacks_9 : decode cX5_tryPacks 9 = .ok (.istore_n 2, 1) := by decide +kernel
theorem dX5_tryPacks_10 : decode cX5_tryPacks 10 = .ok (.iload_n 2, 1) := by decide +kernel
theorem dX5_tryPacks_11 : decode cX5_tryPacks 11 = .ok (.iconst 1, 1) := by decide +kernel
theorem dX5_tryPacks_12 : decode cX5_tryPacks 12 = .ok (.aload_n 0, 1) := by decide +kernel
theorem dX5_tryPacks_13 : decode cX5_tryPacks 13 = .ok (.getfield 28, 3) := by decide +kernel
theorem dX5_tryPacks_16 : decode cX5_tryPacks 16 = .ok (.getfield 193, 3) := by decide +kernel
theorem dX5_tryPacks_19 : decode cX5_tryPacks 19 = .ok (.ishl, 1) := by decide +kernel
theorem dX5_tryPacks_20 : decode cX5_tryPacks 20 = .ok (.if_icmp .ge 46, 3) := by decide +kernel
theorem dX5_tryPacks_23 : decode cX5_tryPacks 23 = .ok (.aload_n 0, 1) := by decide +kernel
theorem dX5_tryPacks_24 : decode cX5_tryPacks 24 = .ok (.getfield 28, 3) := by decide +kernel
theorem dX5_tryPacks_27 : decode cX5_tryPacks 27 = .ok (.iload_n 2, 1) := by decide +kernel
theorem dX5_tryPacks_28 : decode cX5_tryPacks 28 = .ok (.invokevirtual 196, 3) := by decide +kernel
theorem dX5_tryPacks_31 : decode cX5_tryPacks 31 = .ok (.istore_n 3, 1) := by decide +kernel
theorem dX5_tryPacks_32 : decode cX5_tryPacks 32 = .ok (.iload_n 2, 1) := by decide +kernel
theorem dX5_tryPacks_33 : decode cX5_tryPacks 33 = .ok (.aload_n 0, 1) := by decide +kernel
theorem dX5_tryPacks_34 : decode cX5_tryPacks 34 = .ok (.getfield 28, 3) := by decide +kernel
theorem dX5_tryPacks_37 : decode cX5_tryPacks 37 = .ok (.getfield 152, 3) := by decide +kernel
theorem dX5_tryPacks_40 : decode cX5_tryPacks 40 = .ok (.iand, 1) := by decide +kernel
theorem dX5_tryPacks_41 : decode cX5_tryPacks 41 = .ok (.ifCond .ne 19, 3) := by decide +kernel
theorem dX5_tryPacks_44 : decode cX5_tryPacks 44 = .ok (.iload_n 3, 1) := by decide +kernel
theorem dX5_tryPacks_45 : decode cX5_tryPacks 45 = .ok (.iload_n 1, 1) := by decide +kernel
theorem dX5_tryPacks_46 : decode cX5_tryPacks 46 = .ok (.if_icmp .gt 14, 3) := by decide +kernel
theorem dX5_tryPacks_49 : decode cX5_tryPacks 49 = .ok (.aload_n 0, 1) := by decide +kernel
theorem dX5_tryPacks_50 : decode cX5_tryPacks 50 = .ok (.getfield 42, 3) := by decide +kernel
theorem dX5_tryPacks_53 : decode cX5_tryPacks 53 = .ok (.iload_n 3, 1) := by decide +kernel
theorem dX5_tryPacks_54 : decode cX5_tryPacks 54 = .ok (.ineg, 1) := by decide +kernel
theorem dX5_tryPacks_55 : decode cX5_tryPacks 55 = .ok (.iconst 0, 1) := by decide +kernel
theorem dX5_tryPacks_56 : decode cX5_tryPacks 56 = .ok (.iload_n 2, 1) := by decide +kernel
theorem dX5_tryPacks_57 : decode cX5_tryPacks 57 = .ok (.invokevirtual 172, 3) := by decide +kernel
theorem dX5_tryPacks_60 : decode cX5_tryPacks 60 = .ok (.iinc 2 1, 3) := by decide +kernel
theorem dX5_tryPacks_63 : decode cX5_tryPacks 63 = .ok (.goto (-53), 3) := by decide +kernel
theorem dX5_tryPacks_66 : decode cX5_tryPacks 66 = .ok (.return_, 1) := by decide +kernel
theorem dX5_tryDelays_0 : decode cX5_tryDelays 0 = .ok (.aload_n 0, 1) := by decide +kernel
theorem dX5_tryDelays_1 : decode cX5_tryDelays 1 = .ok (.getfield 35, 3) := by decide +kernel
theorem dX5_tryDelays_4 : decode cX5_tryDelays 4 = .ok (.iconst 0, 1) := by decide +kernel
theorem dX5_tryDelays_5 : decode cX5_tryDelays 5 = .ok (.aaload, 1) := by decide +kernel
theorem dX5_tryDelays_6 : decode cX5_tryDelays 6 = .ok (.astore_n 1, 1) := by decide +kernel
theorem dX5_tryDelays_7 : decode cX5_tryDelays 7 = .ok (.iconst 0, 1) := by decide +kernel
theorem dX5_tryDelays_8 : decode cX5_tryDelays 8 = .ok (.istore_n 2, 1) := by decide +kernel
theorem dX5_tryDelays_9 : decode cX5_tryDelays 9 = .ok (.iload_n 2, 1) := by decide +kernel
theorem dX5_tryDelays_10 : decode cX5_tryDelays 10 = .ok (.bipush 7, 2) := by decide +kernel
theorem dX5_tryDelays_12 : decode cX5_tryDelays 12 = .ok (.if_icmp .gt 48, 3) := by decide +kernel
theorem dX5_tryDelays_15 : decode cX5_tryDelays 15 = .ok (.aload_n 1, 1) := by decide +kernel
theorem dX5_tryDelays_16 : decode cX5_tryDelays 16 = .ok (.aload_n 0, 1) := by decide +kernel
theorem dX5_tryDelays_17 : decode cX5_tryDelays 17 = .ok (.getfield 28, 3) := by decide +kernel
theorem dX5_tryDelays_20 : decode cX5_tryDelays 20 = .ok (.invokevirtual 133, 3) := by decide +kernel
theorem dX5_tryDelays_23 : decode cX5_tryDelays 23 = .ok (.aload_n 1, 1) := by decide +kernel
theorem dX5_tryDelays_24 : decode cX5_tryDelays 24 = .ok (.dup, 1) := by decide +kernel
theorem dX5_tryDelays_25 : decode cX5_tryDelays 25 = .ok (.getfield 111, 3) := by decide +kernel
theorem dX5_tryDelays_28 : decode cX5_tryDelays 28 = .ok (.iload_n 2, 1) := by decide +kernel
theorem dX5_tryDelays_29 : decode cX5_tryDelays 29 = .ok (.iadd, 1) := by decide +kernel
theorem dX5_tryDelays_30 : decode cX5_tryDelays 30 = .ok (.putfield 111, 3) := by decide +kernel
theorem dX5_tryDelays_33 : decode cX5_tryDelays 33 = .ok (.aload_n 1, 1) := by decide +kernel
theorem dX5_tryDelays_34 : decode cX5_tryDelays 34 = .ok (.bipush 7, 2) := by decide +kernel
theorem dX5_tryDelays_36 : decode cX5_tryDelays 36 = .ok (.iconst 0, 1) := by decide +kernel
theorem dX5_tryDelays_37 : decode cX5_tryDelays 37 = .ok (.invokevirtual 137, 3) := by decide +kernel
theorem dX5_tryDelays_40 : decode cX5_tryDelays 40 = .ok (.pop, 1) := by decide +kernel
theorem dX5_tryDelays_41 : decode cX5_tryDelays 41 = .ok (.aload_n 0, 1) := by decide +kernel
theorem dX5_tryDelays_42 : decode cX5_tryDelays 42 = .ok (.getfield 42, 3) := by decide +kernel
theorem dX5_tryDelays_45 : decode cX5_tryDelays 45 = .ok (.aload_n 1, 1) := by decide +kernel
theorem dX5_tryDelays_46 : decode cX5_tryDelays 46 = .ok (.invokevirtual 149, 3) := by decide +kernel
theorem dX5_tryDelays_49 : decode cX5_tryDelays 49 = .ok (.iconst 0, 1) := by decide +kernel
theorem dX5_tryDelays_50 : decode cX5_tryDelays 50 = .ok (.iload_n 2, 1) := by decide +kernel
theorem dX5_tryDelays_51 : decode cX5_tryDelays 51 = .ok (.invokevirtual 172, 3) := by decide +kernel
theorem dX5_tryDelays_54 : decode cX5_tryDelays 54 = .ok (.iinc 2 1, 3) := by decide +kernel
theorem dX5_tryDelays_57 : decode cX5_tryDelays 57 = .ok (.goto (-48), 3) := by decide +kernel
theorem dX5_tryDelays_60 : decode cX5_tryDelays 60 = .ok (.return_, 1) := by decide +kernel
theorem dX5_tryThrowers_0 : decode cX5_tryThrowers 0 = .ok (.iconst 0, 1) := by decide +kernel
theorem dX5_tryThrowers_1 : decode cX5_tryThrowers 1 = .ok (.istore_n 1, 1) := by decide +kernel
theorem dX5_tryThrowers_2 : decode cX5_tryThrowers 2 = .ok (.iload_n 1, 1) := by decide +kernel
theorem dX5_tryThrowers_3 : decode cX5_tryThrowers 3 = .ok (.aload_n 0, 1) := by decide +kernel
theorem dX5_tryThrowers_4 : decode cX5_tryThrowers 4 = .ok (.getfield 28, 3) := by decide +kernel
theorem dX5_tryThrowers_7 : decode cX5_tryThrowers 7 = .ok (.getfield 175, 3) := by decide +kernel
theorem dX5_tryThrowers_10 : decode cX5_tryThrowers 10 = .ok (.if_icmp .ge 28, 3) := by decide +kernel
theorem dX5_tryThrowers_13 : decode cX5_tryThrowers 13 = .ok (.aload_n 0, 1) := by decide +kernel
theorem dX5_tryThrowers_14 : decode cX5_tryThrowers 14 = .ok (.getfield 42, 3) := by decide +kernel
theorem dX5_tryThrowers_17 : decode cX5_tryThrowers 17 = .ok (.aload_n 0, 1) := by decide +kernel
theorem dX5_tryThrowers_18 : decode cX5_tryThrowers 18 = .ok (.getfield 28, 3) := by decide +kernel
theorem dX5_tryThrowers_21 : decode cX5_tryThrowers 21 = .ok (.iload_n 1, 1) := by decide +kernel
theorem dX5_tryThrowers_22 : decode cX5_tryThrowers 22 = .ok (.iconst 0, 1) := by decide +kernel
theorem dX5_tryThrowers_23 : decode cX5_tryThrowers 23 = .ok (.invokevirtual 199, 3) := by decide +kernel
theorem dX5_tryThrowers_26 : decode cX5_tryThrowers 26 = .ok (.ineg, 1) := by decide +kernel
theorem dX5_tryThrowers_27 : decode cX5_tryThrowers 27 = .ok (.iconst 0, 1) := by decide +kernel
theorem dX5_tryThrowers_28 : decode cX5_tryThrowers 28 = .ok (.iload_n 1, 1) := by decide +kernel
theorem dX5_tryThrowers_29 : decode cX5_tryThrowers 29 = .ok (.invokevirtual 172, 3) := by decide +kernel
theorem dX5_tryThrowers_32 : decode cX5_tryThrowers 32 = .ok (.iinc 1 1, 3) := by decide +kernel
theorem dX5_tryThrowers_35 : decode cX5_tryThrowers 35 = .ok (.goto (-33), 3) := by decide +kernel
theorem dX5_tryThrowers_38 : decode cX5_tryThrowers 38 = .ok (.return_, 1) := by decide +kernel
theorem dX5_share_0 : decode cX5_share 0 = .ok (.iload_n 1, 1) := by decide +kernel
theorem dX5_share_1 : decode cX5_share 1 = .ok (.iconst 0, 1) := by decide +kernel
theorem dX5_share_2 : decode cX5_share 2 = .ok (.iconst 1, 1) := by decide +kernel
theorem dX5_share_3 : decode cX5_share 3 = .ok (.invokestatic 61, 3) := by decide +kernel
theorem dX5_share_6 : decode cX5_share 6 = .ok (.ifCond .eq 13, 3) := by decide +kernel
theorem dX5_share_9 : decode cX5_share 9 = .ok (.aload_n 0, 1) := by decide +kernel
theorem dX5_share_10 : decode cX5_share 10 = .ok (.getfield 28, 3) := by decide +kernel
theorem dX5_share_13 : decode cX5_share 13 = .ok (.invokevirtual 140, 3) := by decide +kernel
theorem dX5_share_16 : decode cX5_share 16 = .ok (.ifCond .ne 7, 3) := by decide +kernel
theorem dX5_share_19 : decode cX5_share 19 = .ok (.ldc2_w 203, 3) := by decide +kernel
theorem dX5_share_22 : decode cX5_share 22 = .ok (.lreturn, 1) := by decide +kernel
theorem dX5_share_23 : decode cX5_share 23 = .ok (.aload_n 0, 1) := by decide +kernel
theorem dX5_share_24 : decode cX5_share 24 = .ok (.getfield 28, 3) := by decide +kernel
theorem dX5_share_27 : decode cX5_share 27 = .ok (.getfield 143, 3) := by decide +kernel
theorem dX5_share_30 : decode cX5_share 30 = .ok (.aload_n 0, 1) := by decide +kernel
theorem dX5_share_31 : decode cX5_share 31 = .ok (.getfield 28, 3) := by decide +kernel
theorem dX5_share_34 : decode cX5_share 34 = .ok (.invokevirtual 140, 3) := by decide +kernel
theorem dX5_share_37 : decode cX5_share 37 = .ok (.iload_n 1, 1) := by decide +kernel
theorem dX5_share_38 : decode cX5_share 38 = .ok (.invokestatic 205, 3) := by decide +kernel
theorem dX5_share_41 : decode cX5_share 41 = .ok (.lreturn, 1) := by decide +kernel
theorem dX5_lowest_0 : decode cX5_lowest 0 = .ok (.iload_n 0, 1) := by decide +kernel
theorem dX5_lowest_1 : decode cX5_lowest 1 = .ok (.iload_n 1, 1) := by decide +kernel
theorem dX5_lowest_2 : decode cX5_lowest 2 = .ok (.invokestatic 209, 3) := by decide +kernel
theorem dX5_lowest_5 : decode cX5_lowest 5 = .ok (.istore_n 3, 1) := by decide +kernel
theorem dX5_lowest_6 : decode cX5_lowest 6 = .ok (.iload_n 3, 1) := by decide +kernel
theorem dX5_lowest_7 : decode cX5_lowest 7 = .ok (.ifCond .ne 7, 3) := by decide +kernel
theorem dX5_lowest_10 : decode cX5_lowest 10 = .ok (.ldc2_w 203, 3) := by decide +kernel
theorem dX5_lowest_13 : decode cX5_lowest 13 = .ok (.lreturn, 1) := by decide +kernel
theorem dX5_lowest_14 : decode cX5_lowest 14 = .ok (.iload_n 2, 1) := by decide +kernel
theorem dX5_lowest_15 : decode cX5_lowest 15 = .ok (.ifCond .ne 7, 3) := by decide +kernel
theorem dX5_lowest_18 : decode cX5_lowest 18 = .ok (.iload_n 0, 1) := by decide +kernel
theorem dX5_lowest_19 : decode cX5_lowest 19 = .ok (.goto 4, 3) := by decide +kernel
theorem dX5_lowest_22 : decode cX5_lowest 22 = .ok (.iload_n 1, 1) := by decide +kernel
theorem dX5_lowest_23 : decode cX5_lowest 23 = .ok (.iload_n 3, 1) := by decide +kernel
theorem dX5_lowest_24 : decode cX5_lowest 24 = .ok (.idiv, 1) := by decide +kernel
theorem dX5_lowest_25 : decode cX5_lowest 25 = .ok (.i2l, 1) := by decide +kernel
theorem dX5_lowest_26 : decode cX5_lowest 26 = .ok (.lreturn, 1) := by decide +kernel
theorem dX5_commonDivisor_0 : decode cX5_commonDivisor 0 = .ok (.iconst 0, 1) := by decide +kernel
theorem dX5_commonDivisor_1 : decode cX5_commonDivisor 1 = .ok (.istore_n 2, 1) := by decide +kernel
theorem dX5_commonDivisor_2 : decode cX5_commonDivisor 2 = .ok (.iload_n 2, 1) := by decide +kernel
theorem dX5_commonDivisor_3 : decode cX5_commonDivisor 3 = .ok (.bipush 64, 2) := by decide +kernel
theorem dX5_commonDivisor_5 : decode cX5_commonDivisor 5 = .ok (.if_icmp .ge 21, 3) := by decide +kernel
theorem dX5_commonDivisor_8 : decode cX5_commonDivisor 8 = .ok (.iload_n 1, 1) := by decide +kernel
theorem dX5_commonDivisor_9 : decode cX5_commonDivisor 9 = .ok (.ifCond .eq 17, 3) := by decide +kernel
theorem dX5_commonDivisor_12 : decode cX5_commonDivisor 12 = .ok (.iload_n 0, 1) := by decide +kernel
theorem dX5_commonDivisor_13 : decode cX5_commonDivisor 13 = .ok (.iload_n 1, 1) := by decide +kernel
theorem dX5_commonDivisor_14 : decode cX5_commonDivisor 14 = .ok (.irem, 1) := by decide +kernel
theorem dX5_commonDivisor_15 : decode cX5_commonDivisor 15 = .ok (.istore_n 3, 1) := by decide +kernel
theorem dX5_commonDivisor_16 : decode cX5_commonDivisor 16 = .ok (.iload_n 1, 1) := by decide +kernel
theorem dX5_commonDivisor_17 : decode cX5_commonDivisor 17 = .ok (.istore_n 0, 1) := by decide +kernel
theorem dX5_commonDivisor_18 : decode cX5_commonDivisor 18 = .ok (.iload_n 3, 1) := by decide +kernel
theorem dX5_commonDivisor_19 : decode cX5_commonDivisor 19 = .ok (.istore_n 1, 1) := by decide +kernel
theorem dX5_commonDivisor_20 : decode cX5_commonDivisor 20 = .ok (.iinc 2 1, 3) := by decide +kernel
theorem dX5_commonDivisor_23 : decode cX5_commonDivisor 23 = .ok (.goto (-21), 3) := by decide +kernel
theorem dX5_commonDivisor_26 : decode cX5_commonDivisor 26 = .ok (.iload_n 0, 1) := by decide +kernel
theorem dX5_commonDivisor_27 : decode cX5_commonDivisor 27 = .ok (.ireturn, 1) := by decide +kernel
theorem dX5_tells_0 : decode cX5_tells 0 = .ok (.aload_n 0, 1) := by decide +kernel
theorem dX5_tells_1 : decode cX5_tells 1 = .ok (.iload_n 1, 1) := by decide +kernel
theorem dX5_tells_2 : decode cX5_tells 2 = .ok (.invokevirtual 212, 3) := by decide +kernel
theorem dX5_tells_5 : decode cX5_tells 5 = .ok (.astore 4, 2) := by decide +kernel
theorem dX5_tells_7 : decode cX5_tells 7 = .ok (.aload 4, 2) := by decide +kernel
theorem dX5_tells_9 : decode cX5_tells 9 = .ok (.ifnull 24, 3) := by decide +kernel
theorem dX5_tells_12 : decode cX5_tells 12 = .ok (.aload_n 0, 1) := by decide +kernel
theorem dX5_tells_13 : decode cX5_tells 13 = .ok (.getfield 28, 3) := by decide +kernel
theorem dX5_tells_16 : decode cX5_tells 16 = .ok (.iload_n 2, 1) := by decide +kernel
theorem dX5_tells_17 : decode cX5_tells 17 = .ok (.invokevirtual 82, 3) := by decide +kernel
theorem dX5_tells_20 : decode cX5_tells 20 = .ok (.ifCond .eq 13, 3) := by decide +kernel
theorem dX5_tells_23 : decode cX5_tells 23 = .ok (.iload_n 3, 1) := by decide +kernel
theorem dX5_tells_24 : decode cX5_tells 24 = .ok (.iconst 0, 1) := by decide +kernel
theorem dX5_tells_25 : decode cX5_tells 25 = .ok (.bipush 7, 2) := by decide +kernel
theorem dX5_tells_27 : decode cX5_tells 27 = .ok (.invokestatic 61, 3) := by decide +kernel
theorem dX5_tells_30 : decode cX5_tells 30 = .ok (.ifCond .ne 6, 3) := by decide +kernel
theorem dX5_tells_33 : decode cX5_tells 33 = .ok (.bipush (-2), 2) := by decide +kernel
theorem dX5_tells_35 : decode cX5_tells 35 = .ok (.ireturn, 1) := by decide +kernel
theorem dX5_tells_36 : decode cX5_tells 36 = .ok (.aload 4, 2) := by decide +kernel
theorem dX5_tells_38 : decode cX5_tells 38 = .ok (.invokevirtual 216, 3) := by decide +kernel
theorem dX5_tells_41 : decode cX5_tells 41 = .ok (.ifCond .eq 6, 3) := by decide +kernel
theorem dX5_tells_44 : decode cX5_tells 44 = .ok (.bipush (-11), 2) := by decide +kernel
theorem dX5_tells_46 : decode cX5_tells 46 = .ok (.ireturn, 1) := by decide +kernel
theorem dX5_tells_47 : decode cX5_tells 47 = .ok (.aload 4, 2) := by decide +kernel
theorem dX5_tells_49 : decode cX5_tells 49 = .ok (.getfield 220, 3) := by decide +kernel
theorem dX5_tells_52 : decode cX5_tells 52 = .ok (.bipush 20, 2) := by decide +kernel
theorem dX5_tells_54 : decode cX5_tells 54 = .ok (.if_icmp .le 6, 3) := by decide +kernel
theorem dX5_tells_57 : decode cX5_tells 57 = .ok (.bipush (-2), 2) := by decide +kernel
theorem dX5_tells_59 : decode cX5_tells 59 = .ok (.ireturn, 1) := by decide +kernel
theorem dX5_tells_60 : decode cX5_tells 60 = .ok (.iload_n 3, 1) := by decide +kernel
theorem dX5_tells_61 : decode cX5_tells 61 = .ok (.tableswitch 134 0 6 #[43, 64, 75, 86, 94, 102, 118], 43) := by decide +kernel
theorem dX5_tells_104 : decode cX5_tells 104 = .ok (.aload_n 0, 1) := by decide +kernel
theorem dX5_tells_105 : decode cX5_tells 105 = .ok (.getfield 35, 3) := by decide +kernel
theorem dX5_tells_108 : decode cX5_tells 108 = .ok (.iconst 0, 1) := by decide +kernel
theorem dX5_tells_109 : decode cX5_tells 109 = .ok (.aaload, 1) := by decide +kernel
theorem dX5_tells_110 : decode cX5_tells 110 = .ok (.aload_n 0, 1) := by decide +kernel
theorem dX5_tells_111 : decode cX5_tells 111 = .ok (.getfield 28, 3) := by decide +kernel
theorem dX5_tells_114 : decode cX5_tells 114 = .ok (.invokevirtual 133, 3) := by decide +kernel
theorem dX5_tells_117 : decode cX5_tells 117 = .ok (.aload_n 0, 1) := by decide +kernel
theorem dX5_tells_118 : decode cX5_tells 118 = .ok (.aload 4, 2) := by decide +kernel
theorem dX5_tells_120 : decode cX5_tells 120 = .ok (.iload_n 2, 1) := by decide +kernel
theorem dX5_tells_121 : decode cX5_tells 121 = .ok (.invokevirtual 221, 3) := by decide +kernel
theorem dX5_tells_124 : decode cX5_tells 124 = .ok (.ireturn, 1) := by decide +kernel
theorem dX5_tells_125 : decode cX5_tells 125 = .ok (.aload_n 0, 1) := by decide +kernel
theorem dX5_tells_126 : decode cX5_tells 126 = .ok (.aload 4, 2) := by decide +kernel
theorem dX5_tells_128 : decode cX5_tells 128 = .ok (.iload_n 2, 1) := by decide +kernel
theorem dX5_tells_129 : decode cX5_tells 129 = .ok (.iload_n 3, 1) := by decide +kernel
theorem dX5_tells_130 : decode cX5_tells 130 = .ok (.bipush 6, 2) := by decide +kernel
theorem dX5_tells_132 : decode cX5_tells 132 = .ok (.invokevirtual 225, 3) := by decide +kernel
theorem dX5_tells_135 : decode cX5_tells 135 = .ok (.ireturn, 1) := by decide +kernel
theorem dX5_tells_136 : decode cX5_tells 136 = .ok (.aload_n 0, 1) := by decide +kernel
theorem dX5_tells_137 : decode cX5_tells 137 = .ok (.aload 4, 2) := by decide +kernel
theorem dX5_tells_139 : decode cX5_tells 139 = .ok (.iload_n 2, 1) := by decide +kernel
theorem dX5_tells_140 : decode cX5_tells 140 = .ok (.iload_n 3, 1) := by decide +kernel
theorem dX5_tells_141 : decode cX5_tells 141 = .ok (.bipush 10, 2) := by decide +kernel
theorem dX5_tells_143 : decode cX5_tells 143 = .ok (.invokevirtual 225, 3) := by decide +kernel
theorem dX5_tells_146 : decode cX5_tells 146 = .ok (.ireturn, 1) := by decide +kernel
theorem dX5_tells_147 : decode cX5_tells 147 = .ok (.aload_n 0, 1) := by decide +kernel
theorem dX5_tells_148 : decode cX5_tells 148 = .ok (.aload 4, 2) := by decide +kernel
theorem dX5_tells_150 : decode cX5_tells 150 = .ok (.iload_n 2, 1) := by decide +kernel
theorem dX5_tells_151 : decode cX5_tells 151 = .ok (.invokevirtual 229, 3) := by decide +kernel
theorem dX5_tells_154 : decode cX5_tells 154 = .ok (.ireturn, 1) := by decide +kernel
theorem dX5_tells_155 : decode cX5_tells 155 = .ok (.aload_n 0, 1) := by decide +kernel
theorem dX5_tells_156 : decode cX5_tells 156 = .ok (.aload 4, 2) := by decide +kernel
theorem dX5_tells_158 : decode cX5_tells 158 = .ok (.iload_n 2, 1) := by decide +kernel
theorem dX5_tells_159 : decode cX5_tells 159 = .ok (.invokevirtual 232, 3) := by decide +kernel
theorem dX5_tells_162 : decode cX5_tells 162 = .ok (.ireturn, 1) := by decide +kernel
theorem dX5_tells_163 : decode cX5_tells 163 = .ok (.aload_n 0, 1) := by decide +kernel
theorem dX5_tells_164 : decode cX5_tells 164 = .ok (.aload 4, 2) := by decide +kernel
theorem dX5_tells_166 : decode cX5_tells 166 = .ok (.iload_n 2, 1) := by decide +kernel
theorem dX5_tells_167 : decode cX5_tells 167 = .ok (.iload_n 3, 1) := by decide +kernel
theorem dX5_tells_168 : decode cX5_tells 168 = .ok (.aload_n 0, 1) := by decide +kernel
theorem dX5_tells_169 : decode cX5_tells 169 = .ok (.getfield 10, 3) := by decide +kernel
theorem dX5_tells_172 : decode cX5_tells 172 = .ok (.getfield 92, 3) := by decide +kernel
theorem dX5_tells_175 : decode cX5_tells 175 = .ok (.invokevirtual 225, 3) := by decide +kernel
theorem dX5_tells_178 : decode cX5_tells 178 = .ok (.ireturn, 1) := by decide +kernel
theorem dX5_tells_179 : decode cX5_tells 179 = .ok (.aload_n 0, 1) := by decide +kernel
theorem dX5_tells_180 : decode cX5_tells 180 = .ok (.aload 4, 2) := by decide +kernel
theorem dX5_tells_182 : decode cX5_tells 182 = .ok (.iload_n 2, 1) := by decide +kernel
theorem dX5_tells_183 : decode cX5_tells 183 = .ok (.iload_n 3, 1) := by decide +kernel
theorem dX5_tells_184 : decode cX5_tells 184 = .ok (.aload_n 0, 1) := by decide +kernel
theorem dX5_tells_185 : decode cX5_tells 185 = .ok (.getfield 28, 3) := by decide +kernel
theorem dX5_tells_188 : decode cX5_tells 188 = .ok (.getfield 175, 3) := by decide +kernel
theorem dX5_tells_191 : decode cX5_tells 191 = .ok (.invokevirtual 225, 3) := by decide +kernel
theorem dX5_tells_194 : decode cX5_tells 194 = .ok (.ireturn, 1) := by decide +kernel
theorem dX5_tells_195 : decode cX5_tells 195 = .ok (.aload_n 0, 1) := by decide +kernel
theorem dX5_tells_196 : decode cX5_tells 196 = .ok (.aload 4, 2) := by decide +kernel
theorem dX5_tells_198 : decode cX5_tells 198 = .ok (.iload_n 2, 1) := by decide +kernel
theorem dX5_tells_199 : decode cX5_tells 199 = .ok (.iload_n 3, 1) := by decide +kernel
theorem dX5_tells_200 : decode cX5_tells 200 = .ok (.iconst 2, 1) := by decide +kernel
theorem dX5_tells_201 : decode cX5_tells 201 = .ok (.invokevirtual 225, 3) := by decide +kernel
theorem dX5_tells_204 : decode cX5_tells 204 = .ok (.ireturn, 1) := by decide +kernel
theorem dX5_firstOtherwise_0 : decode cX5_firstOtherwise 0 = .ok (.aload_n 0, 1) := by decide +kernel
theorem dX5_firstOtherwise_1 : decode cX5_firstOtherwise 1 = .ok (.getfield 35, 3) := by decide +kernel
theorem dX5_firstOtherwise_4 : decode cX5_firstOtherwise 4 = .ok (.iconst 0, 1) := by decide +kernel
theorem dX5_firstOtherwise_5 : decode cX5_firstOtherwise 5 = .ok (.aaload, 1) := by decide +kernel
theorem dX5_firstOtherwise_6 : decode cX5_firstOtherwise 6 = .ok (.astore_n 3, 1) := by decide +kernel
theorem dX5_firstOtherwise_7 : decode cX5_firstOtherwise 7 = .ok (.iconst 0, 1) := by decide +kernel
theorem dX5_firstOtherwise_8 : decode cX5_firstOtherwise 8 = .ok (.istore 4, 2) := by decide +kernel
theorem dX5_firstOtherwise_10 : decode cX5_firstOtherwise 10 = .ok (.iload 4, 2) := by decide +kernel
theorem dX5_firstOtherwise_12 : decode cX5_firstOtherwise 12 = .ok (.aload_n 1, 1) := by decide +kernel
theorem dX5_firstOtherwise_13 : decode cX5_firstOtherwise 13 = .ok (.getfield 220, 3) := by decide +kernel
theorem dX5_firstOtherwise_16 : decode cX5_firstOtherwise 16 = .ok (.if_icmp .ge 42, 3) := by decide +kernel
theorem dX5_firstOtherwise_19 : decode cX5_firstOtherwise 19 = .ok (.aload_n 3, 1) := by decide +kernel
theorem dX5_firstOtherwise_20 : decode cX5_firstOtherwise 20 = .ok (.aload_n 0, 1) := by decide +kernel
theorem dX5_firstOtherwise_21 : decode cX5_firstOtherwise 21 = .ok (.getfield 28, 3) := by decide +kernel
theorem dX5_firstOtherwise_24 : decode cX5_firstOtherwise 24 = .ok (.getfield 111, 3) := by decide +kernel
theorem dX5_firstOtherwise_27 : decode cX5_firstOtherwise 27 = .ok (.iload 4, 2) := by decide +kernel
theorem dX5_firstOtherwise_29 : decode cX5_firstOtherwise 29 = .ok (.iadd, 1) := by decide +kernel
theorem dX5_firstOtherwise_30 : decode cX5_firstOtherwise 30 = .ok (.putfield 111, 3) := by decide +kernel
theorem dX5_firstOtherwise_33 : decode cX5_firstOtherwise 33 = .ok (.aload_n 3, 1) := by decide +kernel
theorem dX5_firstOtherwise_34 : decode cX5_firstOtherwise 34 = .ok (.iload_n 2, 1) := by decide +kernel
theorem dX5_firstOtherwise_35 : decode cX5_firstOtherwise 35 = .ok (.iconst 0, 1) := by decide +kernel
theorem dX5_firstOtherwise_36 : decode cX5_firstOtherwise 36 = .ok (.invokevirtual 199, 3) := by decide +kernel
theorem dX5_firstOtherwise_39 : decode cX5_firstOtherwise 39 = .ok (.aload_n 1, 1) := by decide +kernel
theorem dX5_firstOtherwise_40 : decode cX5_firstOtherwise 40 = .ok (.getfield 235, 3) := by decide +kernel
theorem dX5_firstOtherwise_43 : decode cX5_firstOtherwise 43 = .ok (.iload 4, 2) := by decide +kernel
theorem dX5_firstOtherwise_45 : decode cX5_firstOtherwise 45 = .ok (.iaload, 1) := by decide +kernel
theorem dX5_firstOtherwise_46 : decode cX5_firstOtherwise 46 = .ok (.if_icmp .eq 6, 3) := by decide +kernel
theorem dX5_firstOtherwise_49 : decode cX5_firstOtherwise 49 = .ok (.iload 4, 2) := by decide +kernel
theorem dX5_firstOtherwise_51 : decode cX5_firstOtherwise 51 = .ok (.ireturn, 1) := by decide +kernel
theorem dX5_firstOtherwise_52 : decode cX5_firstOtherwise 52 = .ok (.iinc 4 1, 3) := by decide +kernel
theorem dX5_firstOtherwise_55 : decode cX5_firstOtherwise 55 = .ok (.goto (-45), 3) := by decide +kernel
theorem dX5_firstOtherwise_58 : decode cX5_firstOtherwise 58 = .ok (.iconst (-1), 1) := by decide +kernel
theorem dX5_firstOtherwise_59 : decode cX5_firstOtherwise 59 = .ok (.ireturn, 1) := by decide +kernel
theorem dX5_fits_0 : decode cX5_fits 0 = .ok (.aload_n 0, 1) := by decide +kernel
theorem dX5_fits_1 : decode cX5_fits 1 = .ok (.getfield 35, 3) := by decide +kernel
theorem dX5_fits_4 : decode cX5_fits 4 = .ok (.iconst 0, 1) := by decide +kernel
theorem dX5_fits_5 : decode cX5_fits 5 = .ok (.aaload, 1) := by decide +kernel
theorem dX5_fits_6 : decode cX5_fits 6 = .ok (.astore 5, 2) := by decide +kernel
theorem dX5_fits_8 : decode cX5_fits 8 = .ok (.aload 5, 2) := by decide +kernel
theorem dX5_fits_10 : decode cX5_fits 10 = .ok (.aload_n 0, 1) := by decide +kernel
theorem dX5_fits_11 : decode cX5_fits 11 = .ok (.getfield 28, 3) := by decide +kernel
theorem dX5_fits_14 : decode cX5_fits 14 = .ok (.invokevirtual 133, 3) := by decide +kernel
theorem dX5_fits_17 : decode cX5_fits 17 = .ok (.iload_n 2, 1) := by decide +kernel
theorem dX5_fits_18 : decode cX5_fits 18 = .ok (.istore 6, 2) := by decide +kernel
theorem dX5_fits_20 : decode cX5_fits 20 = .ok (.iload_n 3, 1) := by decide +kernel
theorem dX5_fits_21 : decode cX5_fits 21 = .ok (.tableswitch 90 1 6 #[39, 51, 63, 90, 73, 83], 39) := by decide +kernel
theorem dX5_fits_60 : decode cX5_fits 60 = .ok (.aload 5, 2) := by decide +kernel
theorem dX5_fits_62 : decode cX5_fits 62 = .ok (.getfield 239, 3) := by decide +kernel
theorem dX5_fits_65 : decode cX5_fits 65 = .ok (.iload_n 2, 1) := by decide +kernel
theorem dX5_fits_66 : decode cX5_fits 66 = .ok (.iload 4, 2) := by decide +kernel
theorem dX5_fits_68 : decode cX5_fits 68 = .ok (.iastore, 1) := by decide +kernel
theorem dX5_fits_69 : decode cX5_fits 69 = .ok (.goto 50, 3) := by decide +kernel
theorem dX5_fits_72 : decode cX5_fits 72 = .ok (.aload 5, 2) := by decide +kernel
theorem dX5_fits_74 : decode cX5_fits 74 = .ok (.getfield 242, 3) := by decide +kernel
theorem dX5_fits_77 : decode cX5_fits 77 = .ok (.iload_n 2, 1) := by decide +kernel
theorem dX5_fits_78 : decode cX5_fits 78 = .ok (.iload 4, 2) := by decide +kernel
theorem dX5_fits_80 : decode cX5_fits 80 = .ok (.iastore, 1) := by decide +kernel
theorem dX5_fits_81 : decode cX5_fits 81 = .ok (.goto 38, 3) := by decide +kernel
theorem dX5_fits_84 : decode cX5_fits 84 = .ok (.aload 5, 2) := by decide +kernel
theorem dX5_fits_86 : decode cX5_fits 86 = .ok (.iload 4, 2) := by decide +kernel
theorem dX5_fits_88 : decode cX5_fits 88 = .ok (.putfield 143, 3) := by decide +kernel
theorem dX5_fits_91 : decode cX5_fits 91 = .ok (.goto 28, 3) := by decide +kernel
theorem dX5_fits_94 : decode cX5_fits 94 = .ok (.aload 5, 2) := by decide +kernel
theorem dX5_fits_96 : decode cX5_fits 96 = .ok (.iload 4, 2) := by decide +kernel
theorem dX5_fits_98 : decode cX5_fits 98 = .ok (.putfield 108, 3) := by decide +kernel
theorem dX5_fits_101 : decode cX5_fits 101 = .ok (.goto 18, 3) := by decide +kernel
theorem dX5_fits_104 : decode cX5_fits 104 = .ok (.iload 4, 2) := by decide +kernel
theorem dX5_fits_106 : decode cX5_fits 106 = .ok (.istore 6, 2) := by decide +kernel
theorem dX5_fits_108 : decode cX5_fits 108 = .ok (.goto 11, 3) := by decide +kernel
theorem dX5_fits_111 : decode cX5_fits 111 = .ok (.aload 5, 2) := by decide +kernel
theorem dX5_fits_113 : decode cX5_fits 113 = .ok (.iload_n 2, 1) := by decide +kernel
theorem dX5_fits_114 : decode cX5_fits 114 = .ok (.iload 4, 2) := by decide +kernel
theorem dX5_fits_116 : decode cX5_fits 116 = .ok (.invokevirtual 245, 3) := by decide +kernel
theorem dX5_fits_119 : decode cX5_fits 119 = .ok (.aload_n 0, 1) := by decide +kernel
theorem dX5_fits_120 : decode cX5_fits 120 = .ok (.aload_n 1, 1) := by decide +kernel
theorem dX5_fits_121 : decode cX5_fits 121 = .ok (.iload 6, 2) := by decide +kernel
theorem dX5_fits_123 : decode cX5_fits 123 = .ok (.invokevirtual 221, 3) := by decide +kernel
theorem dX5_fits_126 : decode cX5_fits 126 = .ok (.iconst (-1), 1) := by decide +kernel
theorem dX5_fits_127 : decode cX5_fits 127 = .ok (.if_icmp .ne 7, 3) := by decide +kernel
theorem dX5_fits_130 : decode cX5_fits 130 = .ok (.iconst 1, 1) := by decide +kernel
theorem dX5_fits_131 : decode cX5_fits 131 = .ok (.goto 4, 3) := by decide +kernel
theorem dX5_fits_134 : decode cX5_fits 134 = .ok (.iconst 0, 1) := by decide +kernel
theorem dX5_fits_135 : decode cX5_fits 135 = .ok (.ireturn, 1) := by decide +kernel
theorem dX5_fittingBits_0 : decode cX5_fittingBits 0 = .ok (.iconst 0, 1) := by decide +kernel
theorem dX5_fittingBits_1 : decode cX5_fittingBits 1 = .ok (.istore 5, 2) := by decide +kernel
theorem dX5_fittingBits_3 : decode cX5_fittingBits 3 = .ok (.iconst 0, 1) := by decide +kernel
theorem dX5_fittingBits_4 : decode cX5_fittingBits 4 = .ok (.istore 6, 2) := by decide +kernel
theorem dX5_fittingBits_6 : decode cX5_fittingBits 6 = .ok (.iload 6, 2) := by decide +kernel
theorem dX5_fittingBits_8 : decode cX5_fittingBits 8 = .ok (.iload 4, 2) := by decide +kernel
theorem dX5_fittingBits_10 : decode cX5_fittingBits 10 = .ok (.if_icmp .ge 30, 3) := by decide +kernel
theorem dX5_fittingBits_13 : decode cX5_fittingBits 13 = .ok (.aload_n 0, 1) := by decide +kernel
theorem dX5_fittingBits_14 : decode cX5_fittingBits 14 = .ok (.aload_n 1, 1) := by decide +kernel
theorem dX5_fittingBits_15 : decode cX5_fittingBits 15 = .ok (.iload_n 2, 1) := by decide +kernel
theorem dX5_fittingBits_16 : decode cX5_fittingBits 16 = .ok (.iload_n 3, 1) := by decide +kernel
theorem dX5_fittingBits_17 : decode cX5_fittingBits 17 = .ok (.iload 6, 2) := by decide +kernel
theorem dX5_fittingBits_19 : decode cX5_fittingBits 19 = .ok (.invokevirtual 249, 3) := by decide +kernel
theorem dX5_fittingBits_22 : decode cX5_fittingBits 22 = .ok (.ifCond .eq 12, 3) := by decide +kernel
theorem dX5_fittingBits_25 : decode cX5_fittingBits 25 = .ok (.iload 5, 2) := by decide +kernel
theorem dX5_fittingBits_27 : decode cX5_fittingBits 27 = .ok (.iconst 1, 1) := by decide +kernel
theorem dX5_fittingBits_28 : decode cX5_fittingBits 28 = .ok (.iload 6, 2) := by decide +kernel
theorem dX5_fittingBits_30 : decode cX5_fittingBits 30 = .ok (.ishl, 1) := by decide +kernel
theorem dX5_fittingBits_31 : decode cX5_fittingBits 31 = .ok (.ior, 1) := by decide +kernel
theorem dX5_fittingBits_32 : decode cX5_fittingBits 32 = .ok (.istore 5, 2) := by decide +kernel
theorem dX5_fittingBits_34 : decode cX5_fittingBits 34 = .ok (.iinc 6 1, 3) := by decide +kernel
theorem dX5_fittingBits_37 : decode cX5_fittingBits 37 = .ok (.goto (-31), 3) := by decide +kernel
theorem dX5_fittingBits_40 : decode cX5_fittingBits 40 = .ok (.iload 5, 2) := by decide +kernel
theorem dX5_fittingBits_42 : decode cX5_fittingBits 42 = .ok (.ireturn, 1) := by decide +kernel
theorem dX5_fittingMines_0 : decode cX5_fittingMines 0 = .ok (.iconst 0, 1) := by decide +kernel
theorem dX5_fittingMines_1 : decode cX5_fittingMines 1 = .ok (.istore_n 3, 1) := by decide +kernel
theorem dX5_fittingMines_2 : decode cX5_fittingMines 2 = .ok (.iconst 0, 1) := by decide +kernel
theorem dX5_fittingMines_3 : decode cX5_fittingMines 3 = .ok (.istore 4, 2) := by decide +kernel
theorem dX5_fittingMines_5 : decode cX5_fittingMines 5 = .ok (.iload 4, 2) := by decide +kernel
theorem dX5_fittingMines_7 : decode cX5_fittingMines 7 = .ok (.bipush 100, 2) := by decide +kernel
theorem dX5_fittingMines_9 : decode cX5_fittingMines 9 = .ok (.if_icmp .ge 24, 3) := by decide +kernel
theorem dX5_fittingMines_12 : decode cX5_fittingMines 12 = .ok (.aload_n 0, 1) := by decide +kernel
theorem dX5_fittingMines_13 : decode cX5_fittingMines 13 = .ok (.aload_n 1, 1) := by decide +kernel
theorem dX5_fittingMines_14 : decode cX5_fittingMines 14 = .ok (.iload_n 2, 1) := by decide +kernel
theorem dX5_fittingMines_15 : decode cX5_fittingMines 15 = .ok (.iconst 3, 1) := by decide +kernel
theorem dX5_fittingMines_16 : decode cX5_fittingMines 16 = .ok (.iload 4, 2) := by decide +kernel
theorem dX5_fittingMines_18 : decode cX5_fittingMines 18 = .ok (.invokevirtual 249, 3) := by decide +kernel
theorem dX5_fittingMines_21 : decode cX5_fittingMines 21 = .ok (.ifCond .eq 6, 3) := by decide +kernel
theorem dX5_fittingMines_24 : decode cX5_fittingMines 24 = .ok (.iinc 3 1, 3) := by decide +kernel
theorem dX5_fittingMines_27 : decode cX5_fittingMines 27 = .ok (.iinc 4 1, 3) := by decide +kernel
theorem dX5_fittingMines_30 : decode cX5_fittingMines 30 = .ok (.goto (-25), 3) := by decide +kernel
theorem dX5_fittingMines_33 : decode cX5_fittingMines 33 = .ok (.iload_n 3, 1) := by decide +kernel
theorem dX5_fittingMines_34 : decode cX5_fittingMines 34 = .ok (.ireturn, 1) := by decide +kernel
theorem dX5_leastFittingMine_0 : decode cX5_leastFittingMine 0 = .ok (.iconst 0, 1) := by decide +kernel
theorem dX5_leastFittingMine_1 : decode cX5_leastFittingMine 1 = .ok (.istore_n 3, 1) := by decide +kernel
theorem dX5_leastFittingMine_2 : decode cX5_leastFittingMine 2 = .ok (.iload_n 3, 1) := by decide +kernel
theorem dX5_leastFittingMine_3 : decode cX5_leastFittingMine 3 = .ok (.bipush 100, 2) := by decide +kernel
theorem dX5_leastFittingMine_5 : decode cX5_leastFittingMine 5 = .ok (.if_icmp .ge 22, 3) := by decide +kernel
theorem dX5_leastFittingMine_8 : decode cX5_leastFittingMine 8 = .ok (.aload_n 0, 1) := by decide +kernel
theorem dX5_leastFittingMine_9 : decode cX5_leastFittingMine 9 = .ok (.aload_n 1, 1) := by decide +kernel
theorem dX5_leastFittingMine_10 : decode cX5_leastFittingMine 10 = .ok (.iload_n 2, 1) := by decide +kernel
theorem dX5_leastFittingMine_11 : decode cX5_leastFittingMine 11 = .ok (.iconst 3, 1) := by decide +kernel
theorem dX5_leastFittingMine_12 : decode cX5_leastFittingMine 12 = .ok (.iload_n 3, 1) := by decide +kernel
theorem dX5_leastFittingMine_13 : decode cX5_leastFittingMine 13 = .ok (.invokevirtual 249, 3) := by decide +kernel
theorem dX5_leastFittingMine_16 : decode cX5_leastFittingMine 16 = .ok (.ifCond .eq 5, 3) := by decide +kernel
theorem dX5_leastFittingMine_19 : decode cX5_leastFittingMine 19 = .ok (.iload_n 3, 1) := by decide +kernel
theorem dX5_leastFittingMine_20 : decode cX5_leastFittingMine 20 = .ok (.ireturn, 1) := by decide +kernel
theorem dX5_leastFittingMine_21 : decode cX5_leastFittingMine 21 = .ok (.iinc 3 1, 3) := by decide +kernel
theorem dX5_leastFittingMine_24 : decode cX5_leastFittingMine 24 = .ok (.goto (-22), 3) := by decide +kernel
theorem dX5_leastFittingMine_27 : decode cX5_leastFittingMine 27 = .ok (.iconst (-1), 1) := by decide +kernel
theorem dX5_leastFittingMine_28 : decode cX5_leastFittingMine 28 = .ok (.ireturn, 1) := by decide +kernel
theorem dX5_film_0 : decode cX5_film 0 = .ok (.aload_n 0, 1) := by decide +kernel
theorem dX5_film_1 : decode cX5_film 1 = .ok (.iload_n 1, 1) := by decide +kernel
theorem dX5_film_2 : decode cX5_film 2 = .ok (.invokevirtual 212, 3) := by decide +kernel
theorem dX5_film_5 : decode cX5_film 5 = .ok (.astore 4, 2) := by decide +kernel
theorem dX5_film_7 : decode cX5_film 7 = .ok (.aload 4, 2) := by decide +kernel
theorem dX5_film_9 : decode cX5_film 9 = .ok (.ifnull 24, 3) := by decide +kernel
theorem dX5_film_12 : decode cX5_film 12 = .ok (.aload_n 0, 1) := by decide +kernel
theorem dX5_film_13 : decode cX5_film 13 = .ok (.getfield 28, 3) := by decide +kernel
theorem dX5_film_16 : decode cX5_film 16 = .ok (.iload_n 2, 1) := by decide +kernel
theorem dX5_film_17 : decode cX5_film 17 = .ok (.invokevirtual 82, 3) := by decide +kernel
theorem dX5_film_20 : decode cX5_film 20 = .ok (.ifCond .eq 13, 3) := by decide +kernel
theorem dX5_film_23 : decode cX5_film 23 = .ok (.iload_n 3, 1) := by decide +kernel
theorem dX5_film_24 : decode cX5_film 24 = .ok (.iconst 0, 1) := by decide +kernel
theorem dX5_film_25 : decode cX5_film 25 = .ok (.bipush 20, 2) := by decide +kernel
theorem dX5_film_27 : decode cX5_film 27 = .ok (.invokestatic 61, 3) := by decide +kernel
theorem dX5_film_30 : decode cX5_film 30 = .ok (.ifCond .ne 6, 3) := by decide +kernel
theorem dX5_film_33 : decode cX5_film 33 = .ok (.bipush (-2), 2) := by decide +kernel
theorem dX5_film_35 : decode cX5_film 35 = .ok (.ireturn, 1) := by decide +kernel
theorem dX5_film_36 : decode cX5_film 36 = .ok (.aload 4, 2) := by decide +kernel
theorem dX5_film_38 : decode cX5_film 38 = .ok (.iconst 0, 1) := by decide +kernel
theorem dX5_film_39 : decode cX5_film 39 = .ok (.iload_n 3, 1) := by decide +kernel
theorem dX5_film_40 : decode cX5_film 40 = .ok (.invokevirtual 253, 3) := by decide +kernel
theorem dX5_film_43 : decode cX5_film 43 = .ok (.aload_n 0, 1) := by decide +kernel
theorem dX5_film_44 : decode cX5_film 44 = .ok (.getfield 35, 3) := by decide +kernel
theorem dX5_film_47 : decode cX5_film 47 = .ok (.iconst 0, 1) := by decide +kernel
theorem dX5_film_48 : decode cX5_film 48 = .ok (.aaload, 1) := by decide +kernel
theorem dX5_film_49 : decode cX5_film 49 = .ok (.astore 5, 2) := by decide +kernel
theorem dX5_film_51 : decode cX5_film 51 = .ok (.aload 5, 2) := by decide +kernel
theorem dX5_film_53 : decode cX5_film 53 = .ok (.aload_n 0, 1) := by decide +kernel
theorem dX5_film_54 : decode cX5_film 54 = .ok (.getfield 28, 3) := by decide +kernel
theorem dX5_film_57 : decode cX5_film 57 = .ok (.invokevirtual 133, 3) := by decide +kernel
theorem dX5_film_60 : decode cX5_film 60 = .ok (.iconst 0, 1) := by decide +kernel
theorem dX5_film_61 : decode cX5_film 61 = .ok (.istore 6, 2) := by decide +kernel
theorem dX5_film_63 : decode cX5_film 63 = .ok (.iload 6, 2) := by decide +kernel
theorem dX5_film_65 : decode cX5_film 65 = .ok (.iload_n 3, 1) := by decide +kernel
theorem dX5_film_66 : decode cX5_film 66 = .ok (.if_icmp .ge 34, 3) := by decide +kernel
theorem dX5_film_69 : decode cX5_film 69 = .ok (.aload 4, 2) := by decide +kernel
theorem dX5_film_71 : decode cX5_film 71 = .ok (.iload 6, 2) := by decide +kernel
theorem dX5_film_73 : decode cX5_film 73 = .ok (.aload 5, 2) := by decide +kernel
theorem dX5_film_75 : decode cX5_film 75 = .ok (.iload_n 2, 1) := by decide +kernel
theorem dX5_film_76 : decode cX5_film 76 = .ok (.iconst 0, 1) := by decide +kernel
theorem dX5_film_77 : decode cX5_film 77 = .ok (.invokevirtual 199, 3) := by decide +kernel
theorem dX5_film_80 : decode cX5_film 80 = .ok (.invokevirtual 255, 3) := by decide +kernel
theorem dX5_film_83 : decode cX5_film 83 = .ok (.aload 5, 2) := by decide +kernel
theorem dX5_film_85 : decode cX5_film 85 = .ok (.dup, 1) := by decide +kernel
theorem dX5_film_86 : decode cX5_film 86 = .ok (.getfield 111, 3) := by decide +kernel
theorem dX5_film_89 : decode cX5_film 89 = .ok (.iconst 1, 1) := by decide +kernel
theorem dX5_film_90 : decode cX5_film 90 = .ok (.iadd, 1) := by decide +kernel
theorem dX5_film_91 : decode cX5_film 91 = .ok (.putfield 111, 3) := by decide +kernel
theorem dX5_film_94 : decode cX5_film 94 = .ok (.iinc 6 1, 3) := by decide +kernel
theorem dX5_film_97 : decode cX5_film 97 = .ok (.goto (-34), 3) := by decide +kernel
theorem dX5_film_100 : decode cX5_film 100 = .ok (.iload_n 3, 1) := by decide +kernel
theorem dX5_film_101 : decode cX5_film 101 = .ok (.ireturn, 1) := by decide +kernel
theorem dX5_drawn_0 : decode cX5_drawn 0 = .ok (.iload_n 2, 1) := by decide +kernel
theorem dX5_drawn_1 : decode cX5_drawn 1 = .ok (.iconst 0, 1) := by decide +kernel
theorem dX5_drawn_2 : decode cX5_drawn 2 = .ok (.bipush 30, 2) := by decide +kernel
theorem dX5_drawn_4 : decode cX5_drawn 4 = .ok (.invokestatic 61, 3) := by decide +kernel
theorem dX5_drawn_7 : decode cX5_drawn 7 = .ok (.ifCond .ne 6, 3) := by decide +kernel
theorem dX5_drawn_10 : decode cX5_drawn 10 = .ok (.bipush (-2), 2) := by decide +kernel
theorem dX5_drawn_12 : decode cX5_drawn 12 = .ok (.ireturn, 1) := by decide +kernel
theorem dX5_drawn_13 : decode cX5_drawn 13 = .ok (.aload_n 0, 1) := by decide +kernel
theorem dX5_drawn_14 : decode cX5_drawn 14 = .ok (.iload_n 1, 1) := by decide +kernel
theorem dX5_drawn_15 : decode cX5_drawn 15 = .ok (.iload_n 2, 1) := by decide +kernel
theorem dX5_drawn_16 : decode cX5_drawn 16 = .ok (.invokevirtual 258, 3) := by decide +kernel
theorem dX5_drawn_19 : decode cX5_drawn 19 = .ok (.ireturn, 1) := by decide +kernel
theorem dX5_leftDrawn_0 : decode cX5_leftDrawn 0 = .ok (.aload_n 0, 1) := by decide +kernel
theorem dX5_leftDrawn_1 : decode cX5_leftDrawn 1 = .ok (.getfield 35, 3) := by decide +kernel
theorem dX5_leftDrawn_4 : decode cX5_leftDrawn 4 = .ok (.iconst 0, 1) := by decide +kernel
theorem dX5_leftDrawn_5 : decode cX5_leftDrawn 5 = .ok (.aaload, 1) := by decide +kernel
theorem dX5_leftDrawn_6 : decode cX5_leftDrawn 6 = .ok (.astore_n 3, 1) := by decide +kernel
theorem dX5_leftDrawn_7 : decode cX5_leftDrawn 7 = .ok (.aload_n 3, 1) := by decide +kernel
theorem dX5_leftDrawn_8 : decode cX5_leftDrawn 8 = .ok (.aload_n 0, 1) := by decide +kernel
theorem dX5_leftDrawn_9 : decode cX5_leftDrawn 9 = .ok (.getfield 28, 3) := by decide +kernel
theorem dX5_leftDrawn_12 : decode cX5_leftDrawn 12 = .ok (.invokevirtual 133, 3) := by decide +kernel
theorem dX5_leftDrawn_15 : decode cX5_leftDrawn 15 = .ok (.iload_n 1, 1) := by decide +kernel
theorem dX5_leftDrawn_16 : decode cX5_leftDrawn 16 = .ok (.istore 4, 2) := by decide +kernel
theorem dX5_leftDrawn_18 : decode cX5_leftDrawn 18 = .ok (.iconst 0, 1) := by decide +kernel
theorem dX5_leftDrawn_19 : decode cX5_leftDrawn 19 = .ok (.istore 5, 2) := by decide +kernel
theorem dX5_leftDrawn_21 : decode cX5_leftDrawn 21 = .ok (.iload 5, 2) := by decide +kernel
theorem dX5_leftDrawn_23 : decode cX5_leftDrawn 23 = .ok (.iload_n 2, 1) := by decide +kernel
theorem dX5_leftDrawn_24 : decode cX5_leftDrawn 24 = .ok (.if_icmp .ge 42, 3) := by decide +kernel
theorem dX5_leftDrawn_27 : decode cX5_leftDrawn 27 = .ok (.iload 4, 2) := by decide +kernel
theorem dX5_leftDrawn_29 : decode cX5_leftDrawn 29 = .ok (.ldc_w 261, 3) := by decide +kernel
theorem dX5_leftDrawn_32 : decode cX5_leftDrawn 32 = .ok (.imul, 1) := by decide +kernel
theorem dX5_leftDrawn_33 : decode cX5_leftDrawn 33 = .ok (.sipush 12345, 3) := by decide +kernel
theorem dX5_leftDrawn_36 : decode cX5_leftDrawn 36 = .ok (.iadd, 1) := by decide +kernel
theorem dX5_leftDrawn_37 : decode cX5_leftDrawn 37 = .ok (.istore 4, 2) := by decide +kernel
theorem dX5_leftDrawn_39 : decode cX5_leftDrawn 39 = .ok (.aload_n 3, 1) := by decide +kernel
theorem dX5_leftDrawn_40 : decode cX5_leftDrawn 40 = .ok (.iload 4, 2) := by decide +kernel
theorem dX5_leftDrawn_42 : decode cX5_leftDrawn 42 = .ok (.bipush 9, 2) := by decide +kernel
theorem dX5_leftDrawn_44 : decode cX5_leftDrawn 44 = .ok (.iushr, 1) := by decide +kernel
theorem dX5_leftDrawn_45 : decode cX5_leftDrawn 45 = .ok (.iconst 2, 1) := by decide +kernel
theorem dX5_leftDrawn_46 : decode cX5_leftDrawn 46 = .ok (.irem, 1) := by decide +kernel
theorem dX5_leftDrawn_47 : decode cX5_leftDrawn 47 = .ok (.iconst 1, 1) := by decide +kernel
theorem dX5_leftDrawn_48 : decode cX5_leftDrawn 48 = .ok (.if_icmp .ne 7, 3) := by decide +kernel
theorem dX5_leftDrawn_51 : decode cX5_leftDrawn 51 = .ok (.iconst 1, 1) := by decide +kernel
theorem dX5_leftDrawn_52 : decode cX5_leftDrawn 52 = .ok (.goto 4, 3) := by decide +kernel
theorem dX5_leftDrawn_55 : decode cX5_leftDrawn 55 = .ok (.iconst 0, 1) := by decide +kernel
theorem dX5_leftDrawn_56 : decode cX5_leftDrawn 56 = .ok (.invokevirtual 114, 3) := by decide +kernel
theorem dX5_leftDrawn_59 : decode cX5_leftDrawn 59 = .ok (.pop, 1) := by decide +kernel
theorem dX5_leftDrawn_60 : decode cX5_leftDrawn 60 = .ok (.iinc 5 1, 3) := by decide +kernel
theorem dX5_leftDrawn_63 : decode cX5_leftDrawn 63 = .ok (.goto (-42), 3) := by decide +kernel
theorem dX5_leftDrawn_66 : decode cX5_leftDrawn 66 = .ok (.aload_n 3, 1) := by decide +kernel
theorem dX5_leftDrawn_67 : decode cX5_leftDrawn 67 = .ok (.invokevirtual 149, 3) := by decide +kernel
theorem dX5_leftDrawn_70 : decode cX5_leftDrawn 70 = .ok (.ireturn, 1) := by decide +kernel
theorem dX5_chance_0 : decode cX5_chance 0 = .ok (.iload_n 2, 1) := by decide +kernel
theorem dX5_chance_1 : decode cX5_chance 1 = .ok (.iconst 1, 1) := by decide +kernel
theorem dX5_chance_2 : decode cX5_chance 2 = .ok (.bipush 20, 2) := by decide +kernel
theorem dX5_chance_4 : decode cX5_chance 4 = .ok (.invokestatic 61, 3) := by decide +kernel
theorem dX5_chance_7 : decode cX5_chance 7 = .ok (.ifCond .eq 24, 3) := by decide +kernel
theorem dX5_chance_10 : decode cX5_chance 10 = .ok (.iload_n 3, 1) := by decide +kernel
theorem dX5_chance_11 : decode cX5_chance 11 = .ok (.iconst 0, 1) := by decide +kernel
theorem dX5_chance_12 : decode cX5_chance 12 = .ok (.sipush 999, 3) := by decide +kernel
theorem dX5_chance_15 : decode cX5_chance 15 = .ok (.invokestatic 61, 3) := by decide +kernel
theorem dX5_chance_18 : decode cX5_chance 18 = .ok (.ifCond .eq 13, 3) := by decide +kernel
theorem dX5_chance_21 : decode cX5_chance 21 = .ok (.iload 4, 2) := by decide +kernel
theorem dX5_chance_23 : decode cX5_chance 23 = .ok (.iconst 0, 1) := by decide +kernel
theorem dX5_chance_24 : decode cX5_chance 24 = .ok (.iconst 1, 1) := by decide +kernel
theorem dX5_chance_25 : decode cX5_chance 25 = .ok (.invokestatic 61, 3) := by decide +kernel
theorem dX5_chance_28 : decode cX5_chance 28 = .ok (.ifCond .ne 7, 3) := by decide +kernel
theorem dX5_chance_31 : decode cX5_chance 31 = .ok (.ldc2_w 203, 3) := by decide +kernel
theorem dX5_chance_34 : decode cX5_chance 34 = .ok (.lreturn, 1) := by decide +kernel
theorem dX5_chance_35 : decode cX5_chance 35 = .ok (.iconst 0, 1) := by decide +kernel
theorem dX5_chance_36 : decode cX5_chance 36 = .ok (.istore 5, 2) := by decide +kernel
theorem dX5_chance_38 : decode cX5_chance 38 = .ok (.iconst 0, 1) := by decide +kernel
theorem dX5_chance_39 : decode cX5_chance 39 = .ok (.istore 6, 2) := by decide +kernel
theorem dX5_chance_41 : decode cX5_chance 41 = .ok (.iload 6, 2) := by decide +kernel
theorem dX5_chance_43 : decode cX5_chance 43 = .ok (.iload_n 2, 1) := by decide +kernel
theorem dX5_chance_44 : decode cX5_chance 44 = .ok (.if_icmp .ge 25, 3) := by decide +kernel
theorem dX5_chance_47 : decode cX5_chance 47 = .ok (.aload_n 0, 1) := by decide +kernel
theorem dX5_chance_48 : decode cX5_chance 48 = .ok (.iload_n 1, 1) := by decide +kernel
theorem dX5_chance_49 : decode cX5_chance 49 = .ok (.iload 6, 2) := by decide +kernel
theorem dX5_chance_51 : decode cX5_chance 51 = .ok (.iadd, 1) := by decide +kernel
theorem dX5_chance_52 : decode cX5_chance 52 = .ok (.iconst 5, 1) := by decide +kernel
theorem dX5_chance_53 : decode cX5_chance 53 = .ok (.invokevirtual 258, 3) := by decide +kernel
theorem dX5_chance_56 : decode cX5_chance 56 = .ok (.iload_n 3, 1) := by decide +kernel
theorem dX5_chance_57 : decode cX5_chance 57 = .ok (.if_icmp .gt 6, 3) := by decide +kernel
theorem dX5_chance_60 : decode cX5_chance 60 = .ok (.iinc 5 1, 3) := by decide +kernel
theorem dX5_chance_63 : decode cX5_chance 63 = .ok (.iinc 6 1, 3) := by decide +kernel
theorem dX5_chance_66 : decode cX5_chance 66 = .ok (.goto (-25), 3) := by decide +kernel
theorem dX5_chance_69 : decode cX5_chance 69 = .ok (.iload 5, 2) := by decide +kernel
theorem dX5_chance_71 : decode cX5_chance 71 = .ok (.iload_n 2, 1) := by decide +kernel
theorem dX5_chance_72 : decode cX5_chance 72 = .ok (.iload 4, 2) := by decide +kernel
theorem dX5_chance_74 : decode cX5_chance 74 = .ok (.invokestatic 205, 3) := by decide +kernel
theorem dX5_chance_77 : decode cX5_chance 77 = .ok (.lreturn, 1) := by decide +kernel
theorem dX5_image_0 : decode cX5_image 0 = .ok (.aload_n 0, 1) := by decide +kernel
theorem dX5_image_1 : decode cX5_image 1 = .ok (.getfield 32, 3) := by decide +kernel
theorem dX5_image_4 : decode cX5_image 4 = .ok (.aload_n 0, 1) := by decide +kernel
theorem dX5_image_5 : decode cX5_image 5 = .ok (.getfield 28, 3) := by decide +kernel
theorem dX5_image_8 : decode cX5_image 8 = .ok (.invokevirtual 133, 3) := by decide +kernel
theorem dX5_image_11 : decode cX5_image 11 = .ok (.aload_n 0, 1) := by decide +kernel
theorem dX5_image_12 : decode cX5_image 12 = .ok (.iconst 1, 1) := by decide +kernel
theorem dX5_image_13 : decode cX5_image 13 = .ok (.putfield 262, 3) := by decide +kernel
theorem dX5_image_16 : decode cX5_image 16 = .ok (.aload_n 0, 1) := by decide +kernel
theorem dX5_image_17 : decode cX5_image 17 = .ok (.getfield 28, 3) := by decide +kernel
theorem dX5_image_20 : decode cX5_image 20 = .ok (.getfield 175, 3) := by decide +kernel
theorem dX5_image_23 : decode cX5_image 23 = .ok (.ireturn, 1) := by decide +kernel
theorem dX5_back_0 : decode cX5_back 0 = .ok (.aload_n 0, 1) := by decide +kernel
theorem dX5_back_1 : decode cX5_back 1 = .ok (.getfield 262, 3) := by decide +kernel
theorem dX5_back_4 : decode cX5_back 4 = .ok (.ifCond .ne 6, 3) := by decide +kernel
theorem dX5_back_7 : decode cX5_back 7 = .ok (.bipush (-3), 2) := by decide +kernel
theorem dX5_back_9 : decode cX5_back 9 = .ok (.ireturn, 1) := by decide +kernel
theorem dX5_back_10 : decode cX5_back 10 = .ok (.aload_n 0, 1) := by decide +kernel
theorem dX5_back_11 : decode cX5_back 11 = .ok (.getfield 28, 3) := by decide +kernel
theorem dX5_back_14 : decode cX5_back 14 = .ok (.aload_n 0, 1) := by decide +kernel
theorem dX5_back_15 : decode cX5_back 15 = .ok (.getfield 32, 3) := by decide +kernel
theorem dX5_back_18 : decode cX5_back 18 = .ok (.invokevirtual 133, 3) := by decide +kernel
theorem dX5_back_21 : decode cX5_back 21 = .ok (.aload_n 0, 1) := by decide +kernel
theorem dX5_back_22 : decode cX5_back 22 = .ok (.getfield 28, 3) := by decide +kernel
theorem dX5_back_25 : decode cX5_back 25 = .ok (.getfield 175, 3) := by decide +kernel
theorem dX5_back_28 : decode cX5_back 28 = .ok (.ireturn, 1) := by decide +kernel
theorem dX5_count_0 : decode cX5_count 0 = .ok (.iload_n 1, 1) := by decide +kernel
theorem dX5_count_1 : decode cX5_count 1 = .ok (.tableswitch 87 0 5 #[39, 47, 55, 63, 71, 79], 39) := by decide +kernel
theorem dX5_count_40 : decode cX5_count 40 = .ok (.aload_n 0, 1) := by decide +kernel
theorem dX5_count_41 : decode cX5_count 41 = .ok (.getfield 28, 3) := by decide +kernel
theorem dX5_count_44 : decode cX5_count 44 = .ok (.getfield 175, 3) := by decide +kernel
theorem dX5_count_47 : decode cX5_count 47 = .ok (.ireturn, 1) := by decide +kernel
theorem dX5_count_48 : decode cX5_count 48 = .ok (.aload_n 0, 1) := by decide +kernel
theorem dX5_count_49 : decode cX5_count 49 = .ok (.getfield 28, 3) := by decide +kernel
theorem dX5_count_52 : decode cX5_count 52 = .ok (.getfield 193, 3) := by decide +kernel
theorem dX5_count_55 : decode cX5_count 55 = .ok (.ireturn, 1) := by decide +kernel
theorem dX5_count_56 : decode cX5_count 56 = .ok (.aload_n 0, 1) := by decide +kernel
theorem dX5_count_57 : decode cX5_count 57 = .ok (.getfield 28, 3) := by decide +kernel
theorem dX5_count_60 : decode cX5_count 60 = .ok (.getfield 111, 3) := by decide +kernel
theorem dX5_count_63 : decode cX5_count 63 = .ok (.ireturn, 1) := by decide +kernel
theorem dX5_count_64 : decode cX5_count 64 = .ok (.aload_n 0, 1) := by decide +kernel
theorem dX5_count_65 : decode cX5_count 65 = .ok (.getfield 10, 3) := by decide +kernel
theorem dX5_count_68 : decode cX5_count 68 = .ok (.getfield 92, 3) := by decide +kernel
theorem dX5_count_71 : decode cX5_count 71 = .ok (.ireturn, 1) := by decide +kernel
theorem dX5_count_72 : decode cX5_count 72 = .ok (.aload_n 0, 1) := by decide +kernel
theorem dX5_count_73 : decode cX5_count 73 = .ok (.getfield 19, 3) := by decide +kernel
theorem dX5_count_76 : decode cX5_count 76 = .ok (.getfield 107, 3) := by decide +kernel
theorem dX5_count_79 : decode cX5_count 79 = .ok (.ireturn, 1) := by decide +kernel
theorem dX5_count_80 : decode cX5_count 80 = .ok (.aload_n 0, 1) := by decide +kernel
theorem dX5_count_81 : decode cX5_count 81 = .ok (.getfield 28, 3) := by decide +kernel
theorem dX5_count_84 : decode cX5_count 84 = .ok (.getfield 108, 3) := by decide +kernel
theorem dX5_count_87 : decode cX5_count 87 = .ok (.ireturn, 1) := by decide +kernel
theorem dX5_count_88 : decode cX5_count 88 = .ok (.bipush (-2), 2) := by decide +kernel
theorem dX5_count_90 : decode cX5_count 90 = .ok (.ireturn, 1) := by decide +kernel
theorem dX5_sheetAt_0 : decode cX5_sheetAt 0 = .ok (.iload_n 1, 1) := by decide +kernel
theorem dX5_sheetAt_1 : decode cX5_sheetAt 1 = .ok (.iconst 0, 1) := by decide +kernel
theorem dX5_sheetAt_2 : decode cX5_sheetAt 2 = .ok (.iconst 3, 1) := by decide +kernel
theorem dX5_sheetAt_3 : decode cX5_sheetAt 3 = .ok (.invokestatic 61, 3) := by decide +kernel
theorem dX5_sheetAt_6 : decode cX5_sheetAt 6 = .ok (.ifCond .eq 12, 3) := by decide +kernel
theorem dX5_sheetAt_9 : decode cX5_sheetAt 9 = .ok (.aload_n 0, 1) := by decide +kernel
theorem dX5_sheetAt_10 : decode cX5_sheetAt 10 = .ok (.getfield 48, 3) := by decide +kernel
theorem dX5_sheetAt_13 : decode cX5_sheetAt 13 = .ok (.iload_n 1, 1) := by decide +kernel
theorem dX5_sheetAt_14 : decode cX5_sheetAt 14 = .ok (.aaload, 1) := by decide +kernel
theorem dX5_sheetAt_15 : decode cX5_sheetAt 15 = .ok (.goto 4, 3) := by decide +kernel
theorem dX5_sheetAt_18 : decode cX5_sheetAt 18 = .ok (.aconst_null, 1) := by decide +kernel
theorem dX5_sheetAt_19 : decode cX5_sheetAt 19 = .ok (.areturn, 1) := by decide +kernel
theorem dX5_sheet_0 : decode cX5_sheet 0 = .ok (.aload_n 0, 1) := by decide +kernel
theorem dX5_sheet_1 : decode cX5_sheet 1 = .ok (.iload_n 1, 1) := by decide +kernel
theorem dX5_sheet_2 : decode cX5_sheet 2 = .ok (.invokevirtual 212, 3) := by decide +kernel
theorem dX5_sheet_5 : decode cX5_sheet 5 = .ok (.astore 4, 2) := by decide +kernel
theorem dX5_sheet_7 : decode cX5_sheet 7 = .ok (.aload 4, 2) := by decide +kernel
theorem dX5_sheet_9 : decode cX5_sheet 9 = .ok (.ifnull 12, 3) := by decide +kernel
theorem dX5_sheet_12 : decode cX5_sheet 12 = .ok (.iload_n 2, 1) := by decide +kernel
theorem dX5_sheet_13 : decode cX5_sheet 13 = .ok (.iconst (-1), 1) := by decide +kernel
theorem dX5_sheet_14 : decode cX5_sheet 14 = .ok (.iconst 2, 1) := by decide +kernel
theorem dX5_sheet_15 : decode cX5_sheet 15 = .ok (.invokestatic 61, 3) := by decide +kernel
theorem dX5_sheet_18 : decode cX5_sheet 18 = .ok (.ifCond .ne 6, 3) := by decide +kernel
theorem dX5_sheet_21 : decode cX5_sheet 21 = .ok (.bipush (-2), 2) := by decide +kernel
theorem dX5_sheet_23 : decode cX5_sheet 23 = .ok (.ireturn, 1) := by decide +kernel
theorem dX5_sheet_24 : decode cX5_sheet 24 = .ok (.iload_n 2, 1) := by decide +kernel
theorem dX5_sheet_25 : decode cX5_sheet 25 = .ok (.iconst (-1), 1) := by decide +kernel
theorem dX5_sheet_26 : decode cX5_sheet 26 = .ok (.if_icmp .ne 12, 3) := by decide +kernel
theorem dX5_sheet_29 : decode cX5_sheet 29 = .ok (.aload 4, 2) := by decide +kernel
theorem dX5_sheet_31 : decode cX5_sheet 31 = .ok (.iconst (-1), 1) := by decide +kernel
theorem dX5_sheet_32 : decode cX5_sheet 32 = .ok (.iconst 0, 1) := by decide +kernel
theorem dX5_sheet_33 : decode cX5_sheet 33 = .ok (.invokevirtual 253, 3) := by decide +kernel
theorem dX5_sheet_36 : decode cX5_sheet 36 = .ok (.iconst 1, 1) := by decide +kernel
theorem dX5_sheet_37 : decode cX5_sheet 37 = .ok (.ireturn, 1) := by decide +kernel
theorem dX5_sheet_38 : decode cX5_sheet 38 = .ok (.iload_n 3, 1) := by decide +kernel
theorem dX5_sheet_39 : decode cX5_sheet 39 = .ok (.bipush 40, 2) := by decide +kernel
theorem dX5_sheet_41 : decode cX5_sheet 41 = .ok (.if_icmp .le 6, 3) := by decide +kernel
theorem dX5_sheet_44 : decode cX5_sheet 44 = .ok (.bipush (-2), 2) := by decide +kernel
theorem dX5_sheet_46 : decode cX5_sheet 46 = .ok (.ireturn, 1) := by decide +kernel
theorem dX5_sheet_47 : decode cX5_sheet 47 = .ok (.iload_n 3, 1) := by decide +kernel
theorem dX5_sheet_48 : decode cX5_sheet 48 = .ok (.ifCond .ge 6, 3) := by decide +kernel
theorem dX5_sheet_51 : decode cX5_sheet 51 = .ok (.bipush (-14), 2) := by decide +kernel
theorem dX5_sheet_53 : decode cX5_sheet 53 = .ok (.ireturn, 1) := by decide +kernel
theorem dX5_sheet_54 : decode cX5_sheet 54 = .ok (.aload 4, 2) := by decide +kernel
theorem dX5_sheet_56 : decode cX5_sheet 56 = .ok (.iload_n 2, 1) := by decide +kernel
theorem dX5_sheet_57 : decode cX5_sheet 57 = .ok (.iload_n 3, 1) := by decide +kernel
theorem dX5_sheet_58 : decode cX5_sheet 58 = .ok (.invokevirtual 253, 3) := by decide +kernel
theorem dX5_sheet_61 : decode cX5_sheet 61 = .ok (.iconst 1, 1) := by decide +kernel
theorem dX5_sheet_62 : decode cX5_sheet 62 = .ok (.ireturn, 1) := by decide +kernel
theorem dX5_cell_0 : decode cX5_cell 0 = .ok (.aload_n 0, 1) := by decide +kernel
theorem dX5_cell_1 : decode cX5_cell 1 = .ok (.iload_n 1, 1) := by decide +kernel
theorem dX5_cell_2 : decode cX5_cell 2 = .ok (.invokevirtual 212, 3) := by decide +kernel
theorem dX5_cell_5 : decode cX5_cell 5 = .ok (.astore 4, 2) := by decide +kernel
theorem dX5_cell_7 : decode cX5_cell 7 = .ok (.aload 4, 2) := by decide +kernel
theorem dX5_cell_9 : decode cX5_cell 9 = .ok (.ifnonnull 6, 3) := by decide +kernel
theorem dX5_cell_12 : decode cX5_cell 12 = .ok (.bipush (-2), 2) := by decide +kernel
theorem dX5_cell_14 : decode cX5_cell 14 = .ok (.ireturn, 1) := by decide +kernel
theorem dX5_cell_15 : decode cX5_cell 15 = .ok (.aload 4, 2) := by decide +kernel
theorem dX5_cell_17 : decode cX5_cell 17 = .ok (.invokevirtual 216, 3) := by decide +kernel
theorem dX5_cell_20 : decode cX5_cell 20 = .ok (.ifCond .eq 6, 3) := by decide +kernel
theorem dX5_cell_23 : decode cX5_cell 23 = .ok (.bipush (-11), 2) := by decide +kernel
theorem dX5_cell_25 : decode cX5_cell 25 = .ok (.ireturn, 1) := by decide +kernel
theorem dX5_cell_26 : decode cX5_cell 26 = .ok (.aload 4, 2) := by decide +kernel
theorem dX5_cell_28 : decode cX5_cell 28 = .ok (.iload_n 2, 1) := by decide +kernel
theorem dX5_cell_29 : decode cX5_cell 29 = .ok (.invokevirtual 266, 3) := by decide +kernel
theorem dX5_cell_32 : decode cX5_cell 32 = .ok (.ifCond .ne 6, 3) := by decide +kernel
theorem dX5_cell_35 : decode cX5_cell 35 = .ok (.bipush (-12), 2) := by decide +kernel
theorem dX5_cell_37 : decode cX5_cell 37 = .ok (.ireturn, 1) := by decide +kernel
theorem dX5_cell_38 : decode cX5_cell 38 = .ok (.aload 4, 2) := by decide +kernel
theorem dX5_cell_40 : decode cX5_cell 40 = .ok (.iload_n 2, 1) := by decide +kernel
theorem dX5_cell_41 : decode cX5_cell 41 = .ok (.iload_n 3, 1) := by decide +kernel
theorem dX5_cell_42 : decode cX5_cell 42 = .ok (.invokevirtual 255, 3) := by decide +kernel
theorem dX5_cell_45 : decode cX5_cell 45 = .ok (.iconst 1, 1) := by decide +kernel
theorem dX5_cell_46 : decode cX5_cell 46 = .ok (.ireturn, 1) := by decide +kernel
theorem dX5_copy_0 : decode cX5_copy 0 = .ok (.aload_n 0, 1) := by decide +kernel
theorem dX5_copy_1 : decode cX5_copy 1 = .ok (.iload_n 1, 1) := by decide +kernel
theorem dX5_copy_2 : decode cX5_copy 2 = .ok (.invokevirtual 212, 3) := by decide +kernel
theorem dX5_copy_5 : decode cX5_copy 5 = .ok (.astore 6, 2) := by decide +kernel
theorem dX5_copy_7 : decode cX5_copy 7 = .ok (.aload_n 0, 1) := by decide +kernel
theorem dX5_copy_8 : decode cX5_copy 8 = .ok (.iload_n 3, 1) := by decide +kernel
theorem dX5_copy_9 : decode cX5_copy 9 = .ok (.invokevirtual 212, 3) := by decide +kernel
theorem dX5_copy_12 : decode cX5_copy 12 = .ok (.astore 7, 2) := by decide +kernel
theorem dX5_copy_14 : decode cX5_copy 14 = .ok (.aload 6, 2) := by decide +kernel
theorem dX5_copy_16 : decode cX5_copy 16 = .ok (.ifnull 8, 3) := by decide +kernel
theorem dX5_copy_19 : decode cX5_copy 19 = .ok (.aload 7, 2) := by decide +kernel
theorem dX5_copy_21 : decode cX5_copy 21 = .ok (.ifnonnull 6, 3) := by decide +kernel
theorem dX5_copy_24 : decode cX5_copy 24 = .ok (.bipush (-2), 2) := by decide +kernel
theorem dX5_copy_26 : decode cX5_copy 26 = .ok (.ireturn, 1) := by decide +kernel
theorem dX5_copy_27 : decode cX5_copy 27 = .ok (.aload 6, 2) := by decide +kernel
theorem dX5_copy_29 : decode cX5_copy 29 = .ok (.invokevirtual 216, 3) := by decide +kernel
theorem dX5_copy_32 : decode cX5_copy 32 = .ok (.ifCond .ne 11, 3) := by decide +kernel
theorem dX5_copy_35 : decode cX5_copy 35 = .ok (.aload 7, 2) := by decide +kernel
theorem dX5_copy_37 : decode cX5_copy 37 = .ok (.invokevirtual 216, 3) := by decide +kernel
theorem dX5_copy_40 : decode cX5_copy 40 = .ok (.ifCond .eq 6, 3) := by decide +kernel
theorem dX5_copy_43 : decode cX5_copy 43 = .ok (.bipush (-11), 2) := by decide +kernel
theorem dX5_copy_45 : decode cX5_copy 45 = .ok (.ireturn, 1) := by decide +kernel
theorem dX5_copy_46 : decode cX5_copy 46 = .ok (.aload 6, 2) := by decide +kernel
theorem dX5_copy_48 : decode cX5_copy 48 = .ok (.getfield 269, 3) := by decide +kernel
theorem dX5_copy_51 : decode cX5_copy 51 = .ok (.aload 7, 2) := by decide +kernel
theorem dX5_copy_53 : decode cX5_copy 53 = .ok (.getfield 269, 3) := by decide +kernel
theorem dX5_copy_56 : decode cX5_copy 56 = .ok (.if_icmp .eq 6, 3) := by decide +kernel
theorem dX5_copy_59 : decode cX5_copy 59 = .ok (.bipush (-13), 2) := by decide +kernel
theorem dX5_copy_61 : decode cX5_copy 61 = .ok (.ireturn, 1) := by decide +kernel
theorem dX5_copy_62 : decode cX5_copy 62 = .ok (.aload 6, 2) := by decide +kernel
theorem dX5_copy_64 : decode cX5_copy 64 = .ok (.iload_n 2, 1) := by decide +kernel
theorem dX5_copy_65 : decode cX5_copy 65 = .ok (.iload 5, 2) := by decide +kernel
theorem dX5_copy_67 : decode cX5_copy 67 = .ok (.invokevirtual 272, 3) := by decide +kernel
theorem dX5_copy_70 : decode cX5_copy 70 = .ok (.ifCond .eq 15, 3) := by decide +kernel
theorem dX5_copy_73 : decode cX5_copy 73 = .ok (.aload 7, 2) := by decide +kernel
theorem dX5_copy_75 : decode cX5_copy 75 = .ok (.iload 4, 2) := by decide +kernel
theorem dX5_copy_77 : decode cX5_copy 77 = .ok (.iload 5, 2) := by decide +kernel
theorem dX5_copy_79 : decode cX5_copy 79 = .ok (.invokevirtual 272, 3) := by decide +kernel
theorem dX5_copy_82 : decode cX5_copy 82 = .ok (.ifCond .ne 6, 3) := by decide +kernel
theorem dX5_copy_85 : decode cX5_copy 85 = .ok (.bipush (-12), 2) := by decide +kernel
theorem dX5_copy_87 : decode cX5_copy 87 = .ok (.ireturn, 1) := by decide +kernel
theorem dX5_copy_88 : decode cX5_copy 88 = .ok (.aload 6, 2) := by decide +kernel
theorem dX5_copy_90 : decode cX5_copy 90 = .ok (.getfield 235, 3) := by decide +kernel
theorem dX5_copy_93 : decode cX5_copy 93 = .ok (.iload_n 2, 1) := by decide +kernel
theorem dX5_copy_94 : decode cX5_copy 94 = .ok (.aload 7, 2) := by decide +kernel
theorem dX5_copy_96 : decode cX5_copy 96 = .ok (.getfield 235, 3) := by decide +kernel
theorem dX5_copy_99 : decode cX5_copy 99 = .ok (.iload 4, 2) := by decide +kernel
theorem dX5_copy_101 : decode cX5_copy 101 = .ok (.iload 5, 2) := by decide +kernel
theorem dX5_copy_103 : decode cX5_copy 103 = .ok (.invokestatic 275, 3) := by decide +kernel
theorem dX5_copy_106 : decode cX5_copy 106 = .ok (.iload 5, 2) := by decide +kernel
theorem dX5_copy_108 : decode cX5_copy 108 = .ok (.ireturn, 1) := by decide +kernel
theorem dX5_street_0 : decode cX5_street 0 = .ok (.aload_n 0, 1) := by decide +kernel
theorem dX5_street_1 : decode cX5_street 1 = .ok (.iload_n 1, 1) := by decide +kernel
theorem dX5_street_2 : decode cX5_street 2 = .ok (.invokevirtual 212, 3) := by decide +kernel
theorem dX5_street_5 : decode cX5_street 5 = .ok (.astore 5, 2) := by decide +kernel
theorem dX5_street_7 : decode cX5_street 7 = .ok (.aload 5, 2) := by decide +kernel
theorem dX5_street_9 : decode cX5_street 9 = .ok (.ifnull 22, 3) := by decide +kernel
theorem dX5_street_12 : decode cX5_street 12 = .ok (.iload_n 2, 1) := by decide +kernel
theorem dX5_street_13 : decode cX5_street 13 = .ok (.iconst 0, 1) := by decide +kernel
theorem dX5_street_14 : decode cX5_street 14 = .ok (.iconst 2, 1) := by decide +kernel
theorem dX5_street_15 : decode cX5_street 15 = .ok (.invokestatic 61, 3) := by decide +kernel
theorem dX5_street_18 : decode cX5_street 18 = .ok (.ifCond .eq 13, 3) := by decide +kernel
theorem dX5_street_21 : decode cX5_street 21 = .ok (.iload 4, 2) := by decide +kernel
theorem dX5_street_23 : decode cX5_street 23 = .ok (.iconst 0, 1) := by decide +kernel
theorem dX5_street_24 : decode cX5_street 24 = .ok (.iconst 5, 1) := by decide +kernel
theorem dX5_street_25 : decode cX5_street 25 = .ok (.invokestatic 61, 3) := by decide +kernel
theorem dX5_street_28 : decode cX5_street 28 = .ok (.ifCond .ne 6, 3) := by decide +kernel
theorem dX5_street_31 : decode cX5_street 31 = .ok (.bipush (-2), 2) := by decide +kernel
theorem dX5_street_33 : decode cX5_street 33 = .ok (.ireturn, 1) := by decide +kernel
theorem dX5_street_34 : decode cX5_street 34 = .ok (.aload 5, 2) := by decide +kernel
theorem dX5_street_36 : decode cX5_street 36 = .ok (.invokevirtual 216, 3) := by decide +kernel
theorem dX5_street_39 : decode cX5_street 39 = .ok (.ifCond .eq 6, 3) := by decide +kernel
theorem dX5_street_42 : decode cX5_street 42 = .ok (.bipush (-11), 2) := by decide +kernel
theorem dX5_street_44 : decode cX5_street 44 = .ok (.ireturn, 1) := by decide +kernel
theorem dX5_street_45 : decode cX5_street 45 = .ok (.aload 5, 2) := by decide +kernel
theorem dX5_street_47 : decode cX5_street 47 = .ok (.getfield 269, 3) := by decide +kernel
theorem dX5_street_50 : decode cX5_street 50 = .ok (.iload_n 2, 1) := by decide +kernel
theorem dX5_street_51 : decode cX5_street 51 = .ok (.if_icmp .eq 6, 3) := by decide +kernel
theorem dX5_street_54 : decode cX5_street 54 = .ok (.bipush (-13), 2) := by decide +kernel
theorem dX5_street_56 : decode cX5_street 56 = .ok (.ireturn, 1) := by decide +kernel
theorem dX5_street_57 : decode cX5_street 57 = .ok (.iconst 0, 1) := by decide +kernel
theorem dX5_street_58 : decode cX5_street 58 = .ok (.istore 6, 2) := by decide +kernel
theorem dX5_street_60 : decode cX5_street 60 = .ok (.iload_n 3, 1) := by decide +kernel
theorem dX5_street_61 : decode cX5_street 61 = .ok (.istore 7, 2) := by decide +kernel
theorem dX5_street_63 : decode cX5_street 63 = .ok (.iconst 0, 1) := by decide +kernel
theorem dX5_street_64 : decode cX5_street 64 = .ok (.istore 8, 2) := by decide +kernel
theorem dX5_street_66 : decode cX5_street 66 = .ok (.iload 8, 2) := by decide +kernel
theorem dX5_street_68 : decode cX5_street 68 = .ok (.iload 4, 2) := by decide +kernel
theorem dX5_street_70 : decode cX5_street 70 = .ok (.if_icmp .ge 54, 3) := by decide +kernel
theorem dX5_street_73 : decode cX5_street 73 = .ok (.aload 5, 2) := by decide +kernel
theorem dX5_street_75 : decode cX5_street 75 = .ok (.iload 7, 2) := by decide +kernel
theorem dX5_street_77 : decode cX5_street 77 = .ok (.iconst 2, 1) := by decide +kernel
theorem dX5_street_78 : decode cX5_street 78 = .ok (.invokevirtual 272, 3) := by decide +kernel
theorem dX5_street_81 : decode cX5_street 81 = .ok (.ifCond .ne 6, 3) := by decide +kernel
theorem dX5_street_84 : decode cX5_street 84 = .ok (.bipush (-12), 2) := by decide +kernel
theorem dX5_street_86 : decode cX5_street 86 = .ok (.ireturn, 1) := by decide +kernel
theorem dX5_street_87 : decode cX5_street 87 = .ok (.aload_n 0, 1) := by decide +kernel
theorem dX5_street_88 : decode cX5_street 88 = .ok (.aload 5, 2) := by decide +kernel
theorem dX5_street_90 : decode cX5_street 90 = .ok (.getfield 235, 3) := by decide +kernel
theorem dX5_street_93 : decode cX5_street 93 = .ok (.iload 7, 2) := by decide +kernel
theorem dX5_street_95 : decode cX5_street 95 = .ok (.iaload, 1) := by decide +kernel
theorem dX5_street_96 : decode cX5_street 96 = .ok (.aload 5, 2) := by decide +kernel
theorem dX5_street_98 : decode cX5_street 98 = .ok (.getfield 235, 3) := by decide +kernel
theorem dX5_street_101 : decode cX5_street 101 = .ok (.iload 7, 2) := by decide +kernel
theorem dX5_street_103 : decode cX5_street 103 = .ok (.iconst 1, 1) := by decide +kernel
theorem dX5_street_104 : decode cX5_street 104 = .ok (.iadd, 1) := by decide +kernel
theorem dX5_street_105 : decode cX5_street 105 = .ok (.iaload, 1) := by decide +kernel
theorem dX5_street_106 : decode cX5_street 106 = .ok (.invokevirtual 76, 3) := by decide +kernel
theorem dX5_street_109 : decode cX5_street 109 = .ok (.ifCond .lt 6, 3) := by decide +kernel
theorem dX5_street_112 : decode cX5_street 112 = .ok (.iinc 6 1, 3) := by decide +kernel
theorem dX5_street_115 : decode cX5_street 115 = .ok (.iinc 7 2, 3) := by decide +kernel
theorem dX5_street_118 : decode cX5_street 118 = .ok (.iinc 8 1, 3) := by decide +kernel
theorem dX5_street_121 : decode cX5_street 121 = .ok (.goto (-55), 3) := by decide +kernel
theorem dX5_street_124 : decode cX5_street 124 = .ok (.iload 6, 2) := by decide +kernel
theorem dX5_street_126 : decode cX5_street 126 = .ok (.ireturn, 1) := by decide +kernel
theorem dX5_taken_0 : decode cX5_taken 0 = .ok (.iload_n 2, 1) := by decide +kernel
theorem dX5_taken_1 : decode cX5_taken 1 = .ok (.iconst 0, 1) := by decide +kernel
theorem dX5_taken_2 : decode cX5_taken 2 = .ok (.iconst 5, 1) := by decide +kernel
theorem dX5_taken_3 : decode cX5_taken 3 = .ok (.invokestatic 61, 3) := by decide +kernel
theorem dX5_taken_6 : decode cX5_taken 6 = .ok (.ifCond .ne 6, 3) := by decide +kernel
theorem dX5_taken_9 : decode cX5_taken 9 = .ok (.bipush (-2), 2) := by decide +kernel
theorem dX5_taken_11 : decode cX5_taken 11 = .ok (.ireturn, 1) := by decide +kernel
theorem dX5_taken_12 : decode cX5_taken 12 = .ok (.aload_n 0, 1) := by decide +kernel
theorem dX5_taken_13 : decode cX5_taken 13 = .ok (.getfield 28, 3) := by decide +kernel
theorem dX5_taken_16 : decode cX5_taken 16 = .ok (.iload_n 1, 1) := by decide +kernel
theorem dX5_taken_17 : decode cX5_taken 17 = .ok (.invokevirtual 82, 3) := by decide +kernel
theorem dX5_taken_20 : decode cX5_taken 20 = .ok (.ifCond .ne 6, 3) := by decide +kernel
theorem dX5_taken_23 : decode cX5_taken 23 = .ok (.bipush (-11), 2) := by decide +kernel
theorem dX5_taken_25 : decode cX5_taken 25 = .ok (.ireturn, 1) := by decide +kernel
theorem dX5_taken_26 : decode cX5_taken 26 = .ok (.aload_n 0, 1) := by decide +kernel
theorem dX5_taken_27 : decode cX5_taken 27 = .ok (.getfield 28, 3) := by decide +kernel
theorem dX5_taken_30 : decode cX5_taken 30 = .ok (.getfield 239, 3) := by decide +kernel
theorem dX5_taken_33 : decode cX5_taken 33 = .ok (.iload_n 1, 1) := by decide +kernel
theorem dX5_taken_34 : decode cX5_taken 34 = .ok (.iaload, 1) := by decide +kernel
theorem dX5_taken_35 : decode cX5_taken 35 = .ok (.iload_n 2, 1) := by decide +kernel
theorem dX5_taken_36 : decode cX5_taken 36 = .ok (.invokestatic 281, 3) := by decide +kernel
theorem dX5_taken_39 : decode cX5_taken 39 = .ok (.ifCond .eq 15, 3) := by decide +kernel
theorem dX5_taken_42 : decode cX5_taken 42 = .ok (.aload_n 0, 1) := by decide +kernel
theorem dX5_taken_43 : decode cX5_taken 43 = .ok (.getfield 28, 3) := by decide +kernel
theorem dX5_taken_46 : decode cX5_taken 46 = .ok (.getfield 242, 3) := by decide +kernel
theorem dX5_taken_49 : decode cX5_taken 49 = .ok (.iload_n 1, 1) := by decide +kernel
theorem dX5_taken_50 : decode cX5_taken 50 = .ok (.iaload, 1) := by decide +kernel
theorem dX5_taken_51 : decode cX5_taken 51 = .ok (.goto 5, 3) := by decide +kernel
theorem dX5_taken_54 : decode cX5_taken 54 = .ok (.bipush (-13), 2) := by decide +kernel
theorem dX5_taken_56 : decode cX5_taken 56 = .ok (.ireturn, 1) := by decide +kernel
theorem dX5_isUnder_0 : decode cX5_isUnder 0 = .ok (.iload_n 0, 1) := by decide +kernel
theorem dX5_isUnder_1 : decode cX5_isUnder 1 = .ok (.istore_n 2, 1) := by decide +kernel
theorem dX5_isUnder_2 : decode cX5_isUnder 2 = .ok (.iconst 0, 1) := by decide +kernel
theorem dX5_isUnder_3 : decode cX5_isUnder 3 = .ok (.istore_n 3, 1) := by decide +kernel
theorem dX5_isUnder_4 : decode cX5_isUnder 4 = .ok (.iload_n 3, 1) := by decide +kernel
theorem dX5_isUnder_5 : decode cX5_isUnder 5 = .ok (.bipush 6, 2) := by decide +kernel
theorem dX5_isUnder_7 : decode cX5_isUnder 7 = .ok (.if_icmp .ge 31, 3) := by decide +kernel
theorem dX5_isUnder_10 : decode cX5_isUnder 10 = .ok (.iload_n 2, 1) := by decide +kernel
theorem dX5_isUnder_11 : decode cX5_isUnder 11 = .ok (.iconst 0, 1) := by decide +kernel
theorem dX5_isUnder_12 : decode cX5_isUnder 12 = .ok (.iconst 5, 1) := by decide +kernel
theorem dX5_isUnder_13 : decode cX5_isUnder 13 = .ok (.invokestatic 61, 3) := by decide +kernel
theorem dX5_isUnder_16 : decode cX5_isUnder 16 = .ok (.ifCond .eq 22, 3) := by decide +kernel
theorem dX5_isUnder_19 : decode cX5_isUnder 19 = .ok (.iload_n 2, 1) := by decide +kernel
theorem dX5_isUnder_20 : decode cX5_isUnder 20 = .ok (.iload_n 1, 1) := by decide +kernel
theorem dX5_isUnder_21 : decode cX5_isUnder 21 = .ok (.if_icmp .ne 5, 3) := by decide +kernel
theorem dX5_isUnder_24 : decode cX5_isUnder 24 = .ok (.iconst 1, 1) := by decide +kernel
theorem dX5_isUnder_25 : decode cX5_isUnder 25 = .ok (.ireturn, 1) := by decide +kernel
theorem dX5_isUnder_26 : decode cX5_isUnder 26 = .ok (.getstatic 284, 3) := by decide +kernel
theorem dX5_isUnder_29 : decode cX5_isUnder 29 = .ok (.iload_n 2, 1) := by decide +kernel
theorem dX5_isUnder_30 : decode cX5_isUnder 30 = .ok (.iaload, 1) := by decide +kernel
theorem dX5_isUnder_31 : decode cX5_isUnder 31 = .ok (.istore_n 2, 1) := by decide +kernel
theorem dX5_isUnder_32 : decode cX5_isUnder 32 = .ok (.iinc 3 1, 3) := by decide +kernel
theorem dX5_isUnder_35 : decode cX5_isUnder 35 = .ok (.goto (-31), 3) := by decide +kernel
theorem dX5_isUnder_38 : decode cX5_isUnder 38 = .ok (.iconst 0, 1) := by decide +kernel
theorem dX5_isUnder_39 : decode cX5_isUnder 39 = .ok (.ireturn, 1) := by decide +kernel
theorem dX6_in_0 : decode cX6_in 0 = .ok (.lload_n 0, 1) := by decide +kernel
theorem dX6_in_1 : decode cX6_in 1 = .ok (.lload_n 2, 1) := by decide +kernel
theorem dX6_in_2 : decode cX6_in 2 = .ok (.lcmp, 1) := by decide +kernel
theorem dX6_in_3 : decode cX6_in 3 = .ok (.ifCond .lt 14, 3) := by decide +kernel
theorem dX6_in_6 : decode cX6_in 6 = .ok (.lload_n 0, 1) := by decide +kernel
theorem dX6_in_7 : decode cX6_in 7 = .ok (.lload 4, 2) := by decide +kernel
theorem dX6_in_9 : decode cX6_in 9 = .ok (.lcmp, 1) := by decide +kernel
theorem dX6_in_10 : decode cX6_in 10 = .ok (.ifCond .gt 7, 3) := by decide +kernel
theorem dX6_in_13 : decode cX6_in 13 = .ok (.iconst 1, 1) := by decide +kernel
theorem dX6_in_14 : decode cX6_in 14 = .ok (.goto 4, 3) := by decide +kernel
theorem dX6_in_17 : decode cX6_in 17 = .ok (.iconst 0, 1) := by decide +kernel
theorem dX6_in_18 : decode cX6_in 18 = .ok (.ireturn, 1) := by decide +kernel
theorem dX6_within_0 : decode cX6_within 0 = .ok (.iload_n 0, 1) := by decide +kernel
theorem dX6_within_1 : decode cX6_within 1 = .ok (.iload_n 1, 1) := by decide +kernel
theorem dX6_within_2 : decode cX6_within 2 = .ok (.if_icmp .ge 7, 3) := by decide +kernel
theorem dX6_within_5 : decode cX6_within 5 = .ok (.iload_n 1, 1) := by decide +kernel
theorem dX6_within_6 : decode cX6_within 6 = .ok (.goto 13, 3) := by decide +kernel
theorem dX6_within_9 : decode cX6_within 9 = .ok (.iload_n 0, 1) := by decide +kernel
theorem dX6_within_10 : decode cX6_within 10 = .ok (.iload_n 2, 1) := by decide +kernel
theorem dX6_within_11 : decode cX6_within 11 = .ok (.if_icmp .le 7, 3) := by decide +kernel
theorem dX6_within_14 : decode cX6_within 14 = .ok (.iload_n 2, 1) := by decide +kernel
theorem dX6_within_15 : decode cX6_within 15 = .ok (.goto 4, 3) := by decide +kernel
theorem dX6_within_18 : decode cX6_within 18 = .ok (.iload_n 0, 1) := by decide +kernel
theorem dX6_within_19 : decode cX6_within 19 = .ok (.ireturn, 1) := by decide +kernel
theorem dX6_init_0 : decode cX6_init 0 = .ok (.aload_n 0, 1) := by decide +kernel
theorem dX6_init_1 : decode cX6_init 1 = .ok (.invokespecial 7, 3) := by decide +kernel
theorem dX6_init_4 : decode cX6_init 4 = .ok (.aload_n 0, 1) := by decide +kernel
theorem dX6_init_5 : decode cX6_init 5 = .ok (.sipush 960, 3) := by decide +kernel
theorem dX6_init_8 : decode cX6_init 8 = .ok (.newarray .int, 2) := by decide +kernel
theorem dX6_init_10 : decode cX6_init 10 = .ok (.putfield 13, 3) := by decide +kernel
theorem dX6_init_13 : decode cX6_init 13 = .ok (.aload_n 0, 1) := by decide +kernel
theorem dX6_init_14 : decode cX6_init 14 = .ok (.bipush 6, 2) := by decide +kernel
theorem dX6_init_16 : decode cX6_init 16 = .ok (.newarray .int, 2) := by decide +kernel
theorem dX6_init_18 : decode cX6_init 18 = .ok (.putfield 17, 3) := by decide +kernel
theorem dX6_init_21 : decode cX6_init 21 = .ok (.aload_n 0, 1) := by decide +kernel
theorem dX6_init_22 : decode cX6_init 22 = .ok (.sipush 160, 3) := by decide +kernel
theorem dX6_init_25 : decode cX6_init 25 = .ok (.newarray .int, 2) := by decide +kernel
theorem dX6_init_27 : decode cX6_init 27 = .ok (.putfield 20, 3) := by decide +kernel
theorem dX6_init_30 : decode cX6_init 30 = .ok (.aload_n 0, 1) := by decide +kernel
theorem dX6_init_31 : decode cX6_init 31 = .ok (.iconst 5, 1) := by decide +kernel
theorem dX6_init_32 : decode cX6_init 32 = .ok (.newarray .int, 2) := by decide +kernel
theorem dX6_init_34 : decode cX6_init 34 = .ok (.putfield 23, 3) := by decide +kernel
theorem dX6_init_37 : decode cX6_init 37 = .ok (.aload_n 0, 1) := by decide +kernel
theorem dX6_init_38 : decode cX6_init 38 = .ok (.bipush 24, 2) := by decide +kernel
theorem dX6_init_40 : decode cX6_init 40 = .ok (.newarray .int, 2) := by decide +kernel
theorem dX6_init_42 : decode cX6_init 42 = .ok (.putfield 26, 3) := by decide +kernel
theorem dX6_init_45 : decode cX6_init 45 = .ok (.aload_n 0, 1) := by decide +kernel
theorem dX6_init_46 : decode cX6_init 46 = .ok (.bipush 15, 2) := by decide +kernel
theorem dX6_init_48 : decode cX6_init 48 = .ok (.newarray .int, 2) := by decide +kernel
theorem dX6_init_50 : decode cX6_init 50 = .ok (.putfield 29, 3) := by decide +kernel
theorem dX6_init_53 : decode cX6_init 53 = .ok (.aload_n 0, 1) := by decide +kernel
theorem dX6_init_54 : decode cX6_init 54 = .ok (.iconst 5, 1) := by decide +kernel
theorem dX6_init_55 : decode cX6_init 55 = .ok (.newarray .int, 2) := by decide +kernel
theorem dX6_init_57 : decode cX6_init 57 = .ok (.putfield 32, 3) := by decide +kernel
theorem dX6_init_60 : decode cX6_init 60 = .ok (.aload_n 0, 1) := by decide +kernel
theorem dX6_init_61 : decode cX6_init 61 = .ok (.bipush 8, 2) := by decide +kernel
theorem dX6_init_63 : decode cX6_init 63 = .ok (.newarray .int, 2) := by decide +kernel
theorem dX6_init_65 : decode cX6_init 65 = .ok (.putfield 35, 3) := by decide +kernel
theorem dX6_init_68 : decode cX6_init 68 = .ok (.aload_n 0, 1) := by decide +kernel
theorem dX6_init_69 : decode cX6_init 69 = .ok (.iconst 5, 1) := by decide +kernel
theorem dX6_init_70 : decode cX6_init 70 = .ok (.newarray .int, 2) := by decide +kernel
theorem dX6_init_72 : decode cX6_init 72 = .ok (.putfield 38, 3) := by decide +kernel
theorem dX6_init_75 : decode cX6_init 75 = .ok (.aload_n 0, 1) := by decide +kernel
theorem dX6_init_76 : decode cX6_init 76 = .ok (.bipush 24, 2) := by decide +kernel
theorem dX6_init_78 : decode cX6_init 78 = .ok (.newarray .int, 2) := by decide +kernel
theorem dX6_init_80 : decode cX6_init 80 = .ok (.putfield 41, 3) := by decide +kernel
theorem dX6_init_83 : decode cX6_init 83 = .ok (.aload_n 0, 1) := by decide +kernel
theorem dX6_init_84 : decode cX6_init 84 = .ok (.bipush 15, 2) := by decide +kernel
theorem dX6_init_86 : decode cX6_init 86 = .ok (.newarray .int, 2) := by decide +kernel
theorem dX6_init_88 : decode cX6_init 88 = .ok (.putfield 44, 3) := by decide +kernel
theorem dX6_init_91 : decode cX6_init 91 = .ok (.aload_n 0, 1) := by decide +kernel
theorem dX6_init_92 : decode cX6_init 92 = .ok (.iconst (-1), 1) := by decide +kernel
theorem dX6_init_93 : decode cX6_init 93 = .ok (.putfield 47, 3) := by decide +kernel
theorem dX6_init_96 : decode cX6_init 96 = .ok (.aload_n 0, 1) := by decide +kernel
theorem dX6_init_97 : decode cX6_init 97 = .ok (.iconst 4, 1) := by decide +kernel
theorem dX6_init_98 : decode cX6_init 98 = .ok (.newarray .boolean, 2) := by decide +kernel
theorem dX6_init_100 : decode cX6_init 100 = .ok (.putfield 50, 3) := by decide +kernel
theorem dX6_init_103 : decode cX6_init 103 = .ok (.aload_n 0, 1) := by decide +kernel
theorem dX6_init_104 : decode cX6_init 104 = .ok (.iconst 4, 1) := by decide +kernel
theorem dX6_init_105 : decode cX6_init 105 = .ok (.newarray .int, 2) := by decide +kernel
theorem dX6_init_107 : decode cX6_init 107 = .ok (.putfield 54, 3) := by decide +kernel
theorem dX6_init_110 : decode cX6_init 110 = .ok (.aload_n 0, 1) := by decide +kernel
theorem dX6_init_111 : decode cX6_init 111 = .ok (.iconst 4, 1) := by decide +kernel
theorem dX6_init_112 : decode cX6_init 112 = .ok (.newarray .int, 2) := by decide +kernel
theorem dX6_init_114 : decode cX6_init 114 = .ok (.putfield 57, 3) := by decide +kernel
theorem dX6_init_117 : decode cX6_init 117 = .ok (.aload_n 0, 1) := by decide +kernel
theorem dX6_init_118 : decode cX6_init 118 = .ok (.sipush 160, 3) := by decide +kernel
theorem dX6_init_121 : decode cX6_init 121 = .ok (.newarray .int, 2) := by decide +kernel
theorem dX6_init_123 : decode cX6_init 123 = .ok (.putfield 60, 3) := by decide +kernel
theorem dX6_init_126 : decode cX6_init 126 = .ok (.aload_n 0, 1) := by decide +kernel
theorem dX6_init_127 : decode cX6_init 127 = .ok (.getfield 23, 3) := by decide +kernel
theorem dX6_init_130 : decode cX6_init 130 = .ok (.iconst 1, 1) := by decide +kernel
theorem dX6_init_131 : decode cX6_init 131 = .ok (.bipush 100, 2) := by decide +kernel
theorem dX6_init_133 : decode cX6_init 133 = .ok (.iastore, 1) := by decide +kernel
theorem dX6_init_134 : decode cX6_init 134 = .ok (.aload_n 0, 1) := by decide +kernel
theorem dX6_init_135 : decode cX6_init 135 = .ok (.iconst 0, 1) := by decide +kernel
theorem dX6_init_136 : decode cX6_init 136 = .ok (.bipush 116, 2) := by decide +kernel
theorem dX6_init_138 : decode cX6_init 138 = .ok (.bipush 104, 2) := by decide +kernel
theorem dX6_init_140 : decode cX6_init 140 = .ok (.bipush 114, 2) := by decide +kernel
theorem dX6_init_142 : decode cX6_init 142 = .ok (.bipush 111, 2) := by decide +kernel
theorem dX6_init_144 : decode cX6_init 144 = .ok (.bipush 119, 2) := by decide +kernel
theorem dX6_init_146 : decode cX6_init 146 = .ok (.bipush 115, 2) := by decide +kernel
theorem dX6_init_148 : decode cX6_init 148 = .ok (.bipush 32, 2) := by decide +kernel
theorem dX6_init_150 : decode cX6_init 150 = .ok (.bipush 57, 2) := by decide +kernel
theorem dX6_init_152 : decode cX6_init 152 = .ok (.invokevirtual 63, 3) := by decide +kernel
theorem dX6_init_155 : decode cX6_init 155 = .ok (.aload_n 0, 1) := by decide +kernel
theorem dX6_init_156 : decode cX6_init 156 = .ok (.bipush 8, 2) := by decide +kernel
theorem dX6_init_158 : decode cX6_init 158 = .ok (.bipush 32, 2) := by decide +kernel
theorem dX6_init_160 : decode cX6_init 160 = .ok (.bipush 59, 2) := by decide +kernel
theorem dX6_init_162 : decode cX6_init 162 = .ok (.bipush 32, 2) := by decide +kernel
theorem dX6_init_164 : decode cX6_init 164 = .ok (.bipush 99, 2) := by decide +kernel
theorem dX6_init_166 : decode cX6_init 166 = .ok (.bipush 111, 2) := by decide +kernel
theorem dX6_init_168 : decode cX6_init 168 = .ok (.bipush 109, 2) := by decide +kernel
theorem dX6_init_170 : decode cX6_init 170 = .ok (.bipush 101, 2) := by decide +kernel
theorem dX6_init_172 : decode cX6_init 172 = .ok (.bipush 115, 2) := by decide +kernel
theorem dX6_init_174 : decode cX6_init 174 = .ok (.invokevirtual 63, 3) := by decide +kernel
theorem dX6_init_177 : decode cX6_init 177 = .ok (.aload_n 0, 1) := by decide +kernel
theorem dX6_init_178 : decode cX6_init 178 = .ok (.bipush 16, 2) := by decide +kernel
theorem dX6_init_180 : decode cX6_init 180 = .ok (.bipush 32, 2) := by decide +kernel
theorem dX6_init_182 : decode cX6_init 182 = .ok (.bipush 49, 2) := by decide +kernel
theorem dX6_init_184 : decode cX6_init 184 = .ok (.bipush 32, 2) := by decide +kernel
theorem dX6_init_186 : decode cX6_init 186 = .ok (.bipush 59, 2) := by decide +kernel
theorem dX6_init_188 : decode cX6_init 188 = .ok (.bipush 32, 2) := by decide +kernel
theorem dX6_init_190 : decode cX6_init 190 = .ok (.bipush 112, 2) := by decide +kernel
theorem dX6_init_192 : decode cX6_init 192 = .ok (.bipush 97, 2) := by decide +kernel
theorem dX6_init_194 : decode cX6_init 194 = .ok (.bipush 121, 2) := by decide +kernel
theorem dX6_init_196 : decode cX6_init 196 = .ok (.invokevirtual 63, 3) := by decide +kernel
theorem dX6_init_199 : decode cX6_init 199 = .ok (.aload_n 0, 1) := by decide +kernel
theorem dX6_init_200 : decode cX6_init 200 = .ok (.bipush 24, 2) := by decide +kernel
theorem dX6_init_202 : decode cX6_init 202 = .ok (.bipush 115, 2) := by decide +kernel
theorem dX6_init_204 : decode cX6_init 204 = .ok (.bipush 32, 2) := by decide +kernel
theorem dX6_init_206 : decode cX6_init 206 = .ok (.bipush 49, 2) := by decide +kernel
theorem dX6_init_208 : decode cX6_init 208 = .ok (.bipush 32, 2) := by decide +kernel
theorem dX6_init_210 : decode cX6_init 210 = .ok (.bipush 59, 2) := by decide +kernel
theorem dX6_init_212 : decode cX6_init 212 = .ok (.bipush 32, 2) := by decide +kernel
theorem dX6_init_214 : decode cX6_init 214 = .ok (.bipush 32, 2) := by decide +kernel
theorem dX6_init_216 : decode cX6_init 216 = .ok (.bipush 32, 2) := by decide +kernel
theorem dX6_init_218 : decode cX6_init 218 = .ok (.invokevirtual 63, 3) := by decide +kernel
theorem dX6_init_221 : decode cX6_init 221 = .ok (.aload_n 0, 1) := by decide +kernel
theorem dX6_init_222 : decode cX6_init 222 = .ok (.getfield 17, 3) := by decide +kernel
theorem dX6_init_225 : decode cX6_init 225 = .ok (.iconst 0, 1) := by decide +kernel
theorem dX6_init_226 : decode cX6_init 226 = .ok (.bipush 32, 2) := by decide +kernel
theorem dX6_init_228 : decode cX6_init 228 = .ok (.iastore, 1) := by decide +kernel
theorem dX6_init_229 : decode cX6_init 229 = .ok (.aload_n 0, 1) := by decide +kernel
theorem dX6_init_230 : decode cX6_init 230 = .ok (.iconst 1, 1) := by decide +kernel
theorem dX6_init_231 : decode cX6_init 231 = .ok (.putfield 67, 3) := by decide +kernel
theorem dX6_init_234 : decode cX6_init 234 = .ok (.return_, 1) := by decide +kernel
theorem dX6_spell_0 : decode cX6_spell 0 = .ok (.aload_n 0, 1) := by decide +kernel
theorem dX6_spell_1 : decode cX6_spell 1 = .ok (.getfield 13, 3) := by decide +kernel
theorem dX6_spell_4 : decode cX6_spell 4 = .ok (.iload_n 1, 1) := by decide +kernel
theorem dX6_spell_5 : decode cX6_spell 5 = .ok (.iload_n 2, 1) := by decide +kernel
theorem dX6_spell_6 : decode cX6_spell 6 = .ok (.iastore, 1) := by decide +kernel
theorem dX6_spell_7 : decode cX6_spell 7 = .ok (.aload_n 0, 1) := by decide +kernel
theorem dX6_spell_8 : decode cX6_spell 8 = .ok (.getfield 13, 3) := by decide +kernel
theorem dX6_spell_11 : decode cX6_spell 11 = .ok (.iload_n 1, 1) := by decide +kernel
theorem dX6_spell_12 : decode cX6_spell 12 = .ok (.iconst 1, 1) := by decide +kernel
theorem dX6_spell_13 : decode cX6_spell 13 = .ok (.iadd, 1) := by decide +kernel
theorem dX6_spell_14 : decode cX6_spell 14 = .ok (.iload_n 3, 1) := by decide +kernel
theorem dX6_spell_15 : decode cX6_spell 15 = .ok (.iastore, 1) := by decide +kernel
theorem dX6_spell_16 : decode cX6_spell 16 = .ok (.aload_n 0, 1) := by decide +kernel
theorem dX6_spell_17 : decode cX6_spell 17 = .ok (.getfield 13, 3) := by decide +kernel
theorem dX6_spell_20 : decode cX6_spell 20 = .ok (.iload_n 1, 1) := by decide +kernel
theorem dX6_spell_21 : decode cX6_spell 21 = .ok (.iconst 2, 1) := by decide +kernel
theorem dX6_spell_22 : decode cX6_spell 22 = .ok (.iadd, 1) := by decide +kernel
theorem dX6_spell_23 : decode cX6_spell 23 = .ok (.iload 4, 2) := by decide +kernel
theorem dX6_spell_25 : decode cX6_spell 25 = .ok (.iastore, 1) := by decide +kernel
theorem dX6_spell_26 : decode cX6_spell 26 = .ok (.aload_n 0, 1) := by decide +kernel
theorem dX6_spell_27 : decode cX6_spell 27 = .ok (.getfield 13, 3) := by decide +kernel
theorem dX6_spell_30 : decode cX6_spell 30 = .ok (.iload_n 1, 1) := by decide +kernel
theorem dX6_spell_31 : decode cX6_spell 31 = .ok (.iconst 3, 1) := by decide +kernel
theorem dX6_spell_32 : decode cX6_spell 32 = .ok (.iadd, 1) := by decide +kernel
theorem dX6_spell_33 : decode cX6_spell 33 = .ok (.iload 5, 2) := by decide +kernel
theorem dX6_spell_35 : decode cX6_spell 35 = .ok (.iastore, 1) := by decide +kernel
theorem dX6_spell_36 : decode cX6_spell 36 = .ok (.aload_n 0, 1) := by decide +kernel
theorem dX6_spell_37 : decode cX6_spell 37 = .ok (.getfield 13, 3) := by decide +kernel
theorem dX6_spell_40 : decode cX6_spell 40 = .ok (.iload_n 1, 1) := by decide +kernel
theorem dX6_spell_41 : decode cX6_spell 41 = .ok (.iconst 4, 1) := by decide +kernel
theorem dX6_spell_42 : decode cX6_spell 42 = .ok (.iadd, 1) := by decide +kernel
theorem dX6_spell_43 : decode cX6_spell 43 = .ok (.iload 6, 2) := by decide +kernel
theorem dX6_spell_45 : decode cX6_spell 45 = .ok (.iastore, 1) := by decide +kernel
theorem dX6_spell_46 : decode cX6_spell 46 = .ok (.aload_n 0, 1) := by decide +kernel
theorem dX6_spell_47 : decode cX6_spell 47 = .ok (.getfield 13, 3) := by decide +kernel
theorem dX6_spell_50 : decode cX6_spell 50 = .ok (.iload_n 1, 1) := by decide +kernel
theorem dX6_spell_51 : decode cX6_spell 51 = .ok (.iconst 5, 1) := by decide +kernel
theorem dX6_spell_52 : decode cX6_spell 52 = .ok (.iadd, 1) := by decide +kernel
theorem dX6_spell_53 : decode cX6_spell 53 = .ok (.iload 7, 2) := by decide +kernel
theorem dX6_spell_55 : decode cX6_spell 55 = .ok (.iastore, 1) := by decide +kernel
theorem dX6_spell_56 : decode cX6_spell 56 = .ok (.aload_n 0, 1) := by decide +kernel
theorem dX6_spell_57 : decode cX6_spell 57 = .ok (.getfield 13, 3) := by decide +kernel
theorem dX6_spell_60 : decode cX6_spell 60 = .ok (.iload_n 1, 1) := by decide +kernel
theorem dX6_spell_61 : decode cX6_spell 61 = .ok (.bipush 6, 2) := by decide +kernel
theorem dX6_spell_63 : decode cX6_spell 63 = .ok (.iadd, 1) := by decide +kernel
theorem dX6_spell_64 : decode cX6_spell 64 = .ok (.iload 8, 2) := by decide +kernel
theorem dX6_spell_66 : decode cX6_spell 66 = .ok (.iastore, 1) := by decide +kernel
theorem dX6_spell_67 : decode cX6_spell 67 = .ok (.aload_n 0, 1) := by decide +kernel
theorem dX6_spell_68 : decode cX6_spell 68 = .ok (.getfield 13, 3) := by decide +kernel
theorem dX6_spell_71 : decode cX6_spell 71 = .ok (.iload_n 1, 1) := by decide +kernel
theorem dX6_spell_72 : decode cX6_spell 72 = .ok (.bipush 7, 2) := by decide +kernel
theorem dX6_spell_74 : decode cX6_spell 74 = .ok (.iadd, 1) := by decide +kernel
theorem dX6_spell_75 : decode cX6_spell 75 = .ok (.iload 9, 2) := by decide +kernel
theorem dX6_spell_77 : decode cX6_spell 77 = .ok (.iastore, 1) := by decide +kernel
theorem dX6_spell_78 : decode cX6_spell 78 = .ok (.return_, 1) := by decide +kernel
theorem dX6_isThing_0 : decode cX6_isThing 0 = .ok (.iload_n 1, 1) := by decide +kernel
theorem dX6_isThing_1 : decode cX6_isThing 1 = .ok (.i2l, 1) := by decide +kernel
theorem dX6_isThing_2 : decode cX6_isThing 2 = .ok (.lconst 0, 1) := by decide +kernel
theorem dX6_isThing_3 : decode cX6_isThing 3 = .ok (.aload_n 0, 1) := by decide +kernel
theorem dX6_isThing_4 : decode cX6_isThing 4 = .ok (.getfield 70, 3) := by decide +kernel
theorem dX6_isThing_7 : decode cX6_isThing 7 = .ok (.iconst 1, 1) := by decide +kernel
theorem dX6_isThing_8 : decode cX6_isThing 8 = .ok (.isub, 1) := by decide +kernel
theorem dX6_isThing_9 : decode cX6_isThing 9 = .ok (.i2l, 1) := by decide +kernel
theorem dX6_isThing_10 : decode cX6_isThing 10 = .ok (.invokestatic 73, 3) := by decide +kernel
theorem dX6_isThing_13 : decode cX6_isThing 13 = .ok (.ireturn, 1) := by decide +kernel
theorem dX6_isOne_0 : decode cX6_isOne 0 = .ok (.iload_n 1, 1) := by decide +kernel
theorem dX6_isOne_1 : decode cX6_isOne 1 = .ok (.i2l, 1) := by decide +kernel
theorem dX6_isOne_2 : decode cX6_isOne 2 = .ok (.lconst 0, 1) := by decide +kernel
theorem dX6_isOne_3 : decode cX6_isOne 3 = .ok (.aload_n 0, 1) := by decide +kernel
theorem dX6_isOne_4 : decode cX6_isOne 4 = .ok (.getfield 77, 3) := by decide +kernel
theorem dX6_isOne_7 : decode cX6_isOne 7 = .ok (.iconst 1, 1) := by decide +kernel
theorem dX6_isOne_8 : decode cX6_isOne 8 = .ok (.isub, 1) := by decide +kernel
theorem dX6_isOne_9 : decode cX6_isOne 9 = .ok (.i2l, 1) := by decide +kernel
theorem dX6_isOne_10 : decode cX6_isOne 10 = .ok (.invokestatic 73, 3) := by decide +kernel
theorem dX6_isOne_13 : decode cX6_isOne 13 = .ok (.ireturn, 1) := by decide +kernel
theorem dX6_isOf_0 : decode cX6_isOf 0 = .ok (.iload_n 1, 1) := by decide +kernel
theorem dX6_isOf_1 : decode cX6_isOf 1 = .ok (.iconst 5, 1) := by decide +kernel
theorem dX6_isOf_2 : decode cX6_isOf 2 = .ok (.if_icmp .lt 9, 3) := by decide +kernel
theorem dX6_isOf_5 : decode cX6_isOf 5 = .ok (.iload_n 1, 1) := by decide +kernel
theorem dX6_isOf_6 : decode cX6_isOf 6 = .ok (.bipush 13, 2) := by decide +kernel
theorem dX6_isOf_8 : decode cX6_isOf 8 = .ok (.if_icmp .le 5, 3) := by decide +kernel
theorem dX6_isOf_11 : decode cX6_isOf 11 = .ok (.iconst 1, 1) := by decide +kernel
theorem dX6_isOf_12 : decode cX6_isOf 12 = .ok (.ireturn, 1) := by decide +kernel
theorem dX6_isOf_13 : decode cX6_isOf 13 = .ok (.iload_n 1, 1) := by decide +kernel
theorem dX6_isOf_14 : decode cX6_isOf 14 = .ok (.iconst 5, 1) := by decide +kernel
theorem dX6_isOf_15 : decode cX6_isOf 15 = .ok (.if_icmp .eq 15, 3) := by decide +kernel
theorem dX6_isOf_18 : decode cX6_isOf 18 = .ok (.iload_n 1, 1) := by decide +kernel
theorem dX6_isOf_19 : decode cX6_isOf 19 = .ok (.bipush 8, 2) := by decide +kernel
theorem dX6_isOf_21 : decode cX6_isOf 21 = .ok (.if_icmp .eq 9, 3) := by decide +kernel
theorem dX6_isOf_24 : decode cX6_isOf 24 = .ok (.iload_n 1, 1) := by decide +kernel
theorem dX6_isOf_25 : decode cX6_isOf 25 = .ok (.bipush 9, 2) := by decide +kernel
theorem dX6_isOf_27 : decode cX6_isOf 27 = .ok (.if_icmp .ne 11, 3) := by decide +kernel
theorem dX6_isOf_30 : decode cX6_isOf 30 = .ok (.aload_n 0, 1) := by decide +kernel
theorem dX6_isOf_31 : decode cX6_isOf 31 = .ok (.iload_n 2, 1) := by decide +kernel
theorem dX6_isOf_32 : decode cX6_isOf 32 = .ok (.invokevirtual 80, 3) := by decide +kernel
theorem dX6_isOf_35 : decode cX6_isOf 35 = .ok (.goto 8, 3) := by decide +kernel
theorem dX6_isOf_38 : decode cX6_isOf 38 = .ok (.aload_n 0, 1) := by decide +kernel
theorem dX6_isOf_39 : decode cX6_isOf 39 = .ok (.iload_n 2, 1) := by decide +kernel
theorem dX6_isOf_40 : decode cX6_isOf 40 = .ok (.invokevirtual 84, 3) := by decide +kernel
theorem dX6_isOf_43 : decode cX6_isOf 43 = .ok (.ireturn, 1) := by decide +kernel
theorem dX6_mostOf_0 : decode cX6_mostOf 0 = .ok (.iload_n 0, 1) := by decide +kernel
theorem dX6_mostOf_1 : decode cX6_mostOf 1 = .ok (.iconst 2, 1) := by decide +kernel
theorem dX6_mostOf_2 : decode cX6_mostOf 2 = .ok (.if_icmp .eq 9, 3) := by decide +kernel
theorem dX6_mostOf_5 : decode cX6_mostOf 5 = .ok (.iload_n 0, 1) := by decide +kernel
theorem dX6_mostOf_6 : decode cX6_mostOf 6 = .ok (.bipush 7, 2) := by decide +kernel
theorem dX6_mostOf_8 : decode cX6_mostOf 8 = .ok (.if_icmp .ne 7, 3) := by decide +kernel
theorem dX6_mostOf_11 : decode cX6_mostOf 11 = .ok (.iconst 1, 1) := by decide +kernel
theorem dX6_mostOf_12 : decode cX6_mostOf 12 = .ok (.goto 27, 3) := by decide +kernel
theorem dX6_mostOf_15 : decode cX6_mostOf 15 = .ok (.iload_n 0, 1) := by decide +kernel
theorem dX6_mostOf_16 : decode cX6_mostOf 16 = .ok (.iconst 5, 1) := by decide +kernel
theorem dX6_mostOf_17 : decode cX6_mostOf 17 = .ok (.if_icmp .ne 8, 3) := by decide +kernel
theorem dX6_mostOf_20 : decode cX6_mostOf 20 = .ok (.bipush 99, 2) := by decide +kernel
theorem dX6_mostOf_22 : decode cX6_mostOf 22 = .ok (.goto 17, 3) := by decide +kernel
theorem dX6_mostOf_25 : decode cX6_mostOf 25 = .ok (.iload_n 0, 1) := by decide +kernel
theorem dX6_mostOf_26 : decode cX6_mostOf 26 = .ok (.bipush 6, 2) := by decide +kernel
theorem dX6_mostOf_28 : decode cX6_mostOf 28 = .ok (.if_icmp .ne 8, 3) := by decide +kernel
theorem dX6_mostOf_31 : decode cX6_mostOf 31 = .ok (.bipush 9, 2) := by decide +kernel
theorem dX6_mostOf_33 : decode cX6_mostOf 33 = .ok (.goto 6, 3) := by decide +kernel
theorem dX6_mostOf_36 : decode cX6_mostOf 36 = .ok (.sipush 999, 3) := by decide +kernel
theorem dX6_mostOf_39 : decode cX6_mostOf 39 = .ok (.ireturn, 1) := by decide +kernel
theorem dX6_set_0 : decode cX6_set 0 = .ok (.iload_n 1, 1) := by decide +kernel
theorem dX6_set_1 : decode cX6_set 1 = .ok (.i2l, 1) := by decide +kernel
theorem dX6_set_2 : decode cX6_set 2 = .ok (.lconst 0, 1) := by decide +kernel
theorem dX6_set_3 : decode cX6_set 3 = .ok (.ldc2_w 87, 3) := by decide +kernel
theorem dX6_set_6 : decode cX6_set 6 = .ok (.invokestatic 73, 3) := by decide +kernel
theorem dX6_set_9 : decode cX6_set 9 = .ok (.ifCond .eq 26, 3) := by decide +kernel
theorem dX6_set_12 : decode cX6_set 12 = .ok (.aload_n 0, 1) := by decide +kernel
theorem dX6_set_13 : decode cX6_set 13 = .ok (.iload_n 1, 1) := by decide +kernel
theorem dX6_set_14 : decode cX6_set 14 = .ok (.iload_n 2, 1) := by decide +kernel
theorem dX6_set_15 : decode cX6_set 15 = .ok (.invokevirtual 89, 3) := by decide +kernel
theorem dX6_set_18 : decode cX6_set 18 = .ok (.ifCond .eq 17, 3) := by decide +kernel
theorem dX6_set_21 : decode cX6_set 21 = .ok (.iload_n 3, 1) := by decide +kernel
theorem dX6_set_22 : decode cX6_set 22 = .ok (.i2l, 1) := by decide +kernel
theorem dX6_set_23 : decode cX6_set 23 = .ok (.lconst 0, 1) := by decide +kernel
theorem dX6_set_24 : decode cX6_set 24 = .ok (.iload_n 1, 1) := by decide +kernel
theorem dX6_set_25 : decode cX6_set 25 = .ok (.invokestatic 93, 3) := by decide +kernel
theorem dX6_set_28 : decode cX6_set 28 = .ok (.i2l, 1) := by decide +kernel
theorem dX6_set_29 : decode cX6_set 29 = .ok (.invokestatic 73, 3) := by decide +kernel
theorem dX6_set_32 : decode cX6_set 32 = .ok (.ifCond .ne 7, 3) := by decide +kernel
theorem dX6_set_35 : decode cX6_set 35 = .ok (.sipush (-1000), 3) := by decide +kernel
theorem dX6_set_38 : decode cX6_set 38 = .ok (.ireturn, 1) := by decide +kernel
theorem dX6_set_39 : decode cX6_set 39 = .ok (.aload_n 0, 1) := by decide +kernel
theorem dX6_set_40 : decode cX6_set 40 = .ok (.iload_n 2, 1) := by decide +kernel
theorem dX6_set_41 : decode cX6_set 41 = .ok (.iload_n 1, 1) := by decide +kernel
theorem dX6_set_42 : decode cX6_set 42 = .ok (.invokevirtual 97, 3) := by decide +kernel
theorem dX6_set_45 : decode cX6_set 45 = .ok (.istore 4, 2) := by decide +kernel
theorem dX6_set_47 : decode cX6_set 47 = .ok (.aload_n 0, 1) := by decide +kernel
theorem dX6_set_48 : decode cX6_set 48 = .ok (.iload_n 1, 1) := by decide +kernel
theorem dX6_set_49 : decode cX6_set 49 = .ok (.iload_n 2, 1) := by decide +kernel
theorem dX6_set_50 : decode cX6_set 50 = .ok (.iload_n 3, 1) := by decide +kernel
theorem dX6_set_51 : decode cX6_set 51 = .ok (.invokevirtual 101, 3) := by decide +kernel
theorem dX6_set_54 : decode cX6_set 54 = .ok (.iload 4, 2) := by decide +kernel
theorem dX6_set_56 : decode cX6_set 56 = .ok (.ireturn, 1) := by decide +kernel
theorem dX6_lays_0 : decode cX6_lays 0 = .ok (.iload_n 1, 1) := by decide +kernel
theorem dX6_lays_1 : decode cX6_lays 1 = .ok (.iconst 5, 1) := by decide +kernel
theorem dX6_lays_2 : decode cX6_lays 2 = .ok (.if_icmp .ge 13, 3) := by decide +kernel
theorem dX6_lays_5 : decode cX6_lays 5 = .ok (.aload_n 0, 1) := by decide +kernel
theorem dX6_lays_6 : decode cX6_lays 6 = .ok (.getfield 23, 3) := by decide +kernel
theorem dX6_lays_9 : decode cX6_lays 9 = .ok (.iload_n 1, 1) := by decide +kernel
theorem dX6_lays_10 : decode cX6_lays 10 = .ok (.iload_n 3, 1) := by decide +kernel
theorem dX6_lays_11 : decode cX6_lays 11 = .ok (.iastore, 1) := by decide +kernel
theorem dX6_lays_12 : decode cX6_lays 12 = .ok (.goto 68, 3) := by decide +kernel
theorem dX6_lays_15 : decode cX6_lays 15 = .ok (.iload_n 1, 1) := by decide +kernel
theorem dX6_lays_16 : decode cX6_lays 16 = .ok (.iconst 5, 1) := by decide +kernel
theorem dX6_lays_17 : decode cX6_lays 17 = .ok (.if_icmp .ne 15, 3) := by decide +kernel
theorem dX6_lays_20 : decode cX6_lays 20 = .ok (.aload_n 0, 1) := by decide +kernel
theorem dX6_lays_21 : decode cX6_lays 21 = .ok (.getfield 26, 3) := by decide +kernel
theorem dX6_lays_24 : decode cX6_lays 24 = .ok (.iconst 3, 1) := by decide +kernel
theorem dX6_lays_25 : decode cX6_lays 25 = .ok (.iload_n 2, 1) := by decide +kernel
theorem dX6_lays_26 : decode cX6_lays 26 = .ok (.imul, 1) := by decide +kernel
theorem dX6_lays_27 : decode cX6_lays 27 = .ok (.iload_n 3, 1) := by decide +kernel
theorem dX6_lays_28 : decode cX6_lays 28 = .ok (.iastore, 1) := by decide +kernel
theorem dX6_lays_29 : decode cX6_lays 29 = .ok (.goto 51, 3) := by decide +kernel
theorem dX6_lays_32 : decode cX6_lays 32 = .ok (.iload_n 1, 1) := by decide +kernel
theorem dX6_lays_33 : decode cX6_lays 33 = .ok (.bipush 8, 2) := by decide +kernel
theorem dX6_lays_35 : decode cX6_lays 35 = .ok (.if_icmp .ge 20, 3) := by decide +kernel
theorem dX6_lays_38 : decode cX6_lays 38 = .ok (.aload_n 0, 1) := by decide +kernel
theorem dX6_lays_39 : decode cX6_lays 39 = .ok (.getfield 29, 3) := by decide +kernel
theorem dX6_lays_42 : decode cX6_lays 42 = .ok (.iconst 3, 1) := by decide +kernel
theorem dX6_lays_43 : decode cX6_lays 43 = .ok (.iload_n 2, 1) := by decide +kernel
theorem dX6_lays_44 : decode cX6_lays 44 = .ok (.imul, 1) := by decide +kernel
theorem dX6_lays_45 : decode cX6_lays 45 = .ok (.iload_n 1, 1) := by decide +kernel
theorem dX6_lays_46 : decode cX6_lays 46 = .ok (.iadd, 1) := by decide +kernel
theorem dX6_lays_47 : decode cX6_lays 47 = .ok (.bipush 6, 2) := by decide +kernel
theorem dX6_lays_49 : decode cX6_lays 49 = .ok (.isub, 1) := by decide +kernel
theorem dX6_lays_50 : decode cX6_lays 50 = .ok (.iload_n 3, 1) := by decide +kernel
theorem dX6_lays_51 : decode cX6_lays 51 = .ok (.iastore, 1) := by decide +kernel
theorem dX6_lays_52 : decode cX6_lays 52 = .ok (.goto 28, 3) := by decide +kernel
theorem dX6_lays_55 : decode cX6_lays 55 = .ok (.iload_n 1, 1) := by decide +kernel
theorem dX6_lays_56 : decode cX6_lays 56 = .ok (.bipush 8, 2) := by decide +kernel
theorem dX6_lays_58 : decode cX6_lays 58 = .ok (.if_icmp .ne 17, 3) := by decide +kernel
theorem dX6_lays_61 : decode cX6_lays 61 = .ok (.aload_n 0, 1) := by decide +kernel
theorem dX6_lays_62 : decode cX6_lays 62 = .ok (.getfield 29, 3) := by decide +kernel
theorem dX6_lays_65 : decode cX6_lays 65 = .ok (.iconst 3, 1) := by decide +kernel
theorem dX6_lays_66 : decode cX6_lays 66 = .ok (.iload_n 2, 1) := by decide +kernel
theorem dX6_lays_67 : decode cX6_lays 67 = .ok (.imul, 1) := by decide +kernel
theorem dX6_lays_68 : decode cX6_lays 68 = .ok (.iconst 2, 1) := by decide +kernel
theorem dX6_lays_69 : decode cX6_lays 69 = .ok (.iadd, 1) := by decide +kernel
theorem dX6_lays_70 : decode cX6_lays 70 = .ok (.iload_n 3, 1) := by decide +kernel
theorem dX6_lays_71 : decode cX6_lays 71 = .ok (.iastore, 1) := by decide +kernel
theorem dX6_lays_72 : decode cX6_lays 72 = .ok (.goto 8, 3) := by decide +kernel
theorem dX6_lays_75 : decode cX6_lays 75 = .ok (.aload_n 0, 1) := by decide +kernel
theorem dX6_lays_76 : decode cX6_lays 76 = .ok (.iload_n 3, 1) := by decide +kernel
theorem dX6_lays_77 : decode cX6_lays 77 = .ok (.putfield 105, 3) := by decide +kernel
theorem dX6_lays_80 : decode cX6_lays 80 = .ok (.return_, 1) := by decide +kernel
theorem dX6_thing_0 : decode cX6_thing 0 = .ok (.iload_n 1, 1) := by decide +kernel
theorem dX6_thing_1 : decode cX6_thing 1 = .ok (.i2l, 1) := by decide +kernel
theorem dX6_thing_2 : decode cX6_thing 2 = .ok (.lconst 1, 1) := by decide +kernel
theorem dX6_thing_3 : decode cX6_thing 3 = .ok (.ldc2_w 108, 3) := by decide +kernel
theorem dX6_thing_6 : decode cX6_thing 6 = .ok (.invokestatic 73, 3) := by decide +kernel
theorem dX6_thing_9 : decode cX6_thing 9 = .ok (.ifCond .eq 15, 3) := by decide +kernel
theorem dX6_thing_12 : decode cX6_thing 12 = .ok (.iload_n 2, 1) := by decide +kernel
theorem dX6_thing_13 : decode cX6_thing 13 = .ok (.i2l, 1) := by decide +kernel
theorem dX6_thing_14 : decode cX6_thing 14 = .ok (.lconst 0, 1) := by decide +kernel
theorem dX6_thing_15 : decode cX6_thing 15 = .ok (.ldc2_w 108, 3) := by decide +kernel
theorem dX6_thing_18 : decode cX6_thing 18 = .ok (.invokestatic 73, 3) := by decide +kernel
theorem dX6_thing_21 : decode cX6_thing 21 = .ok (.ifCond .ne 6, 3) := by decide +kernel
theorem dX6_thing_24 : decode cX6_thing 24 = .ok (.bipush (-2), 2) := by decide +kernel
theorem dX6_thing_26 : decode cX6_thing 26 = .ok (.ireturn, 1) := by decide +kernel
theorem dX6_thing_27 : decode cX6_thing 27 = .ok (.aload_n 0, 1) := by decide +kernel
theorem dX6_thing_28 : decode cX6_thing 28 = .ok (.getfield 70, 3) := by decide +kernel
theorem dX6_thing_31 : decode cX6_thing 31 = .ok (.bipush 8, 2) := by decide +kernel
theorem dX6_thing_33 : decode cX6_thing 33 = .ok (.if_icmp .ne 6, 3) := by decide +kernel
theorem dX6_thing_36 : decode cX6_thing 36 = .ok (.bipush (-4), 2) := by decide +kernel
theorem dX6_thing_38 : decode cX6_thing 38 = .ok (.ireturn, 1) := by decide +kernel
theorem dX6_thing_39 : decode cX6_thing 39 = .ok (.aload_n 0, 1) := by decide +kernel
theorem dX6_thing_40 : decode cX6_thing 40 = .ok (.getfield 26, 3) := by decide +kernel
theorem dX6_thing_43 : decode cX6_thing 43 = .ok (.iconst 3, 1) := by decide +kernel
theorem dX6_thing_44 : decode cX6_thing 44 = .ok (.aload_n 0, 1) := by decide +kernel
theorem dX6_thing_45 : decode cX6_thing 45 = .ok (.getfield 70, 3) := by decide +kernel
theorem dX6_thing_48 : decode cX6_thing 48 = .ok (.imul, 1) := by decide +kernel
theorem dX6_thing_49 : decode cX6_thing 49 = .ok (.iload_n 2, 1) := by decide +kernel
theorem dX6_thing_50 : decode cX6_thing 50 = .ok (.iastore, 1) := by decide +kernel
theorem dX6_thing_51 : decode cX6_thing 51 = .ok (.aload_n 0, 1) := by decide +kernel
theorem dX6_thing_52 : decode cX6_thing 52 = .ok (.getfield 26, 3) := by decide +kernel
theorem dX6_thing_55 : decode cX6_thing 55 = .ok (.iconst 3, 1) := by decide +kernel
theorem dX6_thing_56 : decode cX6_thing 56 = .ok (.aload_n 0, 1) := by decide +kernel
theorem dX6_thing_57 : decode cX6_thing 57 = .ok (.getfield 70, 3) := by decide +kernel
theorem dX6_thing_60 : decode cX6_thing 60 = .ok (.imul, 1) := by decide +kernel
theorem dX6_thing_61 : decode cX6_thing 61 = .ok (.iconst 1, 1) := by decide +kernel
theorem dX6_thing_62 : decode cX6_thing 62 = .ok (.iadd, 1) := by decide +kernel
theorem dX6_thing_63 : decode cX6_thing 63 = .ok (.iload_n 1, 1) := by decide +kernel
theorem dX6_thing_64 : decode cX6_thing 64 = .ok (.iastore, 1) := by decide +kernel
theorem dX6_thing_65 : decode cX6_thing 65 = .ok (.aload_n 0, 1) := by decide +kernel
theorem dX6_thing_66 : decode cX6_thing 66 = .ok (.getfield 26, 3) := by decide +kernel
theorem dX6_thing_69 : decode cX6_thing 69 = .ok (.iconst 3, 1) := by decide +kernel
theorem dX6_thing_70 : decode cX6_thing 70 = .ok (.aload_n 0, 1) := by decide +kernel
theorem dX6_thing_71 : decode cX6_thing 71 = .ok (.getfield 70, 3) := by decide +kernel
theorem dX6_thing_74 : decode cX6_thing 74 = .ok (.imul, 1) := by decide +kernel
theorem dX6_thing_75 : decode cX6_thing 75 = .ok (.iconst 2, 1) := by decide +kernel
theorem dX6_thing_76 : decode cX6_thing 76 = .ok (.iadd, 1) := by decide +kernel
theorem dX6_thing_77 : decode cX6_thing 77 = .ok (.iconst 0, 1) := by decide +kernel
theorem dX6_thing_78 : decode cX6_thing 78 = .ok (.iastore, 1) := by decide +kernel
theorem dX6_thing_79 : decode cX6_thing 79 = .ok (.aload_n 0, 1) := by decide +kernel
theorem dX6_thing_80 : decode cX6_thing 80 = .ok (.dup, 1) := by decide +kernel
theorem dX6_thing_81 : decode cX6_thing 81 = .ok (.getfield 70, 3) := by decide +kernel
theorem dX6_thing_84 : decode cX6_thing 84 = .ok (.iconst 1, 1) := by decide +kernel
theorem dX6_thing_85 : decode cX6_thing 85 = .ok (.iadd, 1) := by decide +kernel
theorem dX6_thing_86 : decode cX6_thing 86 = .ok (.putfield 70, 3) := by decide +kernel
theorem dX6_thing_89 : decode cX6_thing 89 = .ok (.aload_n 0, 1) := by decide +kernel
theorem dX6_thing_90 : decode cX6_thing 90 = .ok (.getfield 70, 3) := by decide +kernel
theorem dX6_thing_93 : decode cX6_thing 93 = .ok (.iconst 1, 1) := by decide +kernel
theorem dX6_thing_94 : decode cX6_thing 94 = .ok (.isub, 1) := by decide +kernel
theorem dX6_thing_95 : decode cX6_thing 95 = .ok (.ireturn, 1) := by decide +kernel
theorem dX6_neighbour_0 : decode cX6_neighbour 0 = .ok (.iload_n 1, 1) := by decide +kernel
theorem dX6_neighbour_1 : decode cX6_neighbour 1 = .ok (.i2l, 1) := by decide +kernel
theorem dX6_neighbour_2 : decode cX6_neighbour 2 = .ok (.lconst 0, 1) := by decide +kernel
theorem dX6_neighbour_3 : decode cX6_neighbour 3 = .ok (.ldc2_w 110, 3) := by decide +kernel
theorem dX6_neighbour_6 : decode cX6_neighbour 6 = .ok (.invokestatic 73, 3) := by decide +kernel
theorem dX6_neighbour_9 : decode cX6_neighbour 9 = .ok (.ifCond .eq 15, 3) := by decide +kernel
theorem dX6_neighbour_12 : decode cX6_neighbour 12 = .ok (.iload_n 2, 1) := by decide +kernel
theorem dX6_neighbour_13 : decode cX6_neighbour 13 = .ok (.i2l, 1) := by decide +kernel
theorem dX6_neighbour_14 : decode cX6_neighbour 14 = .ok (.lconst 0, 1) := by decide +kernel
theorem dX6_neighbour_15 : decode cX6_neighbour 15 = .ok (.ldc2_w 112, 3) := by decide +kernel
theorem dX6_neighbour_18 : decode cX6_neighbour 18 = .ok (.invokestatic 73, 3) := by decide +kernel
theorem dX6_neighbour_21 : decode cX6_neighbour 21 = .ok (.ifCond .ne 6, 3) := by decide +kernel
theorem dX6_neighbour_24 : decode cX6_neighbour 24 = .ok (.bipush (-2), 2) := by decide +kernel
theorem dX6_neighbour_26 : decode cX6_neighbour 26 = .ok (.ireturn, 1) := by decide +kernel
theorem dX6_neighbour_27 : decode cX6_neighbour 27 = .ok (.aload_n 0, 1) := by decide +kernel
theorem dX6_neighbour_28 : decode cX6_neighbour 28 = .ok (.getfield 77, 3) := by decide +kernel
theorem dX6_neighbour_31 : decode cX6_neighbour 31 = .ok (.iconst 5, 1) := by decide +kernel
theorem dX6_neighbour_32 : decode cX6_neighbour 32 = .ok (.if_icmp .ne 6, 3) := by decide +kernel
theorem dX6_neighbour_35 : decode cX6_neighbour 35 = .ok (.bipush (-4), 2) := by decide +kernel
theorem dX6_neighbour_37 : decode cX6_neighbour 37 = .ok (.ireturn, 1) := by decide +kernel
theorem dX6_neighbour_38 : decode cX6_neighbour 38 = .ok (.aload_n 0, 1) := by decide +kernel
theorem dX6_neighbour_39 : decode cX6_neighbour 39 = .ok (.getfield 29, 3) := by decide +kernel
theorem dX6_neighbour_42 : decode cX6_neighbour 42 = .ok (.iconst 3, 1) := by decide +kernel
theorem dX6_neighbour_43 : decode cX6_neighbour 43 = .ok (.aload_n 0, 1) := by decide +kernel
theorem dX6_neighbour_44 : decode cX6_neighbour 44 = .ok (.getfield 77, 3) := by decide +kernel
theorem dX6_neighbour_47 : decode cX6_neighbour 47 = .ok (.imul, 1) := by decide +kernel
theorem dX6_neighbour_48 : decode cX6_neighbour 48 = .ok (.iload_n 2, 1) := by decide +kernel
theorem dX6_neighbour_49 : decode cX6_neighbour 49 = .ok (.iastore, 1) := by decide +kernel
theorem dX6_neighbour_50 : decode cX6_neighbour 50 = .ok (.aload_n 0, 1) := by decide +kernel
theorem dX6_neighbour_51 : decode cX6_neighbour 51 = .ok (.getfield 29, 3) := by decide +kernel
theorem dX6_neighbour_54 : decode cX6_neighbour 54 = .ok (.iconst 3, 1) := by decide +kernel
theorem dX6_neighbour_55 : decode cX6_neighbour 55 = .ok (.aload_n 0, 1) := by decide +kernel
theorem dX6_neighbour_56 : decode cX6_neighbour 56 = .ok (.getfield 77, 3) := by decide +kernel
theorem dX6_neighbour_59 : decode cX6_neighbour 59 = .ok (.imul, 1) := by decide +kernel
theorem dX6_neighbour_60 : decode cX6_neighbour 60 = .ok (.iconst 1, 1) := by decide +kernel
theorem dX6_neighbour_61 : decode cX6_neighbour 61 = .ok (.iadd, 1) := by decide +kernel
theorem dX6_neighbour_62 : decode cX6_neighbour 62 = .ok (.iconst 0, 1) := by decide +kernel
theorem dX6_neighbour_63 : decode cX6_neighbour 63 = .ok (.iastore, 1) := by decide +kernel
theorem dX6_neighbour_64 : decode cX6_neighbour 64 = .ok (.aload_n 0, 1) := by decide +kernel
theorem dX6_neighbour_65 : decode cX6_neighbour 65 = .ok (.getfield 29, 3) := by decide +kernel
theorem dX6_neighbour_68 : decode cX6_neighbour 68 = .ok (.iconst 3, 1) := by decide +kernel
theorem dX6_neighbour_69 : decode cX6_neighbour 69 = .ok (.aload_n 0, 1) := by decide +kernel
theorem dX6_neighbour_70 : decode cX6_neighbour 70 = .ok (.getfield 77, 3) := by decide +kernel
theorem dX6_neighbour_73 : decode cX6_neighbour 73 = .ok (.imul, 1) := by decide +kernel
theorem dX6_neighbour_74 : decode cX6_neighbour 74 = .ok (.iconst 2, 1) := by decide +kernel
theorem dX6_neighbour_75 : decode cX6_neighbour 75 = .ok (.iadd, 1) := by decide +kernel
theorem dX6_neighbour_76 : decode cX6_neighbour 76 = .ok (.iload_n 1, 1) := by decide +kernel
theorem dX6_neighbour_77 : decode cX6_neighbour 77 = .ok (.iastore, 1) := by decide +kernel
theorem dX6_neighbour_78 : decode cX6_neighbour 78 = .ok (.aload_n 0, 1) := by decide +kernel
theorem dX6_neighbour_79 : decode cX6_neighbour 79 = .ok (.dup, 1) := by decide +kernel
theorem dX6_neighbour_80 : decode cX6_neighbour 80 = .ok (.getfield 77, 3) := by decide +kernel
theorem dX6_neighbour_83 : decode cX6_neighbour 83 = .ok (.iconst 1, 1) := by decide +kernel
theorem dX6_neighbour_84 : decode cX6_neighbour 84 = .ok (.iadd, 1) := by decide +kernel
theorem dX6_neighbour_85 : decode cX6_neighbour 85 = .ok (.putfield 77, 3) := by decide +kernel
theorem dX6_neighbour_88 : decode cX6_neighbour 88 = .ok (.aload_n 0, 1) := by decide +kernel
theorem dX6_neighbour_89 : decode cX6_neighbour 89 = .ok (.getfield 77, 3) := by decide +kernel
theorem dX6_neighbour_92 : decode cX6_neighbour 92 = .ok (.iconst 1, 1) := by decide +kernel
theorem dX6_neighbour_93 : decode cX6_neighbour 93 = .ok (.isub, 1) := by decide +kernel
theorem dX6_neighbour_94 : decode cX6_neighbour 94 = .ok (.ireturn, 1) := by decide +kernel
theorem dX6_fullNow_0 : decode cX6_fullNow 0 = .ok (.aload_n 0, 1) := by decide +kernel
theorem dX6_fullNow_1 : decode cX6_fullNow 1 = .ok (.getfield 23, 3) := by decide +kernel
theorem dX6_fullNow_4 : decode cX6_fullNow 4 = .ok (.iconst 3, 1) := by decide +kernel
theorem dX6_fullNow_5 : decode cX6_fullNow 5 = .ok (.iaload, 1) := by decide +kernel
theorem dX6_fullNow_6 : decode cX6_fullNow 6 = .ok (.aload_n 0, 1) := by decide +kernel
theorem dX6_fullNow_7 : decode cX6_fullNow 7 = .ok (.getfield 23, 3) := by decide +kernel
theorem dX6_fullNow_10 : decode cX6_fullNow 10 = .ok (.iconst 4, 1) := by decide +kernel
theorem dX6_fullNow_11 : decode cX6_fullNow 11 = .ok (.iaload, 1) := by decide +kernel
theorem dX6_fullNow_12 : decode cX6_fullNow 12 = .ok (.iadd, 1) := by decide +kernel
theorem dX6_fullNow_13 : decode cX6_fullNow 13 = .ok (.ireturn, 1) := by decide +kernel
theorem dX6_roomNow_0 : decode cX6_roomNow 0 = .ok (.aload_n 0, 1) := by decide +kernel
theorem dX6_roomNow_1 : decode cX6_roomNow 1 = .ok (.getfield 23, 3) := by decide +kernel
theorem dX6_roomNow_4 : decode cX6_roomNow 4 = .ok (.iconst 1, 1) := by decide +kernel
theorem dX6_roomNow_5 : decode cX6_roomNow 5 = .ok (.iaload, 1) := by decide +kernel
theorem dX6_roomNow_6 : decode cX6_roomNow 6 = .ok (.aload_n 0, 1) := by decide +kernel
theorem dX6_roomNow_7 : decode cX6_roomNow 7 = .ok (.invokevirtual 114, 3) := by decide +kernel
theorem dX6_roomNow_10 : decode cX6_roomNow 10 = .ok (.isub, 1) := by decide +kernel
theorem dX6_roomNow_11 : decode cX6_roomNow 11 = .ok (.iconst 0, 1) := by decide +kernel
theorem dX6_roomNow_12 : decode cX6_roomNow 12 = .ok (.sipush 999, 3) := by decide +kernel
theorem dX6_roomNow_15 : decode cX6_roomNow 15 = .ok (.invokestatic 118, 3) := by decide +kernel
theorem dX6_roomNow_18 : decode cX6_roomNow 18 = .ok (.ireturn, 1) := by decide +kernel
theorem dX6_leftNow_0 : decode cX6_leftNow 0 = .ok (.iconst 0, 1) := by decide +kernel
theorem dX6_leftNow_1 : decode cX6_leftNow 1 = .ok (.istore_n 1, 1) := by decide +kernel
theorem dX6_leftNow_2 : decode cX6_leftNow 2 = .ok (.iconst 0, 1) := by decide +kernel
theorem dX6_leftNow_3 : decode cX6_leftNow 3 = .ok (.istore_n 2, 1) := by decide +kernel
theorem dX6_leftNow_4 : decode cX6_leftNow 4 = .ok (.iload_n 2, 1) := by decide +kernel
theorem dX6_leftNow_5 : decode cX6_leftNow 5 = .ok (.aload_n 0, 1) := by decide +kernel
theorem dX6_leftNow_6 : decode cX6_leftNow 6 = .ok (.getfield 70, 3) := by decide +kernel
theorem dX6_leftNow_9 : decode cX6_leftNow 9 = .ok (.if_icmp .ge 39, 3) := by decide +kernel
theorem dX6_leftNow_12 : decode cX6_leftNow 12 = .ok (.iload_n 1, 1) := by decide +kernel
theorem dX6_leftNow_13 : decode cX6_leftNow 13 = .ok (.aload_n 0, 1) := by decide +kernel
theorem dX6_leftNow_14 : decode cX6_leftNow 14 = .ok (.getfield 26, 3) := by decide +kernel
theorem dX6_leftNow_17 : decode cX6_leftNow 17 = .ok (.iconst 3, 1) := by decide +kernel
theorem dX6_leftNow_18 : decode cX6_leftNow 18 = .ok (.iload_n 2, 1) := by decide +kernel
theorem dX6_leftNow_19 : decode cX6_leftNow 19 = .ok (.imul, 1) := by decide +kernel
theorem dX6_leftNow_20 : decode cX6_leftNow 20 = .ok (.iconst 2, 1) := by decide +kernel
theorem dX6_leftNow_21 : decode cX6_leftNow 21 = .ok (.iadd, 1) := by decide +kernel
theorem dX6_leftNow_22 : decode cX6_leftNow 22 = .ok (.iaload, 1) := by decide +kernel
theorem dX6_leftNow_23 : decode cX6_leftNow 23 = .ok (.ifCond .ne 16, 3) := by decide +kernel
theorem dX6_leftNow_26 : decode cX6_leftNow 26 = .ok (.aload_n 0, 1) := by decide +kernel
theorem dX6_leftNow_27 : decode cX6_leftNow 27 = .ok (.getfield 26, 3) := by decide +kernel
theorem dX6_leftNow_30 : decode cX6_leftNow 30 = .ok (.iconst 3, 1) := by decide +kernel
theorem dX6_leftNow_31 : decode cX6_leftNow 31 = .ok (.iload_n 2, 1) := by decide +kernel
theorem dX6_leftNow_32 : decode cX6_leftNow 32 = .ok (.imul, 1) := by decide +kernel
theorem dX6_leftNow_33 : decode cX6_leftNow 33 = .ok (.iconst 1, 1) := by decide +kernel
theorem dX6_leftNow_34 : decode cX6_leftNow 34 = .ok (.iadd, 1) := by decide +kernel
theorem dX6_leftNow_35 : decode cX6_leftNow 35 = .ok (.iaload, 1) := by decide +kernel
theorem dX6_leftNow_36 : decode cX6_leftNow 36 = .ok (.goto 4, 3) := by decide +kernel
theorem dX6_leftNow_39 : decode cX6_leftNow 39 = .ok (.iconst 0, 1) := by decide +kernel
theorem dX6_leftNow_40 : decode cX6_leftNow 40 = .ok (.iadd, 1) := by decide +kernel
theorem dX6_leftNow_41 : decode cX6_leftNow 41 = .ok (.istore_n 1, 1) := by decide +kernel
theorem dX6_leftNow_42 : decode cX6_leftNow 42 = .ok (.iinc 2 1, 3) := by decide +kernel
theorem dX6_leftNow_45 : decode cX6_leftNow 45 = .ok (.goto (-41), 3) := by decide +kernel
theorem dX6_leftNow_48 : decode cX6_leftNow 48 = .ok (.iload_n 1, 1) := by decide +kernel
theorem dX6_leftNow_49 : decode cX6_leftNow 49 = .ok (.ireturn, 1) := by decide +kernel
theorem dX6_told_0 : decode cX6_told 0 = .ok (.iload_n 2, 1) := by decide +kernel
theorem dX6_told_1 : decode cX6_told 1 = .ok (.i2l, 1) := by decide +kernel
theorem dX6_told_2 : decode cX6_told 2 = .ok (.lconst 0, 1) := by decide +kernel
theorem dX6_told_3 : decode cX6_told 3 = .ok (.ldc2_w 122, 3) := by decide +kernel
theorem dX6_told_6 : decode cX6_told 6 = .ok (.invokestatic 73, 3) := by decide +kernel
theorem dX6_told_9 : decode cX6_told 9 = .ok (.ifCond .eq 12, 3) := by decide +kernel
theorem dX6_told_12 : decode cX6_told 12 = .ok (.aload_n 0, 1) := by decide +kernel
theorem dX6_told_13 : decode cX6_told 13 = .ok (.iload_n 2, 1) := by decide +kernel
theorem dX6_told_14 : decode cX6_told 14 = .ok (.iload_n 1, 1) := by decide +kernel
theorem dX6_told_15 : decode cX6_told 15 = .ok (.invokevirtual 89, 3) := by decide +kernel
theorem dX6_told_18 : decode cX6_told 18 = .ok (.ifCond .ne 7, 3) := by decide +kernel
theorem dX6_told_21 : decode cX6_told 21 = .ok (.sipush (-1000), 3) := by decide +kernel
theorem dX6_told_24 : decode cX6_told 24 = .ok (.ireturn, 1) := by decide +kernel
theorem dX6_told_25 : decode cX6_told 25 = .ok (.iload_n 2, 1) := by decide +kernel
theorem dX6_told_26 : decode cX6_told 26 = .ok (.bipush 8, 2) := by decide +kernel
theorem dX6_told_28 : decode cX6_told 28 = .ok (.if_icmp .ge 47, 3) := by decide +kernel
theorem dX6_told_31 : decode cX6_told 31 = .ok (.iload_n 2, 1) := by decide +kernel
theorem dX6_told_32 : decode cX6_told 32 = .ok (.iconst 5, 1) := by decide +kernel
theorem dX6_told_33 : decode cX6_told 33 = .ok (.if_icmp .ge 12, 3) := by decide +kernel
theorem dX6_told_36 : decode cX6_told 36 = .ok (.aload_n 0, 1) := by decide +kernel
theorem dX6_told_37 : decode cX6_told 37 = .ok (.getfield 23, 3) := by decide +kernel
theorem dX6_told_40 : decode cX6_told 40 = .ok (.iload_n 2, 1) := by decide +kernel
theorem dX6_told_41 : decode cX6_told 41 = .ok (.iaload, 1) := by decide +kernel
theorem dX6_told_42 : decode cX6_told 42 = .ok (.goto 32, 3) := by decide +kernel
theorem dX6_told_45 : decode cX6_told 45 = .ok (.iload_n 2, 1) := by decide +kernel
theorem dX6_told_46 : decode cX6_told 46 = .ok (.iconst 5, 1) := by decide +kernel
theorem dX6_told_47 : decode cX6_told 47 = .ok (.if_icmp .ne 14, 3) := by decide +kernel
theorem dX6_told_50 : decode cX6_told 50 = .ok (.aload_n 0, 1) := by decide +kernel
theorem dX6_told_51 : decode cX6_told 51 = .ok (.getfield 26, 3) := by decide +kernel
theorem dX6_told_54 : decode cX6_told 54 = .ok (.iconst 3, 1) := by decide +kernel
theorem dX6_told_55 : decode cX6_told 55 = .ok (.iload_n 1, 1) := by decide +kernel
theorem dX6_told_56 : decode cX6_told 56 = .ok (.imul, 1) := by decide +kernel
theorem dX6_told_57 : decode cX6_told 57 = .ok (.iaload, 1) := by decide +kernel
theorem dX6_told_58 : decode cX6_told 58 = .ok (.goto 16, 3) := by decide +kernel
theorem dX6_told_61 : decode cX6_told 61 = .ok (.aload_n 0, 1) := by decide +kernel
theorem dX6_told_62 : decode cX6_told 62 = .ok (.getfield 29, 3) := by decide +kernel
theorem dX6_told_65 : decode cX6_told 65 = .ok (.iconst 3, 1) := by decide +kernel
theorem dX6_told_66 : decode cX6_told 66 = .ok (.iload_n 1, 1) := by decide +kernel
theorem dX6_told_67 : decode cX6_told 67 = .ok (.imul, 1) := by decide +kernel
theorem dX6_told_68 : decode cX6_told 68 = .ok (.iload_n 2, 1) := by decide +kernel
theorem dX6_told_69 : decode cX6_told 69 = .ok (.iadd, 1) := by decide +kernel
theorem dX6_told_70 : decode cX6_told 70 = .ok (.bipush 6, 2) := by decide +kernel
theorem dX6_told_72 : decode cX6_told 72 = .ok (.isub, 1) := by decide +kernel
theorem dX6_told_73 : decode cX6_told 73 = .ok (.iaload, 1) := by decide +kernel
theorem dX6_told_74 : decode cX6_told 74 = .ok (.ireturn, 1) := by decide +kernel
theorem dX6_told_75 : decode cX6_told 75 = .ok (.iload_n 2, 1) := by decide +kernel
theorem dX6_told_76 : decode cX6_told 76 = .ok (.bipush 11, 2) := by decide +kernel
theorem dX6_told_78 : decode cX6_told 78 = .ok (.if_icmp .ge 36, 3) := by decide +kernel
theorem dX6_told_81 : decode cX6_told 81 = .ok (.iload_n 2, 1) := by decide +kernel
theorem dX6_told_82 : decode cX6_told 82 = .ok (.bipush 10, 2) := by decide +kernel
theorem dX6_told_84 : decode cX6_told 84 = .ok (.if_icmp .ge 19, 3) := by decide +kernel
theorem dX6_told_87 : decode cX6_told 87 = .ok (.aload_n 0, 1) := by decide +kernel
theorem dX6_told_88 : decode cX6_told 88 = .ok (.getfield 26, 3) := by decide +kernel
theorem dX6_told_91 : decode cX6_told 91 = .ok (.iconst 3, 1) := by decide +kernel
theorem dX6_told_92 : decode cX6_told 92 = .ok (.iload_n 1, 1) := by decide +kernel
theorem dX6_told_93 : decode cX6_told 93 = .ok (.imul, 1) := by decide +kernel
theorem dX6_told_94 : decode cX6_told 94 = .ok (.iload_n 2, 1) := by decide +kernel
theorem dX6_told_95 : decode cX6_told 95 = .ok (.iadd, 1) := by decide +kernel
theorem dX6_told_96 : decode cX6_told 96 = .ok (.bipush 7, 2) := by decide +kernel
theorem dX6_told_98 : decode cX6_told 98 = .ok (.isub, 1) := by decide +kernel
theorem dX6_told_99 : decode cX6_told 99 = .ok (.iaload, 1) := by decide +kernel
theorem dX6_told_100 : decode cX6_told 100 = .ok (.goto 13, 3) := by decide +kernel
theorem dX6_told_103 : decode cX6_told 103 = .ok (.aload_n 0, 1) := by decide +kernel
theorem dX6_told_104 : decode cX6_told 104 = .ok (.getfield 29, 3) := by decide +kernel
theorem dX6_told_107 : decode cX6_told 107 = .ok (.iconst 3, 1) := by decide +kernel
theorem dX6_told_108 : decode cX6_told 108 = .ok (.iload_n 1, 1) := by decide +kernel
theorem dX6_told_109 : decode cX6_told 109 = .ok (.imul, 1) := by decide +kernel
theorem dX6_told_110 : decode cX6_told 110 = .ok (.iconst 2, 1) := by decide +kernel
theorem dX6_told_111 : decode cX6_told 111 = .ok (.iadd, 1) := by decide +kernel
theorem dX6_told_112 : decode cX6_told 112 = .ok (.iaload, 1) := by decide +kernel
theorem dX6_told_113 : decode cX6_told 113 = .ok (.ireturn, 1) := by decide +kernel
theorem dX6_told_114 : decode cX6_told 114 = .ok (.iload_n 2, 1) := by decide +kernel
theorem dX6_told_115 : decode cX6_told 115 = .ok (.bipush 14, 2) := by decide +kernel
theorem dX6_told_117 : decode cX6_told 117 = .ok (.if_icmp .ge 42, 3) := by decide +kernel
theorem dX6_told_120 : decode cX6_told 120 = .ok (.iload_n 2, 1) := by decide +kernel
theorem dX6_told_121 : decode cX6_told 121 = .ok (.bipush 13, 2) := by decide +kernel
theorem dX6_told_123 : decode cX6_told 123 = .ok (.if_icmp .ne 19, 3) := by decide +kernel
theorem dX6_told_126 : decode cX6_told 126 = .ok (.aload_n 0, 1) := by decide +kernel
theorem dX6_told_127 : decode cX6_told 127 = .ok (.iload_n 1, 1) := by decide +kernel
theorem dX6_told_128 : decode cX6_told 128 = .ok (.invokevirtual 124, 3) := by decide +kernel
theorem dX6_told_131 : decode cX6_told 131 = .ok (.ifCond .eq 7, 3) := by decide +kernel
theorem dX6_told_134 : decode cX6_told 134 = .ok (.iconst 1, 1) := by decide +kernel
theorem dX6_told_135 : decode cX6_told 135 = .ok (.goto 23, 3) := by decide +kernel
theorem dX6_told_138 : decode cX6_told 138 = .ok (.iconst 0, 1) := by decide +kernel
theorem dX6_told_139 : decode cX6_told 139 = .ok (.goto 19, 3) := by decide +kernel
theorem dX6_told_142 : decode cX6_told 142 = .ok (.aload_n 0, 1) := by decide +kernel
theorem dX6_told_143 : decode cX6_told 143 = .ok (.iload_n 1, 1) := by decide +kernel
theorem dX6_told_144 : decode cX6_told 144 = .ok (.iload_n 2, 1) := by decide +kernel
theorem dX6_told_145 : decode cX6_told 145 = .ok (.bipush 12, 2) := by decide +kernel
theorem dX6_told_147 : decode cX6_told 147 = .ok (.if_icmp .ne 7, 3) := by decide +kernel
theorem dX6_told_150 : decode cX6_told 150 = .ok (.iconst 1, 1) := by decide +kernel
theorem dX6_told_151 : decode cX6_told 151 = .ok (.goto 4, 3) := by decide +kernel
theorem dX6_told_154 : decode cX6_told 154 = .ok (.iconst 0, 1) := by decide +kernel
theorem dX6_told_155 : decode cX6_told 155 = .ok (.invokevirtual 127, 3) := by decide +kernel
theorem dX6_told_158 : decode cX6_told 158 = .ok (.ireturn, 1) := by decide +kernel
theorem dX6_told_159 : decode cX6_told 159 = .ok (.iload_n 2, 1) := by decide +kernel
theorem dX6_told_160 : decode cX6_told 160 = .ok (.bipush 14, 2) := by decide +kernel
theorem dX6_told_162 : decode cX6_told 162 = .ok (.if_icmp .ne 10, 3) := by decide +kernel
theorem dX6_told_165 : decode cX6_told 165 = .ok (.aload_n 0, 1) := by decide +kernel
theorem dX6_told_166 : decode cX6_told 166 = .ok (.invokevirtual 114, 3) := by decide +kernel
theorem dX6_told_169 : decode cX6_told 169 = .ok (.goto 20, 3) := by decide +kernel
theorem dX6_told_172 : decode cX6_told 172 = .ok (.iload_n 2, 1) := by decide +kernel
theorem dX6_told_173 : decode cX6_told 173 = .ok (.bipush 15, 2) := by decide +kernel
theorem dX6_told_175 : decode cX6_told 175 = .ok (.if_icmp .ne 10, 3) := by decide +kernel
theorem dX6_told_178 : decode cX6_told 178 = .ok (.aload_n 0, 1) := by decide +kernel
theorem dX6_told_179 : decode cX6_told 179 = .ok (.invokevirtual 131, 3) := by decide +kernel
theorem dX6_told_182 : decode cX6_told 182 = .ok (.goto 7, 3) := by decide +kernel
theorem dX6_told_185 : decode cX6_told 185 = .ok (.aload_n 0, 1) := by decide +kernel
theorem dX6_told_186 : decode cX6_told 186 = .ok (.invokevirtual 134, 3) := by decide +kernel
theorem dX6_told_189 : decode cX6_told 189 = .ok (.ireturn, 1) := by decide +kernel
theorem dX6_feed_0 : decode cX6_feed 0 = .ok (.iload_n 1, 1) := by decide +kernel
theorem dX6_feed_1 : decode cX6_feed 1 = .ok (.i2l, 1) := by decide +kernel
theorem dX6_feed_2 : decode cX6_feed 2 = .ok (.lconst 0, 1) := by decide +kernel
theorem dX6_feed_3 : decode cX6_feed 3 = .ok (.ldc2_w 137, 3) := by decide +kernel
theorem dX6_feed_6 : decode cX6_feed 6 = .ok (.invokestatic 73, 3) := by decide +kernel
theorem dX6_feed_9 : decode cX6_feed 9 = .ok (.ifCond .ne 6, 3) := by decide +kernel
theorem dX6_feed_12 : decode cX6_feed 12 = .ok (.bipush (-2), 2) := by decide +kernel
theorem dX6_feed_14 : decode cX6_feed 14 = .ok (.ireturn, 1) := by decide +kernel
theorem dX6_feed_15 : decode cX6_feed 15 = .ok (.aload_n 0, 1) := by decide +kernel
theorem dX6_feed_16 : decode cX6_feed 16 = .ok (.getfield 139, 3) := by decide +kernel
theorem dX6_feed_19 : decode cX6_feed 19 = .ok (.sipush 160, 3) := by decide +kernel
theorem dX6_feed_22 : decode cX6_feed 22 = .ok (.if_icmp .ne 6, 3) := by decide +kernel
theorem dX6_feed_25 : decode cX6_feed 25 = .ok (.bipush (-4), 2) := by decide +kernel
theorem dX6_feed_27 : decode cX6_feed 27 = .ok (.ireturn, 1) := by decide +kernel
theorem dX6_feed_28 : decode cX6_feed 28 = .ok (.aload_n 0, 1) := by decide +kernel
theorem dX6_feed_29 : decode cX6_feed 29 = .ok (.getfield 20, 3) := by decide +kernel
theorem dX6_feed_32 : decode cX6_feed 32 = .ok (.aload_n 0, 1) := by decide +kernel
theorem dX6_feed_33 : decode cX6_feed 33 = .ok (.getfield 139, 3) := by decide +kernel
theorem dX6_feed_36 : decode cX6_feed 36 = .ok (.iload_n 1, 1) := by decide +kernel
theorem dX6_feed_37 : decode cX6_feed 37 = .ok (.iastore, 1) := by decide +kernel
theorem dX6_feed_38 : decode cX6_feed 38 = .ok (.aload_n 0, 1) := by decide +kernel
theorem dX6_feed_39 : decode cX6_feed 39 = .ok (.dup, 1) := by decide +kernel
theorem dX6_feed_40 : decode cX6_feed 40 = .ok (.getfield 139, 3) := by decide +kernel
theorem dX6_feed_43 : decode cX6_feed 43 = .ok (.iconst 1, 1) := by decide +kernel
theorem dX6_feed_44 : decode cX6_feed 44 = .ok (.iadd, 1) := by decide +kernel
theorem dX6_feed_45 : decode cX6_feed 45 = .ok (.putfield 139, 3) := by decide +kernel
theorem dX6_feed_48 : decode cX6_feed 48 = .ok (.aload_n 0, 1) := by decide +kernel
theorem dX6_feed_49 : decode cX6_feed 49 = .ok (.getfield 139, 3) := by decide +kernel
theorem dX6_feed_52 : decode cX6_feed 52 = .ok (.ireturn, 1) := by decide +kernel
theorem dX6_byteAt_0 : decode cX6_byteAt 0 = .ok (.iload_n 1, 1) := by decide +kernel
theorem dX6_byteAt_1 : decode cX6_byteAt 1 = .ok (.aload_n 0, 1) := by decide +kernel
theorem dX6_byteAt_2 : decode cX6_byteAt 2 = .ok (.getfield 142, 3) := by decide +kernel
theorem dX6_byteAt_5 : decode cX6_byteAt 5 = .ok (.if_icmp .ge 17, 3) := by decide +kernel
theorem dX6_byteAt_8 : decode cX6_byteAt 8 = .ok (.aload_n 0, 1) := by decide +kernel
theorem dX6_byteAt_9 : decode cX6_byteAt 9 = .ok (.getfield 13, 3) := by decide +kernel
theorem dX6_byteAt_12 : decode cX6_byteAt 12 = .ok (.aload_n 0, 1) := by decide +kernel
theorem dX6_byteAt_13 : decode cX6_byteAt 13 = .ok (.getfield 145, 3) := by decide +kernel
theorem dX6_byteAt_16 : decode cX6_byteAt 16 = .ok (.iload_n 1, 1) := by decide +kernel
theorem dX6_byteAt_17 : decode cX6_byteAt 17 = .ok (.iadd, 1) := by decide +kernel
theorem dX6_byteAt_18 : decode cX6_byteAt 18 = .ok (.iaload, 1) := by decide +kernel
theorem dX6_byteAt_19 : decode cX6_byteAt 19 = .ok (.goto 4, 3) := by decide +kernel
theorem dX6_byteAt_22 : decode cX6_byteAt 22 = .ok (.iconst (-1), 1) := by decide +kernel
theorem dX6_byteAt_23 : decode cX6_byteAt 23 = .ok (.ireturn, 1) := by decide +kernel
theorem dX6_next_0 : decode cX6_next 0 = .ok (.aload_n 0, 1) := by decide +kernel
theorem dX6_next_1 : decode cX6_next 1 = .ok (.aload_n 0, 1) := by decide +kernel
theorem dX6_next_2 : decode cX6_next 2 = .ok (.getfield 148, 3) := by decide +kernel
theorem dX6_next_5 : decode cX6_next 5 = .ok (.invokevirtual 151, 3) := by decide +kernel
theorem dX6_next_8 : decode cX6_next 8 = .ok (.bipush 32, 2) := by decide +kernel
theorem dX6_next_10 : decode cX6_next 10 = .ok (.if_icmp .eq 16, 3) := by decide +kernel
theorem dX6_next_13 : decode cX6_next 13 = .ok (.aload_n 0, 1) := by decide +kernel
theorem dX6_next_14 : decode cX6_next 14 = .ok (.aload_n 0, 1) := by decide +kernel
theorem dX6_next_15 : decode cX6_next 15 = .ok (.getfield 148, 3) := by decide +kernel
theorem dX6_next_18 : decode cX6_next 18 = .ok (.invokevirtual 151, 3) := by decide +kernel
theorem dX6_next_21 : decode cX6_next 21 = .ok (.bipush 10, 2) := by decide +kernel
theorem dX6_next_23 : decode cX6_next 23 = .ok (.if_icmp .ne 16, 3) := by decide +kernel
theorem dX6_next_26 : decode cX6_next 26 = .ok (.aload_n 0, 1) := by decide +kernel
theorem dX6_next_27 : decode cX6_next 27 = .ok (.dup, 1) := by decide +kernel
theorem dX6_next_28 : decode cX6_next 28 = .ok (.getfield 148, 3) := by decide +kernel
theorem dX6_next_31 : decode cX6_next 31 = .ok (.iconst 1, 1) := by decide +kernel
theorem dX6_next_32 : decode cX6_next 32 = .ok (.iadd, 1) := by decide +kernel
theorem dX6_next_33 : decode cX6_next 33 = .ok (.putfield 148, 3) := by decide +kernel
theorem dX6_next_36 : decode cX6_next 36 = .ok (.goto (-36), 3) := by decide +kernel
theorem dX6_next_39 : decode cX6_next 39 = .ok (.aload_n 0, 1) := by decide +kernel
theorem dX6_next_40 : decode cX6_next 40 = .ok (.aload_n 0, 1) := by decide +kernel
theorem dX6_next_41 : decode cX6_next 41 = .ok (.getfield 148, 3) := by decide +kernel
theorem dX6_next_44 : decode cX6_next 44 = .ok (.putfield 154, 3) := by decide +kernel
theorem dX6_next_47 : decode cX6_next 47 = .ok (.aload_n 0, 1) := by decide +kernel
theorem dX6_next_48 : decode cX6_next 48 = .ok (.aload_n 0, 1) := by decide +kernel
theorem dX6_next_49 : decode cX6_next 49 = .ok (.getfield 148, 3) := by decide +kernel
theorem dX6_next_52 : decode cX6_next 52 = .ok (.invokevirtual 151, 3) := by decide +kernel
theorem dX6_next_55 : decode cX6_next 55 = .ok (.istore_n 1, 1) := by decide +kernel
theorem dX6_next_56 : decode cX6_next 56 = .ok (.aload_n 0, 1) := by decide +kernel
theorem dX6_next_57 : decode cX6_next 57 = .ok (.iconst 4, 1) := by decide +kernel
theorem dX6_next_58 : decode cX6_next 58 = .ok (.putfield 157, 3) := by decide +kernel
theorem dX6_next_61 : decode cX6_next 61 = .ok (.iload_n 1, 1) := by decide +kernel
theorem dX6_next_62 : decode cX6_next 62 = .ok (.ifCond .ge 19, 3) := by decide +kernel
theorem dX6_next_65 : decode cX6_next 65 = .ok (.aload_n 0, 1) := by decide +kernel
theorem dX6_next_66 : decode cX6_next 66 = .ok (.iconst 0, 1) := by decide +kernel
theorem dX6_next_67 : decode cX6_next 67 = .ok (.putfield 157, 3) := by decide +kernel
theorem dX6_next_70 : decode cX6_next 70 = .ok (.aload_n 0, 1) := by decide +kernel
theorem dX6_next_71 : decode cX6_next 71 = .ok (.aload_n 0, 1) := by decide +kernel
theorem dX6_next_72 : decode cX6_next 72 = .ok (.getfield 142, 3) := by decide +kernel
theorem dX6_next_75 : decode cX6_next 75 = .ok (.putfield 154, 3) := by decide +kernel
theorem dX6_next_78 : decode cX6_next 78 = .ok (.goto 243, 3) := by decide +kernel
theorem dX6_next_81 : decode cX6_next 81 = .ok (.iload_n 1, 1) := by decide +kernel
theorem dX6_next_82 : decode cX6_next 82 = .ok (.i2l, 1) := by decide +kernel
theorem dX6_next_83 : decode cX6_next 83 = .ok (.ldc2_w 160, 3) := by decide +kernel
theorem dX6_next_86 : decode cX6_next 86 = .ok (.ldc2_w 162, 3) := by decide +kernel
theorem dX6_next_89 : decode cX6_next 89 = .ok (.invokestatic 73, 3) := by decide +kernel
theorem dX6_next_92 : decode cX6_next 92 = .ok (.ifCond .eq 42, 3) := by decide +kernel
theorem dX6_next_95 : decode cX6_next 95 = .ok (.aload_n 0, 1) := by decide +kernel
theorem dX6_next_96 : decode cX6_next 96 = .ok (.iconst 1, 1) := by decide +kernel
theorem dX6_next_97 : decode cX6_next 97 = .ok (.putfield 157, 3) := by decide +kernel
theorem dX6_next_100 : decode cX6_next 100 = .ok (.aload_n 0, 1) := by decide +kernel
theorem dX6_next_101 : decode cX6_next 101 = .ok (.aload_n 0, 1) := by decide +kernel
theorem dX6_next_102 : decode cX6_next 102 = .ok (.getfield 148, 3) := by decide +kernel
theorem dX6_next_105 : decode cX6_next 105 = .ok (.invokevirtual 151, 3) := by decide +kernel
theorem dX6_next_108 : decode cX6_next 108 = .ok (.i2l, 1) := by decide +kernel
theorem dX6_next_109 : decode cX6_next 109 = .ok (.ldc2_w 160, 3) := by decide +kernel
theorem dX6_next_112 : decode cX6_next 112 = .ok (.ldc2_w 162, 3) := by decide +kernel
theorem dX6_next_115 : decode cX6_next 115 = .ok (.invokestatic 73, 3) := by decide +kernel
theorem dX6_next_118 : decode cX6_next 118 = .ok (.ifCond .eq 203, 3) := by decide +kernel
theorem dX6_next_121 : decode cX6_next 121 = .ok (.aload_n 0, 1) := by decide +kernel
theorem dX6_next_122 : decode cX6_next 122 = .ok (.dup, 1) := by decide +kernel
theorem dX6_next_123 : decode cX6_next 123 = .ok (.getfield 148, 3) := by decide +kernel
theorem dX6_next_126 : decode cX6_next 126 = .ok (.iconst 1, 1) := by decide +kernel
theorem dX6_next_127 : decode cX6_next 127 = .ok (.iadd, 1) := by decide +kernel
theorem dX6_next_128 : decode cX6_next 128 = .ok (.putfield 148, 3) := by decide +kernel
theorem dX6_next_131 : decode cX6_next 131 = .ok (.goto (-31), 3) := by decide +kernel
theorem dX6_next_134 : decode cX6_next 134 = .ok (.iload_n 1, 1) := by decide +kernel
theorem dX6_next_135 : decode cX6_next 135 = .ok (.i2l, 1) := by decide +kernel
theorem dX6_next_136 : decode cX6_next 136 = .ok (.ldc2_w 164, 3) := by decide +kernel
theorem dX6_next_139 : decode cX6_next 139 = .ok (.ldc2_w 166, 3) := by decide +kernel
theorem dX6_next_142 : decode cX6_next 142 = .ok (.invokestatic 73, 3) := by decide +kernel
theorem dX6_next_145 : decode cX6_next 145 = .ok (.ifCond .eq 107, 3) := by decide +kernel
theorem dX6_next_148 : decode cX6_next 148 = .ok (.aload_n 0, 1) := by decide +kernel
theorem dX6_next_149 : decode cX6_next 149 = .ok (.iconst 2, 1) := by decide +kernel
theorem dX6_next_150 : decode cX6_next 150 = .ok (.putfield 157, 3) := by decide +kernel
theorem dX6_next_153 : decode cX6_next 153 = .ok (.aload_n 0, 1) := by decide +kernel
theorem dX6_next_154 : decode cX6_next 154 = .ok (.lconst 0, 1) := by decide +kernel
theorem dX6_next_155 : decode cX6_next 155 = .ok (.putfield 168, 3) := by decide +kernel
theorem dX6_next_158 : decode cX6_next 158 = .ok (.iconst 0, 1) := by decide +kernel
theorem dX6_next_159 : decode cX6_next 159 = .ok (.istore_n 2, 1) := by decide +kernel
theorem dX6_next_160 : decode cX6_next 160 = .ok (.aload_n 0, 1) := by decide +kernel
theorem dX6_next_161 : decode cX6_next 161 = .ok (.aload_n 0, 1) := by decide +kernel
theorem dX6_next_162 : decode cX6_next 162 = .ok (.getfield 148, 3) := by decide +kernel
theorem dX6_next_165 : decode cX6_next 165 = .ok (.invokevirtual 151, 3) := by decide +kernel
theorem dX6_next_168 : decode cX6_next 168 = .ok (.i2l, 1) := by decide +kernel
theorem dX6_next_169 : decode cX6_next 169 = .ok (.ldc2_w 164, 3) := by decide +kernel
theorem dX6_next_172 : decode cX6_next 172 = .ok (.ldc2_w 166, 3) := by decide +kernel
theorem dX6_next_175 : decode cX6_next 175 = .ok (.invokestatic 73, 3) := by decide +kernel
theorem dX6_next_178 : decode cX6_next 178 = .ok (.ifCond .eq 57, 3) := by decide +kernel
theorem dX6_next_181 : decode cX6_next 181 = .ok (.aload_n 0, 1) := by decide +kernel
theorem dX6_next_182 : decode cX6_next 182 = .ok (.iload_n 2, 1) := by decide +kernel
theorem dX6_next_183 : decode cX6_next 183 = .ok (.iconst 4, 1) := by decide +kernel
theorem dX6_next_184 : decode cX6_next 184 = .ok (.if_icmp .ge 28, 3) := by decide +kernel
theorem dX6_next_187 : decode cX6_next 187 = .ok (.ldc2_w 172, 3) := by decide +kernel
theorem dX6_next_190 : decode cX6_next 190 = .ok (.aload_n 0, 1) := by decide +kernel
theorem dX6_next_191 : decode cX6_next 191 = .ok (.getfield 168, 3) := by decide +kernel
theorem dX6_next_194 : decode cX6_next 194 = .ok (.lmul, 1) := by decide +kernel
theorem dX6_next_195 : decode cX6_next 195 = .ok (.aload_n 0, 1) := by decide +kernel
theorem dX6_next_196 : decode cX6_next 196 = .ok (.aload_n 0, 1) := by decide +kernel
theorem dX6_next_197 : decode cX6_next 197 = .ok (.getfield 148, 3) := by decide +kernel
theorem dX6_next_200 : decode cX6_next 200 = .ok (.invokevirtual 151, 3) := by decide +kernel
theorem dX6_next_203 : decode cX6_next 203 = .ok (.i2l, 1) := by decide +kernel
theorem dX6_next_204 : decode cX6_next 204 = .ok (.ladd, 1) := by decide +kernel
theorem dX6_next_205 : decode cX6_next 205 = .ok (.ldc2_w 164, 3) := by decide +kernel
theorem dX6_next_208 : decode cX6_next 208 = .ok (.lsub, 1) := by decide +kernel
theorem dX6_next_209 : decode cX6_next 209 = .ok (.goto 7, 3) := by decide +kernel
theorem dX6_next_212 : decode cX6_next 212 = .ok (.aload_n 0, 1) := by decide +kernel
theorem dX6_next_213 : decode cX6_next 213 = .ok (.getfield 168, 3) := by decide +kernel
theorem dX6_next_216 : decode cX6_next 216 = .ok (.putfield 168, 3) := by decide +kernel
theorem dX6_next_219 : decode cX6_next 219 = .ok (.iinc 2 1, 3) := by decide +kernel
theorem dX6_next_222 : decode cX6_next 222 = .ok (.aload_n 0, 1) := by decide +kernel
theorem dX6_next_223 : decode cX6_next 223 = .ok (.dup, 1) := by decide +kernel
theorem dX6_next_224 : decode cX6_next 224 = .ok (.getfield 148, 3) := by decide +kernel
theorem dX6_next_227 : decode cX6_next 227 = .ok (.iconst 1, 1) := by decide +kernel
theorem dX6_next_228 : decode cX6_next 228 = .ok (.iadd, 1) := by decide +kernel
theorem dX6_next_229 : decode cX6_next 229 = .ok (.putfield 148, 3) := by decide +kernel
theorem dX6_next_232 : decode cX6_next 232 = .ok (.goto (-72), 3) := by decide +kernel
theorem dX6_next_235 : decode cX6_next 235 = .ok (.aload_n 0, 1) := by decide +kernel
theorem dX6_next_236 : decode cX6_next 236 = .ok (.iload_n 2, 1) := by decide +kernel
theorem dX6_next_237 : decode cX6_next 237 = .ok (.iconst 4, 1) := by decide +kernel
theorem dX6_next_238 : decode cX6_next 238 = .ok (.if_icmp .le 7, 3) := by decide +kernel
theorem dX6_next_241 : decode cX6_next 241 = .ok (.iconst 4, 1) := by decide +kernel
theorem dX6_next_242 : decode cX6_next 242 = .ok (.goto 4, 3) := by decide +kernel
theorem dX6_next_245 : decode cX6_next 245 = .ok (.iconst 2, 1) := by decide +kernel
theorem dX6_next_246 : decode cX6_next 246 = .ok (.putfield 157, 3) := by decide +kernel
theorem dX6_next_249 : decode cX6_next 249 = .ok (.goto 72, 3) := by decide +kernel
theorem dX6_next_252 : decode cX6_next 252 = .ok (.iload_n 1, 1) := by decide +kernel
theorem dX6_next_253 : decode cX6_next 253 = .ok (.bipush 40, 2) := by decide +kernel
theorem dX6_next_255 : decode cX6_next 255 = .ok (.if_icmp .eq 45, 3) := by decide +kernel
theorem dX6_next_258 : decode cX6_next 258 = .ok (.iload_n 1, 1) := by decide +kernel
theorem dX6_next_259 : decode cX6_next 259 = .ok (.bipush 41, 2) := by decide +kernel
theorem dX6_next_261 : decode cX6_next 261 = .ok (.if_icmp .eq 39, 3) := by decide +kernel
theorem dX6_next_264 : decode cX6_next 264 = .ok (.iload_n 1, 1) := by decide +kernel
theorem dX6_next_265 : decode cX6_next 265 = .ok (.bipush 59, 2) := by decide +kernel
theorem dX6_next_267 : decode cX6_next 267 = .ok (.if_icmp .eq 33, 3) := by decide +kernel
theorem dX6_next_270 : decode cX6_next 270 = .ok (.iload_n 1, 1) := by decide +kernel
theorem dX6_next_271 : decode cX6_next 271 = .ok (.bipush 43, 2) := by decide +kernel
theorem dX6_next_273 : decode cX6_next 273 = .ok (.if_icmp .eq 27, 3) := by decide +kernel
theorem dX6_next_276 : decode cX6_next 276 = .ok (.iload_n 1, 1) := by decide +kernel
theorem dX6_next_277 : decode cX6_next 277 = .ok (.bipush 45, 2) := by decide +kernel
theorem dX6_next_279 : decode cX6_next 279 = .ok (.if_icmp .eq 21, 3) := by decide +kernel
theorem dX6_next_282 : decode cX6_next 282 = .ok (.iload_n 1, 1) := by decide +kernel
theorem dX6_next_283 : decode cX6_next 283 = .ok (.bipush 42, 2) := by decide +kernel
theorem dX6_next_285 : decode cX6_next 285 = .ok (.if_icmp .eq 15, 3) := by decide +kernel
theorem dX6_next_288 : decode cX6_next 288 = .ok (.iload_n 1, 1) := by decide +kernel
theorem dX6_next_289 : decode cX6_next 289 = .ok (.bipush 60, 2) := by decide +kernel
theorem dX6_next_291 : decode cX6_next 291 = .ok (.if_icmp .eq 9, 3) := by decide +kernel
theorem dX6_next_294 : decode cX6_next 294 = .ok (.iload_n 1, 1) := by decide +kernel
theorem dX6_next_295 : decode cX6_next 295 = .ok (.bipush 61, 2) := by decide +kernel
theorem dX6_next_297 : decode cX6_next 297 = .ok (.if_icmp .ne 24, 3) := by decide +kernel
theorem dX6_next_300 : decode cX6_next 300 = .ok (.aload_n 0, 1) := by decide +kernel
theorem dX6_next_301 : decode cX6_next 301 = .ok (.iconst 3, 1) := by decide +kernel
theorem dX6_next_302 : decode cX6_next 302 = .ok (.putfield 157, 3) := by decide +kernel
theorem dX6_next_305 : decode cX6_next 305 = .ok (.aload_n 0, 1) := by decide +kernel
theorem dX6_next_306 : decode cX6_next 306 = .ok (.iload_n 1, 1) := by decide +kernel
theorem dX6_next_307 : decode cX6_next 307 = .ok (.i2l, 1) := by decide +kernel
theorem dX6_next_308 : decode cX6_next 308 = .ok (.putfield 168, 3) := by decide +kernel
theorem dX6_next_311 : decode cX6_next 311 = .ok (.aload_n 0, 1) := by decide +kernel
theorem dX6_next_312 : decode cX6_next 312 = .ok (.dup, 1) := by decide +kernel
theorem dX6_next_313 : decode cX6_next 313 = .ok (.getfield 148, 3) := by decide +kernel
theorem dX6_next_316 : decode cX6_next 316 = .ok (.iconst 1, 1) := by decide +kernel
theorem dX6_next_317 : decode cX6_next 317 = .ok (.iadd, 1) := by decide +kernel
theorem dX6_next_318 : decode cX6_next 318 = .ok (.putfield 148, 3) := by decide +kernel
theorem dX6_next_321 : decode cX6_next 321 = .ok (.return_, 1) := by decide +kernel
theorem dX6_fail_0 : decode cX6_fail 0 = .ok (.aload_n 0, 1) := by decide +kernel
theorem dX6_fail_1 : decode cX6_fail 1 = .ok (.getfield 174, 3) := by decide +kernel
theorem dX6_fail_4 : decode cX6_fail 4 = .ok (.ifCond .ne 16, 3) := by decide +kernel
theorem dX6_fail_7 : decode cX6_fail 7 = .ok (.aload_n 0, 1) := by decide +kernel
theorem dX6_fail_8 : decode cX6_fail 8 = .ok (.iconst 1, 1) := by decide +kernel
theorem dX6_fail_9 : decode cX6_fail 9 = .ok (.putfield 174, 3) := by decide +kernel
theorem dX6_fail_12 : decode cX6_fail 12 = .ok (.aload_n 0, 1) := by decide +kernel
theorem dX6_fail_13 : decode cX6_fail 13 = .ok (.aload_n 0, 1) := by decide +kernel
theorem dX6_fail_14 : decode cX6_fail 14 = .ok (.getfield 154, 3) := by decide +kernel
theorem dX6_fail_17 : decode cX6_fail 17 = .ok (.putfield 178, 3) := by decide +kernel
theorem dX6_fail_20 : decode cX6_fail 20 = .ok (.return_, 1) := by decide +kernel
theorem dX6_isLetter_0 : decode cX6_isLetter 0 = .ok (.aload_n 0, 1) := by decide +kernel
theorem dX6_isLetter_1 : decode cX6_isLetter 1 = .ok (.getfield 154, 3) := by decide +kernel
theorem dX6_isLetter_4 : decode cX6_isLetter 4 = .ok (.iload_n 1, 1) := by decide +kernel
theorem dX6_isLetter_5 : decode cX6_isLetter 5 = .ok (.iadd, 1) := by decide +kernel
theorem dX6_isLetter_6 : decode cX6_isLetter 6 = .ok (.aload_n 0, 1) := by decide +kernel
theorem dX6_isLetter_7 : decode cX6_isLetter 7 = .ok (.getfield 148, 3) := by decide +kernel
theorem dX6_isLetter_10 : decode cX6_isLetter 10 = .ok (.if_icmp .ge 25, 3) := by decide +kernel
theorem dX6_isLetter_13 : decode cX6_isLetter 13 = .ok (.aload_n 0, 1) := by decide +kernel
theorem dX6_isLetter_14 : decode cX6_isLetter 14 = .ok (.aload_n 0, 1) := by decide +kernel
theorem dX6_isLetter_15 : decode cX6_isLetter 15 = .ok (.getfield 154, 3) := by decide +kernel
theorem dX6_isLetter_18 : decode cX6_isLetter 18 = .ok (.iload_n 1, 1) := by decide +kernel
theorem dX6_isLetter_19 : decode cX6_isLetter 19 = .ok (.iadd, 1) := by decide +kernel
theorem dX6_isLetter_20 : decode cX6_isLetter 20 = .ok (.invokevirtual 151, 3) := by decide +kernel
theorem dX6_isLetter_23 : decode cX6_isLetter 23 = .ok (.iload_n 2, 1) := by decide +kernel
theorem dX6_isLetter_24 : decode cX6_isLetter 24 = .ok (.if_icmp .ne 7, 3) := by decide +kernel
theorem dX6_isLetter_27 : decode cX6_isLetter 27 = .ok (.iconst 1, 1) := by decide +kernel
theorem dX6_isLetter_28 : decode cX6_isLetter 28 = .ok (.goto 16, 3) := by decide +kernel
theorem dX6_isLetter_31 : decode cX6_isLetter 31 = .ok (.iconst 0, 1) := by decide +kernel
theorem dX6_isLetter_32 : decode cX6_isLetter 32 = .ok (.goto 12, 3) := by decide +kernel
theorem dX6_isLetter_35 : decode cX6_isLetter 35 = .ok (.iload_n 2, 1) := by decide +kernel
theorem dX6_isLetter_36 : decode cX6_isLetter 36 = .ok (.ifCond .ne 7, 3) := by decide +kernel
theorem dX6_isLetter_39 : decode cX6_isLetter 39 = .ok (.iconst 1, 1) := by decide +kernel
theorem dX6_isLetter_40 : decode cX6_isLetter 40 = .ok (.goto 4, 3) := by decide +kernel
theorem dX6_isLetter_43 : decode cX6_isLetter 43 = .ok (.iconst 0, 1) := by decide +kernel
theorem dX6_isLetter_44 : decode cX6_isLetter 44 = .ok (.ireturn, 1) := by decide +kernel
theorem dX6_isWord_0 : decode cX6_isWord 0 = .ok (.aload_n 0, 1) := by decide +kernel
theorem dX6_isWord_1 : decode cX6_isWord 1 = .ok (.getfield 174, 3) := by decide +kernel
theorem dX6_isWord_4 : decode cX6_isWord 4 = .ok (.ifCond .ne 108, 3) := by decide +kernel
theorem dX6_isWord_7 : decode cX6_isWord 7 = .ok (.aload_n 0, 1) := by decide +kernel
theorem dX6_isWord_8 : decode cX6_isWord 8 = .ok (.getfield 157, 3) := by decide +kernel
theorem dX6_isWord_11 : decode cX6_isWord 11 = .ok (.iconst 1, 1) := by decide +kernel
theorem dX6_isWord_12 : decode cX6_isWord 12 = .ok (.if_icmp .ne 100, 3) := by decide +kernel
theorem dX6_isWord_15 : decode cX6_isWord 15 = .ok (.aload_n 0, 1) := by decide +kernel
theorem dX6_isWord_16 : decode cX6_isWord 16 = .ok (.getfield 148, 3) := by decide +kernel
theorem dX6_isWord_19 : decode cX6_isWord 19 = .ok (.aload_n 0, 1) := by decide +kernel
theorem dX6_isWord_20 : decode cX6_isWord 20 = .ok (.getfield 154, 3) := by decide +kernel
theorem dX6_isWord_23 : decode cX6_isWord 23 = .ok (.bipush 8, 2) := by decide +kernel
theorem dX6_isWord_25 : decode cX6_isWord 25 = .ok (.iadd, 1) := by decide +kernel
theorem dX6_isWord_26 : decode cX6_isWord 26 = .ok (.if_icmp .gt 86, 3) := by decide +kernel
theorem dX6_isWord_29 : decode cX6_isWord 29 = .ok (.aload_n 0, 1) := by decide +kernel
theorem dX6_isWord_30 : decode cX6_isWord 30 = .ok (.iconst 0, 1) := by decide +kernel
theorem dX6_isWord_31 : decode cX6_isWord 31 = .ok (.iload_n 1, 1) := by decide +kernel
theorem dX6_isWord_32 : decode cX6_isWord 32 = .ok (.invokevirtual 181, 3) := by decide +kernel
theorem dX6_isWord_35 : decode cX6_isWord 35 = .ok (.ifCond .eq 77, 3) := by decide +kernel
theorem dX6_isWord_38 : decode cX6_isWord 38 = .ok (.aload_n 0, 1) := by decide +kernel
theorem dX6_isWord_39 : decode cX6_isWord 39 = .ok (.iconst 1, 1) := by decide +kernel
theorem dX6_isWord_40 : decode cX6_isWord 40 = .ok (.iload_n 2, 1) := by decide +kernel
theorem dX6_isWord_41 : decode cX6_isWord 41 = .ok (.invokevirtual 181, 3) := by decide +kernel
theorem dX6_isWord_44 : decode cX6_isWord 44 = .ok (.ifCond .eq 68, 3) := by decide +kernel
theorem dX6_isWord_47 : decode cX6_isWord 47 = .ok (.aload_n 0, 1) := by decide +kernel
theorem dX6_isWord_48 : decode cX6_isWord 48 = .ok (.iconst 2, 1) := by decide +kernel
theorem dX6_isWord_49 : decode cX6_isWord 49 = .ok (.iload_n 3, 1) := by decide +kernel
theorem dX6_isWord_50 : decode cX6_isWord 50 = .ok (.invokevirtual 181, 3) := by decide +kernel
theorem dX6_isWord_53 : decode cX6_isWord 53 = .ok (.ifCond .eq 59, 3) := by decide +kernel
theorem dX6_isWord_56 : decode cX6_isWord 56 = .ok (.aload_n 0, 1) := by decide +kernel
theorem dX6_isWord_57 : decode cX6_isWord 57 = .ok (.iconst 3, 1) := by decide +kernel
theorem dX6_isWord_58 : decode cX6_isWord 58 = .ok (.iload 4, 2) := by decide +kernel
theorem dX6_isWord_60 : decode cX6_isWord 60 = .ok (.invokevirtual 181, 3) := by decide +kernel
theorem dX6_isWord_63 : decode cX6_isWord 63 = .ok (.ifCond .eq 49, 3) := by decide +kernel
theorem dX6_isWord_66 : decode cX6_isWord 66 = .ok (.aload_n 0, 1) := by decide +kernel
theorem dX6_isWord_67 : decode cX6_isWord 67 = .ok (.iconst 4, 1) := by decide +kernel
theorem dX6_isWord_68 : decode cX6_isWord 68 = .ok (.iload 5, 2) := by decide +kernel
theorem dX6_isWord_70 : decode cX6_isWord 70 = .ok (.invokevirtual 181, 3) := by decide +kernel
theorem dX6_isWord_73 : decode cX6_isWord 73 = .ok (.ifCond .eq 39, 3) := by decide +kernel
theorem dX6_isWord_76 : decode cX6_isWord 76 = .ok (.aload_n 0, 1) := by decide +kernel
theorem dX6_isWord_77 : decode cX6_isWord 77 = .ok (.iconst 5, 1) := by decide +kernel
theorem dX6_isWord_78 : decode cX6_isWord 78 = .ok (.iload 6, 2) := by decide +kernel
theorem dX6_isWord_80 : decode cX6_isWord 80 = .ok (.invokevirtual 181, 3) := by decide +kernel
theorem dX6_isWord_83 : decode cX6_isWord 83 = .ok (.ifCond .eq 29, 3) := by decide +kernel
theorem dX6_isWord_86 : decode cX6_isWord 86 = .ok (.aload_n 0, 1) := by decide +kernel
theorem dX6_isWord_87 : decode cX6_isWord 87 = .ok (.bipush 6, 2) := by decide +kernel
theorem dX6_isWord_89 : decode cX6_isWord 89 = .ok (.iload 7, 2) := by decide +kernel
theorem dX6_isWord_91 : decode cX6_isWord 91 = .ok (.invokevirtual 181, 3) := by decide +kernel
theorem dX6_isWord_94 : decode cX6_isWord 94 = .ok (.ifCond .eq 18, 3) := by decide +kernel
theorem dX6_isWord_97 : decode cX6_isWord 97 = .ok (.aload_n 0, 1) := by decide +kernel
theorem dX6_isWord_98 : decode cX6_isWord 98 = .ok (.bipush 7, 2) := by decide +kernel
theorem dX6_isWord_100 : decode cX6_isWord 100 = .ok (.iload 8, 2) := by decide +kernel
theorem dX6_isWord_102 : decode cX6_isWord 102 = .ok (.invokevirtual 181, 3) := by decide +kernel
theorem dX6_isWord_105 : decode cX6_isWord 105 = .ok (.ifCond .eq 7, 3) := by decide +kernel
theorem dX6_isWord_108 : decode cX6_isWord 108 = .ok (.iconst 1, 1) := by decide +kernel
theorem dX6_isWord_109 : decode cX6_isWord 109 = .ok (.goto 4, 3) := by decide +kernel
theorem dX6_isWord_112 : decode cX6_isWord 112 = .ok (.iconst 0, 1) := by decide +kernel
theorem dX6_isWord_113 : decode cX6_isWord 113 = .ok (.ireturn, 1) := by decide +kernel
theorem dX6_isSign_0 : decode cX6_isSign 0 = .ok (.aload_n 0, 1) := by decide +kernel
theorem dX6_isSign_1 : decode cX6_isSign 1 = .ok (.getfield 174, 3) := by decide +kernel
theorem dX6_isSign_4 : decode cX6_isSign 4 = .ok (.ifCond .ne 25, 3) := by decide +kernel
theorem dX6_isSign_7 : decode cX6_isSign 7 = .ok (.aload_n 0, 1) := by decide +kernel
theorem dX6_isSign_8 : decode cX6_isSign 8 = .ok (.getfield 157, 3) := by decide +kernel
theorem dX6_isSign_11 : decode cX6_isSign 11 = .ok (.iconst 3, 1) := by decide +kernel
theorem dX6_isSign_12 : decode cX6_isSign 12 = .ok (.if_icmp .ne 17, 3) := by decide +kernel
theorem dX6_isSign_15 : decode cX6_isSign 15 = .ok (.aload_n 0, 1) := by decide +kernel
theorem dX6_isSign_16 : decode cX6_isSign 16 = .ok (.getfield 168, 3) := by decide +kernel
theorem dX6_isSign_19 : decode cX6_isSign 19 = .ok (.iload_n 1, 1) := by decide +kernel
theorem dX6_isSign_20 : decode cX6_isSign 20 = .ok (.i2l, 1) := by decide +kernel
theorem dX6_isSign_21 : decode cX6_isSign 21 = .ok (.lcmp, 1) := by decide +kernel
theorem dX6_isSign_22 : decode cX6_isSign 22 = .ok (.ifCond .ne 7, 3) := by decide +kernel
theorem dX6_isSign_25 : decode cX6_isSign 25 = .ok (.iconst 1, 1) := by decide +kernel
theorem dX6_isSign_26 : decode cX6_isSign 26 = .ok (.goto 4, 3) := by decide +kernel
theorem dX6_isSign_29 : decode cX6_isSign 29 = .ok (.iconst 0, 1) := by decide +kernel
theorem dX6_isSign_30 : decode cX6_isSign 30 = .ok (.ireturn, 1) := by decide +kernel
theorem dX6_opens_0 : decode cX6_opens 0 = .ok (.aload_n 0, 1) := by decide +kernel
theorem dX6_opens_1 : decode cX6_opens 1 = .ok (.getfield 184, 3) := by decide +kernel
theorem dX6_opens_4 : decode cX6_opens 4 = .ok (.iconst 5, 1) := by decide +kernel
theorem dX6_opens_5 : decode cX6_opens 5 = .ok (.if_icmp .ne 9, 3) := by decide +kernel
theorem dX6_opens_8 : decode cX6_opens 8 = .ok (.aload_n 0, 1) := by decide +kernel
theorem dX6_opens_9 : decode cX6_opens 9 = .ok (.invokevirtual 187, 3) := by decide +kernel
theorem dX6_opens_12 : decode cX6_opens 12 = .ok (.iconst 0, 1) := by decide +kernel
theorem dX6_opens_13 : decode cX6_opens 13 = .ok (.ireturn, 1) := by decide +kernel
theorem dX6_opens_14 : decode cX6_opens 14 = .ok (.aload_n 0, 1) := by decide +kernel
theorem dX6_opens_15 : decode cX6_opens 15 = .ok (.dup, 1) := by decide +kernel
theorem dX6_opens_16 : decode cX6_opens 16 = .ok (.getfield 184, 3) := by decide +kernel
theorem dX6_opens_19 : decode cX6_opens 19 = .ok (.iconst 1, 1) := by decide +kernel
theorem dX6_opens_20 : decode cX6_opens 20 = .ok (.iadd, 1) := by decide +kernel
theorem dX6_opens_21 : decode cX6_opens 21 = .ok (.putfield 184, 3) := by decide +kernel
theorem dX6_opens_24 : decode cX6_opens 24 = .ok (.aload_n 0, 1) := by decide +kernel
theorem dX6_opens_25 : decode cX6_opens 25 = .ok (.invokevirtual 190, 3) := by decide +kernel
theorem dX6_opens_28 : decode cX6_opens 28 = .ok (.iconst 1, 1) := by decide +kernel
theorem dX6_opens_29 : decode cX6_opens 29 = .ok (.ireturn, 1) := by decide +kernel
theorem dX6_name_0 : decode cX6_name 0 = .ok (.aload_n 0, 1) := by decide +kernel
theorem dX6_name_1 : decode cX6_name 1 = .ok (.bipush 102, 2) := by decide +kernel
theorem dX6_name_3 : decode cX6_name 3 = .ok (.bipush 117, 2) := by decide +kernel
theorem dX6_name_5 : decode cX6_name 5 = .ok (.bipush 108, 2) := by decide +kernel
theorem dX6_name_7 : decode cX6_name 7 = .ok (.bipush 108, 2) := by decide +kernel
theorem dX6_name_9 : decode cX6_name 9 = .ok (.iconst 0, 1) := by decide +kernel
theorem dX6_name_10 : decode cX6_name 10 = .ok (.iconst 0, 1) := by decide +kernel
theorem dX6_name_11 : decode cX6_name 11 = .ok (.iconst 0, 1) := by decide +kernel
theorem dX6_name_12 : decode cX6_name 12 = .ok (.iconst 0, 1) := by decide +kernel
theorem dX6_name_13 : decode cX6_name 13 = .ok (.invokevirtual 193, 3) := by decide +kernel
theorem dX6_name_16 : decode cX6_name 16 = .ok (.ifCond .eq 8, 3) := by decide +kernel
theorem dX6_name_19 : decode cX6_name 19 = .ok (.aload_n 0, 1) := by decide +kernel
theorem dX6_name_20 : decode cX6_name 20 = .ok (.getfield 197, 3) := by decide +kernel
theorem dX6_name_23 : decode cX6_name 23 = .ok (.ireturn, 1) := by decide +kernel
theorem dX6_name_24 : decode cX6_name 24 = .ok (.aload_n 0, 1) := by decide +kernel
theorem dX6_name_25 : decode cX6_name 25 = .ok (.bipush 110, 2) := by decide +kernel
theorem dX6_name_27 : decode cX6_name 27 = .ok (.bipush 117, 2) := by decide +kernel
theorem dX6_name_29 : decode cX6_name 29 = .ok (.bipush 109, 2) := by decide +kernel
theorem dX6_name_31 : decode cX6_name 31 = .ok (.bipush 98, 2) := by decide +kernel
theorem dX6_name_33 : decode cX6_name 33 = .ok (.bipush 101, 2) := by decide +kernel
theorem dX6_name_35 : decode cX6_name 35 = .ok (.bipush 114, 2) := by decide +kernel
theorem dX6_name_37 : decode cX6_name 37 = .ok (.iconst 0, 1) := by decide +kernel
theorem dX6_name_38 : decode cX6_name 38 = .ok (.iconst 0, 1) := by decide +kernel
theorem dX6_name_39 : decode cX6_name 39 = .ok (.invokevirtual 193, 3) := by decide +kernel
theorem dX6_name_42 : decode cX6_name 42 = .ok (.ifCond .eq 8, 3) := by decide +kernel
theorem dX6_name_45 : decode cX6_name 45 = .ok (.aload_n 0, 1) := by decide +kernel
theorem dX6_name_46 : decode cX6_name 46 = .ok (.getfield 200, 3) := by decide +kernel
theorem dX6_name_49 : decode cX6_name 49 = .ok (.ireturn, 1) := by decide +kernel
theorem dX6_name_50 : decode cX6_name 50 = .ok (.aload_n 0, 1) := by decide +kernel
theorem dX6_name_51 : decode cX6_name 51 = .ok (.bipush 110, 2) := by decide +kernel
theorem dX6_name_53 : decode cX6_name 53 = .ok (.bipush 105, 2) := by decide +kernel
theorem dX6_name_55 : decode cX6_name 55 = .ok (.bipush 103, 2) := by decide +kernel
theorem dX6_name_57 : decode cX6_name 57 = .ok (.bipush 104, 2) := by decide +kernel
theorem dX6_name_59 : decode cX6_name 59 = .ok (.bipush 116, 2) := by decide +kernel
theorem dX6_name_61 : decode cX6_name 61 = .ok (.iconst 0, 1) := by decide +kernel
theorem dX6_name_62 : decode cX6_name 62 = .ok (.iconst 0, 1) := by decide +kernel
theorem dX6_name_63 : decode cX6_name 63 = .ok (.iconst 0, 1) := by decide +kernel
theorem dX6_name_64 : decode cX6_name 64 = .ok (.invokevirtual 193, 3) := by decide +kernel
theorem dX6_name_67 : decode cX6_name 67 = .ok (.ifCond .eq 8, 3) := by decide +kernel
theorem dX6_name_70 : decode cX6_name 70 = .ok (.aload_n 0, 1) := by decide +kernel
theorem dX6_name_71 : decode cX6_name 71 = .ok (.getfield 203, 3) := by decide +kernel
theorem dX6_name_74 : decode cX6_name 74 = .ok (.ireturn, 1) := by decide +kernel
theorem dX6_name_75 : decode cX6_name 75 = .ok (.aload_n 0, 1) := by decide +kernel
theorem dX6_name_76 : decode cX6_name 76 = .ok (.bipush 108, 2) := by decide +kernel
theorem dX6_name_78 : decode cX6_name 78 = .ok (.bipush 97, 2) := by decide +kernel
theorem dX6_name_80 : decode cX6_name 80 = .ok (.bipush 109, 2) := by decide +kernel
theorem dX6_name_82 : decode cX6_name 82 = .ok (.bipush 112, 2) := by decide +kernel
theorem dX6_name_84 : decode cX6_name 84 = .ok (.iconst 0, 1) := by decide +kernel
theorem dX6_name_85 : decode cX6_name 85 = .ok (.iconst 0, 1) := by decide +kernel
theorem dX6_name_86 : decode cX6_name 86 = .ok (.iconst 0, 1) := by decide +kernel
theorem dX6_name_87 : decode cX6_name 87 = .ok (.iconst 0, 1) := by decide +kernel
theorem dX6_name_88 : decode cX6_name 88 = .ok (.invokevirtual 193, 3) := by decide +kernel
theorem dX6_name_91 : decode cX6_name 91 = .ok (.ifCond .eq 8, 3) := by decide +kernel
theorem dX6_name_94 : decode cX6_name 94 = .ok (.aload_n 0, 1) := by decide +kernel
theorem dX6_name_95 : decode cX6_name 95 = .ok (.getfield 206, 3) := by decide +kernel
theorem dX6_name_98 : decode cX6_name 98 = .ok (.ireturn, 1) := by decide +kernel
theorem dX6_name_99 : decode cX6_name 99 = .ok (.aload_n 0, 1) := by decide +kernel
theorem dX6_name_100 : decode cX6_name 100 = .ok (.bipush 97, 2) := by decide +kernel
theorem dX6_name_102 : decode cX6_name 102 = .ok (.bipush 115, 2) := by decide +kernel
theorem dX6_name_104 : decode cX6_name 104 = .ok (.bipush 107, 2) := by decide +kernel
theorem dX6_name_106 : decode cX6_name 106 = .ok (.bipush 101, 2) := by decide +kernel
theorem dX6_name_108 : decode cX6_name 108 = .ok (.bipush 100, 2) := by decide +kernel
theorem dX6_name_110 : decode cX6_name 110 = .ok (.iconst 0, 1) := by decide +kernel
theorem dX6_name_111 : decode cX6_name 111 = .ok (.iconst 0, 1) := by decide +kernel
theorem dX6_name_112 : decode cX6_name 112 = .ok (.iconst 0, 1) := by decide +kernel
theorem dX6_name_113 : decode cX6_name 113 = .ok (.invokevirtual 193, 3) := by decide +kernel
theorem dX6_name_116 : decode cX6_name 116 = .ok (.ifCond .eq 8, 3) := by decide +kernel
theorem dX6_name_119 : decode cX6_name 119 = .ok (.aload_n 0, 1) := by decide +kernel
theorem dX6_name_120 : decode cX6_name 120 = .ok (.getfield 209, 3) := by decide +kernel
theorem dX6_name_123 : decode cX6_name 123 = .ok (.ireturn, 1) := by decide +kernel
theorem dX6_name_124 : decode cX6_name 124 = .ok (.aload_n 0, 1) := by decide +kernel
theorem dX6_name_125 : decode cX6_name 125 = .ok (.bipush 109, 2) := by decide +kernel
theorem dX6_name_127 : decode cX6_name 127 = .ok (.bipush 105, 2) := by decide +kernel
theorem dX6_name_129 : decode cX6_name 129 = .ok (.bipush 110, 2) := by decide +kernel
theorem dX6_name_131 : decode cX6_name 131 = .ok (.bipush 101, 2) := by decide +kernel
theorem dX6_name_133 : decode cX6_name 133 = .ok (.iconst 0, 1) := by decide +kernel
theorem dX6_name_134 : decode cX6_name 134 = .ok (.iconst 0, 1) := by decide +kernel
theorem dX6_name_135 : decode cX6_name 135 = .ok (.iconst 0, 1) := by decide +kernel
theorem dX6_name_136 : decode cX6_name 136 = .ok (.iconst 0, 1) := by decide +kernel
theorem dX6_name_137 : decode cX6_name 137 = .ok (.invokevirtual 193, 3) := by decide +kernel
theorem dX6_name_140 : decode cX6_name 140 = .ok (.ifCond .eq 8, 3) := by decide +kernel
theorem dX6_name_143 : decode cX6_name 143 = .ok (.aload_n 0, 1) := by decide +kernel
theorem dX6_name_144 : decode cX6_name 144 = .ok (.getfield 212, 3) := by decide +kernel
theorem dX6_name_147 : decode cX6_name 147 = .ok (.ireturn, 1) := by decide +kernel
theorem dX6_name_148 : decode cX6_name 148 = .ok (.aload_n 0, 1) := by decide +kernel
theorem dX6_name_149 : decode cX6_name 149 = .ok (.invokevirtual 187, 3) := by decide +kernel
theorem dX6_name_152 : decode cX6_name 152 = .ok (.iconst 0, 1) := by decide +kernel
theorem dX6_name_153 : decode cX6_name 153 = .ok (.ireturn, 1) := by decide +kernel
theorem dX6_atom5_0 : decode cX6_atom5 0 = .ok (.iconst 0, 1) := by decide +kernel
theorem dX6_atom5_1 : decode cX6_atom5 1 = .ok (.istore_n 1, 1) := by decide +kernel
theorem dX6_atom5_2 : decode cX6_atom5 2 = .ok (.aload_n 0, 1) := by decide +kernel
theorem dX6_atom5_3 : decode cX6_atom5 3 = .ok (.bipush 45, 2) := by decide +kernel
theorem dX6_atom5_5 : decode cX6_atom5 5 = .ok (.invokevirtual 215, 3) := by decide +kernel
theorem dX6_atom5_8 : decode cX6_atom5 8 = .ok (.ifCond .eq 11, 3) := by decide +kernel
theorem dX6_atom5_11 : decode cX6_atom5 11 = .ok (.aload_n 0, 1) := by decide +kernel
theorem dX6_atom5_12 : decode cX6_atom5 12 = .ok (.invokevirtual 218, 3) := by decide +kernel
theorem dX6_atom5_15 : decode cX6_atom5 15 = .ok (.pop, 1) := by decide +kernel
theorem dX6_atom5_16 : decode cX6_atom5 16 = .ok (.goto 86, 3) := by decide +kernel
theorem dX6_atom5_19 : decode cX6_atom5 19 = .ok (.aload_n 0, 1) := by decide +kernel
theorem dX6_atom5_20 : decode cX6_atom5 20 = .ok (.bipush 40, 2) := by decide +kernel
theorem dX6_atom5_22 : decode cX6_atom5 22 = .ok (.invokevirtual 215, 3) := by decide +kernel
theorem dX6_atom5_25 : decode cX6_atom5 25 = .ok (.ifCond .eq 11, 3) := by decide +kernel
theorem dX6_atom5_28 : decode cX6_atom5 28 = .ok (.aload_n 0, 1) := by decide +kernel
theorem dX6_atom5_29 : decode cX6_atom5 29 = .ok (.invokevirtual 218, 3) := by decide +kernel
theorem dX6_atom5_32 : decode cX6_atom5 32 = .ok (.pop, 1) := by decide +kernel
theorem dX6_atom5_33 : decode cX6_atom5 33 = .ok (.goto 69, 3) := by decide +kernel
theorem dX6_atom5_36 : decode cX6_atom5 36 = .ok (.aload_n 0, 1) := by decide +kernel
theorem dX6_atom5_37 : decode cX6_atom5 37 = .ok (.getfield 174, 3) := by decide +kernel
theorem dX6_atom5_40 : decode cX6_atom5 40 = .ok (.ifCond .ne 24, 3) := by decide +kernel
theorem dX6_atom5_43 : decode cX6_atom5 43 = .ok (.aload_n 0, 1) := by decide +kernel
theorem dX6_atom5_44 : decode cX6_atom5 44 = .ok (.getfield 157, 3) := by decide +kernel
theorem dX6_atom5_47 : decode cX6_atom5 47 = .ok (.iconst 2, 1) := by decide +kernel
theorem dX6_atom5_48 : decode cX6_atom5 48 = .ok (.if_icmp .ne 16, 3) := by decide +kernel
theorem dX6_atom5_51 : decode cX6_atom5 51 = .ok (.aload_n 0, 1) := by decide +kernel
theorem dX6_atom5_52 : decode cX6_atom5 52 = .ok (.getfield 168, 3) := by decide +kernel
theorem dX6_atom5_55 : decode cX6_atom5 55 = .ok (.l2i, 1) := by decide +kernel
theorem dX6_atom5_56 : decode cX6_atom5 56 = .ok (.istore_n 1, 1) := by decide +kernel
theorem dX6_atom5_57 : decode cX6_atom5 57 = .ok (.aload_n 0, 1) := by decide +kernel
theorem dX6_atom5_58 : decode cX6_atom5 58 = .ok (.invokevirtual 190, 3) := by decide +kernel
theorem dX6_atom5_61 : decode cX6_atom5 61 = .ok (.goto 41, 3) := by decide +kernel
theorem dX6_atom5_64 : decode cX6_atom5 64 = .ok (.aload_n 0, 1) := by decide +kernel
theorem dX6_atom5_65 : decode cX6_atom5 65 = .ok (.getfield 174, 3) := by decide +kernel
theorem dX6_atom5_68 : decode cX6_atom5 68 = .ok (.ifCond .ne 30, 3) := by decide +kernel
theorem dX6_atom5_71 : decode cX6_atom5 71 = .ok (.aload_n 0, 1) := by decide +kernel
theorem dX6_atom5_72 : decode cX6_atom5 72 = .ok (.getfield 157, 3) := by decide +kernel
theorem dX6_atom5_75 : decode cX6_atom5 75 = .ok (.iconst 1, 1) := by decide +kernel
theorem dX6_atom5_76 : decode cX6_atom5 76 = .ok (.if_icmp .ne 22, 3) := by decide +kernel
theorem dX6_atom5_79 : decode cX6_atom5 79 = .ok (.aload_n 0, 1) := by decide +kernel
theorem dX6_atom5_80 : decode cX6_atom5 80 = .ok (.invokevirtual 222, 3) := by decide +kernel
theorem dX6_atom5_83 : decode cX6_atom5 83 = .ok (.istore_n 1, 1) := by decide +kernel
theorem dX6_atom5_84 : decode cX6_atom5 84 = .ok (.aload_n 0, 1) := by decide +kernel
theorem dX6_atom5_85 : decode cX6_atom5 85 = .ok (.getfield 174, 3) := by decide +kernel
theorem dX6_atom5_88 : decode cX6_atom5 88 = .ok (.ifCond .ne 14, 3) := by decide +kernel
theorem dX6_atom5_91 : decode cX6_atom5 91 = .ok (.aload_n 0, 1) := by decide +kernel
theorem dX6_atom5_92 : decode cX6_atom5 92 = .ok (.invokevirtual 190, 3) := by decide +kernel
theorem dX6_atom5_95 : decode cX6_atom5 95 = .ok (.goto 7, 3) := by decide +kernel
theorem dX6_atom5_98 : decode cX6_atom5 98 = .ok (.aload_n 0, 1) := by decide +kernel
theorem dX6_atom5_99 : decode cX6_atom5 99 = .ok (.invokevirtual 187, 3) := by decide +kernel
theorem dX6_atom5_102 : decode cX6_atom5 102 = .ok (.iload_n 1, 1) := by decide +kernel
theorem dX6_atom5_103 : decode cX6_atom5 103 = .ok (.ireturn, 1) := by decide +kernel
theorem dX6_term5_0 : decode cX6_term5 0 = .ok (.aload_n 0, 1) := by decide +kernel
theorem dX6_term5_1 : decode cX6_term5 1 = .ok (.invokevirtual 225, 3) := by decide +kernel
theorem dX6_term5_4 : decode cX6_term5 4 = .ok (.istore_n 1, 1) := by decide +kernel
theorem dX6_term5_5 : decode cX6_term5 5 = .ok (.aload_n 0, 1) := by decide +kernel
theorem dX6_term5_6 : decode cX6_term5 6 = .ok (.bipush 42, 2) := by decide +kernel
theorem dX6_term5_8 : decode cX6_term5 8 = .ok (.invokevirtual 215, 3) := by decide +kernel
theorem dX6_term5_11 : decode cX6_term5 11 = .ok (.ifCond .eq 17, 3) := by decide +kernel
theorem dX6_term5_14 : decode cX6_term5 14 = .ok (.aload_n 0, 1) := by decide +kernel
theorem dX6_term5_15 : decode cX6_term5 15 = .ok (.invokevirtual 190, 3) := by decide +kernel
theorem dX6_term5_18 : decode cX6_term5 18 = .ok (.iload_n 1, 1) := by decide +kernel
theorem dX6_term5_19 : decode cX6_term5 19 = .ok (.aload_n 0, 1) := by decide +kernel
theorem dX6_term5_20 : decode cX6_term5 20 = .ok (.invokevirtual 225, 3) := by decide +kernel
theorem dX6_term5_23 : decode cX6_term5 23 = .ok (.imul, 1) := by decide +kernel
theorem dX6_term5_24 : decode cX6_term5 24 = .ok (.istore_n 1, 1) := by decide +kernel
theorem dX6_term5_25 : decode cX6_term5 25 = .ok (.goto (-20), 3) := by decide +kernel
theorem dX6_term5_28 : decode cX6_term5 28 = .ok (.iload_n 1, 1) := by decide +kernel
theorem dX6_term5_29 : decode cX6_term5 29 = .ok (.ireturn, 1) := by decide +kernel
theorem dX6_added5_0 : decode cX6_added5 0 = .ok (.aload_n 0, 1) := by decide +kernel
theorem dX6_added5_1 : decode cX6_added5 1 = .ok (.invokevirtual 228, 3) := by decide +kernel
theorem dX6_added5_4 : decode cX6_added5 4 = .ok (.istore_n 1, 1) := by decide +kernel
theorem dX6_added5_5 : decode cX6_added5 5 = .ok (.aload_n 0, 1) := by decide +kernel
theorem dX6_added5_6 : decode cX6_added5 6 = .ok (.bipush 43, 2) := by decide +kernel
theorem dX6_added5_8 : decode cX6_added5 8 = .ok (.invokevirtual 215, 3) := by decide +kernel
theorem dX6_added5_11 : decode cX6_added5 11 = .ok (.ifCond .ne 12, 3) := by decide +kernel
theorem dX6_added5_14 : decode cX6_added5 14 = .ok (.aload_n 0, 1) := by decide +kernel
theorem dX6_added5_15 : decode cX6_added5 15 = .ok (.bipush 45, 2) := by decide +kernel
theorem dX6_added5_17 : decode cX6_added5 17 = .ok (.invokevirtual 215, 3) := by decide +kernel
theorem dX6_added5_20 : decode cX6_added5 20 = .ok (.ifCond .eq 46, 3) := by decide +kernel
theorem dX6_added5_23 : decode cX6_added5 23 = .ok (.aload_n 0, 1) := by decide +kernel
theorem dX6_added5_24 : decode cX6_added5 24 = .ok (.getfield 168, 3) := by decide +kernel
theorem dX6_added5_27 : decode cX6_added5 27 = .ok (.ldc2_w 231, 3) := by decide +kernel
theorem dX6_added5_30 : decode cX6_added5 30 = .ok (.lcmp, 1) := by decide +kernel
theorem dX6_added5_31 : decode cX6_added5 31 = .ok (.ifCond .ne 7, 3) := by decide +kernel
theorem dX6_added5_34 : decode cX6_added5 34 = .ok (.iconst 1, 1) := by decide +kernel
theorem dX6_added5_35 : decode cX6_added5 35 = .ok (.goto 4, 3) := by decide +kernel
theorem dX6_added5_38 : decode cX6_added5 38 = .ok (.iconst 0, 1) := by decide +kernel
theorem dX6_added5_39 : decode cX6_added5 39 = .ok (.istore_n 2, 1) := by decide +kernel
theorem dX6_added5_40 : decode cX6_added5 40 = .ok (.aload_n 0, 1) := by decide +kernel
theorem dX6_added5_41 : decode cX6_added5 41 = .ok (.invokevirtual 190, 3) := by decide +kernel
theorem dX6_added5_44 : decode cX6_added5 44 = .ok (.aload_n 0, 1) := by decide +kernel
theorem dX6_added5_45 : decode cX6_added5 45 = .ok (.invokevirtual 228, 3) := by decide +kernel
theorem dX6_added5_48 : decode cX6_added5 48 = .ok (.istore_n 3, 1) := by decide +kernel
theorem dX6_added5_49 : decode cX6_added5 49 = .ok (.iload_n 2, 1) := by decide +kernel
theorem dX6_added5_50 : decode cX6_added5 50 = .ok (.ifCond .eq 9, 3) := by decide +kernel
theorem dX6_added5_53 : decode cX6_added5 53 = .ok (.iload_n 1, 1) := by decide +kernel
theorem dX6_added5_54 : decode cX6_added5 54 = .ok (.iload_n 3, 1) := by decide +kernel
theorem dX6_added5_55 : decode cX6_added5 55 = .ok (.iadd, 1) := by decide +kernel
theorem dX6_added5_56 : decode cX6_added5 56 = .ok (.goto 6, 3) := by decide +kernel
theorem dX6_added5_59 : decode cX6_added5 59 = .ok (.iload_n 1, 1) := by decide +kernel
theorem dX6_added5_60 : decode cX6_added5 60 = .ok (.iload_n 3, 1) := by decide +kernel
theorem dX6_added5_61 : decode cX6_added5 61 = .ok (.isub, 1) := by decide +kernel
theorem dX6_added5_62 : decode cX6_added5 62 = .ok (.istore_n 1, 1) := by decide +kernel
theorem dX6_added5_63 : decode cX6_added5 63 = .ok (.goto (-58), 3) := by decide +kernel
theorem dX6_added5_66 : decode cX6_added5 66 = .ok (.iload_n 1, 1) := by decide +kernel
theorem dX6_added5_67 : decode cX6_added5 67 = .ok (.ireturn, 1) := by decide +kernel
theorem dX6_not5_0 : decode cX6_not5 0 = .ok (.aload_n 0, 1) := by decide +kernel
theorem dX6_not5_1 : decode cX6_not5 1 = .ok (.bipush 110, 2) := by decide +kernel
theorem dX6_not5_3 : decode cX6_not5 3 = .ok (.bipush 111, 2) := by decide +kernel
theorem dX6_not5_5 : decode cX6_not5 5 = .ok (.bipush 116, 2) := by decide +kernel
theorem dX6_not5_7 : decode cX6_not5 7 = .ok (.iconst 0, 1) := by decide +kernel
theorem dX6_not5_8 : decode cX6_not5 8 = .ok (.iconst 0, 1) := by decide +kernel
theorem dX6_not5_9 : decode cX6_not5 9 = .ok (.iconst 0, 1) := by decide +kernel
theorem dX6_not5_10 : decode cX6_not5 10 = .ok (.iconst 0, 1) := by decide +kernel
theorem dX6_not5_11 : decode cX6_not5 11 = .ok (.iconst 0, 1) := by decide +kernel
theorem dX6_not5_12 : decode cX6_not5 12 = .ok (.invokevirtual 193, 3) := by decide +kernel
theorem dX6_not5_15 : decode cX6_not5 15 = .ok (.ifCond .eq 10, 3) := by decide +kernel
theorem dX6_not5_18 : decode cX6_not5 18 = .ok (.aload_n 0, 1) := by decide +kernel
theorem dX6_not5_19 : decode cX6_not5 19 = .ok (.invokevirtual 218, 3) := by decide +kernel
theorem dX6_not5_22 : decode cX6_not5 22 = .ok (.pop, 1) := by decide +kernel
theorem dX6_not5_23 : decode cX6_not5 23 = .ok (.iconst 0, 1) := by decide +kernel
theorem dX6_not5_24 : decode cX6_not5 24 = .ok (.ireturn, 1) := by decide +kernel
theorem dX6_not5_25 : decode cX6_not5 25 = .ok (.aload_n 0, 1) := by decide +kernel
theorem dX6_not5_26 : decode cX6_not5 26 = .ok (.invokevirtual 233, 3) := by decide +kernel
theorem dX6_not5_29 : decode cX6_not5 29 = .ok (.istore_n 1, 1) := by decide +kernel
theorem dX6_not5_30 : decode cX6_not5 30 = .ok (.aload_n 0, 1) := by decide +kernel
theorem dX6_not5_31 : decode cX6_not5 31 = .ok (.bipush 60, 2) := by decide +kernel
theorem dX6_not5_33 : decode cX6_not5 33 = .ok (.invokevirtual 215, 3) := by decide +kernel
theorem dX6_not5_36 : decode cX6_not5 36 = .ok (.ifCond .ne 14, 3) := by decide +kernel
theorem dX6_not5_39 : decode cX6_not5 39 = .ok (.aload_n 0, 1) := by decide +kernel
theorem dX6_not5_40 : decode cX6_not5 40 = .ok (.bipush 61, 2) := by decide +kernel
theorem dX6_not5_42 : decode cX6_not5 42 = .ok (.invokevirtual 215, 3) := by decide +kernel
theorem dX6_not5_45 : decode cX6_not5 45 = .ok (.ifCond .ne 5, 3) := by decide +kernel
theorem dX6_not5_48 : decode cX6_not5 48 = .ok (.iload_n 1, 1) := by decide +kernel
theorem dX6_not5_49 : decode cX6_not5 49 = .ok (.ireturn, 1) := by decide +kernel
theorem dX6_not5_50 : decode cX6_not5 50 = .ok (.aload_n 0, 1) := by decide +kernel
theorem dX6_not5_51 : decode cX6_not5 51 = .ok (.getfield 168, 3) := by decide +kernel
theorem dX6_not5_54 : decode cX6_not5 54 = .ok (.ldc2_w 236, 3) := by decide +kernel
theorem dX6_not5_57 : decode cX6_not5 57 = .ok (.lcmp, 1) := by decide +kernel
theorem dX6_not5_58 : decode cX6_not5 58 = .ok (.ifCond .ne 7, 3) := by decide +kernel
theorem dX6_not5_61 : decode cX6_not5 61 = .ok (.iconst 1, 1) := by decide +kernel
theorem dX6_not5_62 : decode cX6_not5 62 = .ok (.goto 4, 3) := by decide +kernel
theorem dX6_not5_65 : decode cX6_not5 65 = .ok (.iconst 0, 1) := by decide +kernel
theorem dX6_not5_66 : decode cX6_not5 66 = .ok (.istore_n 2, 1) := by decide +kernel
theorem dX6_not5_67 : decode cX6_not5 67 = .ok (.aload_n 0, 1) := by decide +kernel
theorem dX6_not5_68 : decode cX6_not5 68 = .ok (.invokevirtual 190, 3) := by decide +kernel
theorem dX6_not5_71 : decode cX6_not5 71 = .ok (.aload_n 0, 1) := by decide +kernel
theorem dX6_not5_72 : decode cX6_not5 72 = .ok (.invokevirtual 233, 3) := by decide +kernel
theorem dX6_not5_75 : decode cX6_not5 75 = .ok (.istore_n 3, 1) := by decide +kernel
theorem dX6_not5_76 : decode cX6_not5 76 = .ok (.iload_n 2, 1) := by decide +kernel
theorem dX6_not5_77 : decode cX6_not5 77 = .ok (.ifCond .eq 11, 3) := by decide +kernel
theorem dX6_not5_80 : decode cX6_not5 80 = .ok (.iload_n 1, 1) := by decide +kernel
theorem dX6_not5_81 : decode cX6_not5 81 = .ok (.iload_n 3, 1) := by decide +kernel
theorem dX6_not5_82 : decode cX6_not5 82 = .ok (.if_icmp .ge 15, 3) := by decide +kernel
theorem dX6_not5_85 : decode cX6_not5 85 = .ok (.goto 8, 3) := by decide +kernel
theorem dX6_not5_88 : decode cX6_not5 88 = .ok (.iload_n 1, 1) := by decide +kernel
theorem dX6_not5_89 : decode cX6_not5 89 = .ok (.iload_n 3, 1) := by decide +kernel
theorem dX6_not5_90 : decode cX6_not5 90 = .ok (.if_icmp .ne 7, 3) := by decide +kernel
theorem dX6_not5_93 : decode cX6_not5 93 = .ok (.iconst 1, 1) := by decide +kernel
theorem dX6_not5_94 : decode cX6_not5 94 = .ok (.goto 4, 3) := by decide +kernel
theorem dX6_not5_97 : decode cX6_not5 97 = .ok (.iconst 0, 1) := by decide +kernel
theorem dX6_not5_98 : decode cX6_not5 98 = .ok (.ireturn, 1) := by decide +kernel
theorem dX6_both5_0 : decode cX6_both5 0 = .ok (.aload_n 0, 1) := by decide +kernel
theorem dX6_both5_1 : decode cX6_both5 1 = .ok (.invokevirtual 238, 3) := by decide +kernel
theorem dX6_both5_4 : decode cX6_both5 4 = .ok (.istore_n 1, 1) := by decide +kernel
theorem dX6_both5_5 : decode cX6_both5 5 = .ok (.aload_n 0, 1) := by decide +kernel
theorem dX6_both5_6 : decode cX6_both5 6 = .ok (.bipush 97, 2) := by decide +kernel
theorem dX6_both5_8 : decode cX6_both5 8 = .ok (.bipush 110, 2) := by decide +kernel
theorem dX6_both5_10 : decode cX6_both5 10 = .ok (.bipush 100, 2) := by decide +kernel
theorem dX6_both5_12 : decode cX6_both5 12 = .ok (.iconst 0, 1) := by decide +kernel
theorem dX6_both5_13 : decode cX6_both5 13 = .ok (.iconst 0, 1) := by decide +kernel
theorem dX6_both5_14 : decode cX6_both5 14 = .ok (.iconst 0, 1) := by decide +kernel
theorem dX6_both5_15 : decode cX6_both5 15 = .ok (.iconst 0, 1) := by decide +kernel
theorem dX6_both5_16 : decode cX6_both5 16 = .ok (.iconst 0, 1) := by decide +kernel
theorem dX6_both5_17 : decode cX6_both5 17 = .ok (.invokevirtual 193, 3) := by decide +kernel
theorem dX6_both5_20 : decode cX6_both5 20 = .ok (.ifCond .eq 29, 3) := by decide +kernel
theorem dX6_both5_23 : decode cX6_both5 23 = .ok (.aload_n 0, 1) := by decide +kernel
theorem dX6_both5_24 : decode cX6_both5 24 = .ok (.invokevirtual 190, 3) := by decide +kernel
theorem dX6_both5_27 : decode cX6_both5 27 = .ok (.aload_n 0, 1) := by decide +kernel
theorem dX6_both5_28 : decode cX6_both5 28 = .ok (.invokevirtual 238, 3) := by decide +kernel
theorem dX6_both5_31 : decode cX6_both5 31 = .ok (.istore_n 2, 1) := by decide +kernel
theorem dX6_both5_32 : decode cX6_both5 32 = .ok (.iload_n 1, 1) := by decide +kernel
theorem dX6_both5_33 : decode cX6_both5 33 = .ok (.ifCond .eq 11, 3) := by decide +kernel
theorem dX6_both5_36 : decode cX6_both5 36 = .ok (.iload_n 2, 1) := by decide +kernel
theorem dX6_both5_37 : decode cX6_both5 37 = .ok (.ifCond .eq 7, 3) := by decide +kernel
theorem dX6_both5_40 : decode cX6_both5 40 = .ok (.iconst 1, 1) := by decide +kernel
theorem dX6_both5_41 : decode cX6_both5 41 = .ok (.goto 4, 3) := by decide +kernel
theorem dX6_both5_44 : decode cX6_both5 44 = .ok (.iconst 0, 1) := by decide +kernel
theorem dX6_both5_45 : decode cX6_both5 45 = .ok (.istore_n 1, 1) := by decide +kernel
theorem dX6_both5_46 : decode cX6_both5 46 = .ok (.goto (-41), 3) := by decide +kernel
theorem dX6_both5_49 : decode cX6_both5 49 = .ok (.iload_n 1, 1) := by decide +kernel
theorem dX6_both5_50 : decode cX6_both5 50 = .ok (.ireturn, 1) := by decide +kernel
theorem dX6_either5_0 : decode cX6_either5 0 = .ok (.aload_n 0, 1) := by decide +kernel
theorem dX6_either5_1 : decode cX6_either5 1 = .ok (.invokevirtual 241, 3) := by decide +kernel
theorem dX6_either5_4 : decode cX6_either5 4 = .ok (.istore_n 1, 1) := by decide +kernel
theorem dX6_either5_5 : decode cX6_either5 5 = .ok (.aload_n 0, 1) := by decide +kernel
theorem dX6_either5_6 : decode cX6_either5 6 = .ok (.bipush 111, 2) := by decide +kernel
theorem dX6_either5_8 : decode cX6_either5 8 = .ok (.bipush 114, 2) := by decide +kernel
theorem dX6_either5_10 : decode cX6_either5 10 = .ok (.iconst 0, 1) := by decide +kernel
theorem dX6_either5_11 : decode cX6_either5 11 = .ok (.iconst 0, 1) := by decide +kernel
theorem dX6_either5_12 : decode cX6_either5 12 = .ok (.iconst 0, 1) := by decide +kernel
theorem dX6_either5_13 : decode cX6_either5 13 = .ok (.iconst 0, 1) := by decide +kernel
theorem dX6_either5_14 : decode cX6_either5 14 = .ok (.iconst 0, 1) := by decide +kernel
theorem dX6_either5_15 : decode cX6_either5 15 = .ok (.iconst 0, 1) := by decide +kernel
theorem dX6_either5_16 : decode cX6_either5 16 = .ok (.invokevirtual 193, 3) := by decide +kernel
theorem dX6_either5_19 : decode cX6_either5 19 = .ok (.ifCond .eq 29, 3) := by decide +kernel
theorem dX6_either5_22 : decode cX6_either5 22 = .ok (.aload_n 0, 1) := by decide +kernel
theorem dX6_either5_23 : decode cX6_either5 23 = .ok (.invokevirtual 190, 3) := by decide +kernel
theorem dX6_either5_26 : decode cX6_either5 26 = .ok (.aload_n 0, 1) := by decide +kernel
theorem dX6_either5_27 : decode cX6_either5 27 = .ok (.invokevirtual 241, 3) := by decide +kernel
theorem dX6_either5_30 : decode cX6_either5 30 = .ok (.istore_n 2, 1) := by decide +kernel
theorem dX6_either5_31 : decode cX6_either5 31 = .ok (.iload_n 1, 1) := by decide +kernel
theorem dX6_either5_32 : decode cX6_either5 32 = .ok (.ifCond .ne 7, 3) := by decide +kernel
theorem dX6_either5_35 : decode cX6_either5 35 = .ok (.iload_n 2, 1) := by decide +kernel
theorem dX6_either5_36 : decode cX6_either5 36 = .ok (.ifCond .eq 7, 3) := by decide +kernel
theorem dX6_either5_39 : decode cX6_either5 39 = .ok (.iconst 1, 1) := by decide +kernel
theorem dX6_either5_40 : decode cX6_either5 40 = .ok (.goto 4, 3) := by decide +kernel
theorem dX6_either5_43 : decode cX6_either5 43 = .ok (.iconst 0, 1) := by decide +kernel
theorem dX6_either5_44 : decode cX6_either5 44 = .ok (.istore_n 1, 1) := by decide +kernel
theorem dX6_either5_45 : decode cX6_either5 45 = .ok (.goto (-40), 3) := by decide +kernel
theorem dX6_either5_48 : decode cX6_either5 48 = .ok (.iload_n 1, 1) := by decide +kernel
theorem dX6_either5_49 : decode cX6_either5 49 = .ok (.ireturn, 1) := by decide +kernel
theorem dX6_atom4_0 : decode cX6_atom4 0 = .ok (.iconst 0, 1) := by decide +kernel
theorem dX6_atom4_1 : decode cX6_atom4 1 = .ok (.istore_n 1, 1) := by decide +kernel
theorem dX6_atom4_2 : decode cX6_atom4 2 = .ok (.aload_n 0, 1) := by decide +kernel
theorem dX6_atom4_3 : decode cX6_atom4 3 = .ok (.bipush 45, 2) := by decide +kernel
theorem dX6_atom4_5 : decode cX6_atom4 5 = .ok (.invokevirtual 215, 3) := by decide +kernel
theorem dX6_atom4_8 : decode cX6_atom4 8 = .ok (.ifCond .eq 29, 3) := by decide +kernel
theorem dX6_atom4_11 : decode cX6_atom4 11 = .ok (.aload_n 0, 1) := by decide +kernel
theorem dX6_atom4_12 : decode cX6_atom4 12 = .ok (.invokevirtual 218, 3) := by decide +kernel
theorem dX6_atom4_15 : decode cX6_atom4 15 = .ok (.ifCond .eq 146, 3) := by decide +kernel
theorem dX6_atom4_18 : decode cX6_atom4 18 = .ok (.aload_n 0, 1) := by decide +kernel
theorem dX6_atom4_19 : decode cX6_atom4 19 = .ok (.invokevirtual 225, 3) := by decide +kernel
theorem dX6_atom4_22 : decode cX6_atom4 22 = .ok (.ineg, 1) := by decide +kernel
theorem dX6_atom4_23 : decode cX6_atom4 23 = .ok (.istore_n 1, 1) := by decide +kernel
theorem dX6_atom4_24 : decode cX6_atom4 24 = .ok (.aload_n 0, 1) := by decide +kernel
theorem dX6_atom4_25 : decode cX6_atom4 25 = .ok (.dup, 1) := by decide +kernel
theorem dX6_atom4_26 : decode cX6_atom4 26 = .ok (.getfield 184, 3) := by decide +kernel
theorem dX6_atom4_29 : decode cX6_atom4 29 = .ok (.iconst 1, 1) := by decide +kernel
theorem dX6_atom4_30 : decode cX6_atom4 30 = .ok (.isub, 1) := by decide +kernel
theorem dX6_atom4_31 : decode cX6_atom4 31 = .ok (.putfield 184, 3) := by decide +kernel
theorem dX6_atom4_34 : decode cX6_atom4 34 = .ok (.goto 127, 3) := by decide +kernel
theorem dX6_atom4_37 : decode cX6_atom4 37 = .ok (.aload_n 0, 1) := by decide +kernel
theorem dX6_atom4_38 : decode cX6_atom4 38 = .ok (.bipush 40, 2) := by decide +kernel
theorem dX6_atom4_40 : decode cX6_atom4 40 = .ok (.invokevirtual 215, 3) := by decide +kernel
theorem dX6_atom4_43 : decode cX6_atom4 43 = .ok (.ifCond .eq 52, 3) := by decide +kernel
theorem dX6_atom4_46 : decode cX6_atom4 46 = .ok (.aload_n 0, 1) := by decide +kernel
theorem dX6_atom4_47 : decode cX6_atom4 47 = .ok (.invokevirtual 218, 3) := by decide +kernel
theorem dX6_atom4_50 : decode cX6_atom4 50 = .ok (.ifCond .eq 111, 3) := by decide +kernel
theorem dX6_atom4_53 : decode cX6_atom4 53 = .ok (.aload_n 0, 1) := by decide +kernel
theorem dX6_atom4_54 : decode cX6_atom4 54 = .ok (.invokevirtual 244, 3) := by decide +kernel
theorem dX6_atom4_57 : decode cX6_atom4 57 = .ok (.istore_n 1, 1) := by decide +kernel
theorem dX6_atom4_58 : decode cX6_atom4 58 = .ok (.aload_n 0, 1) := by decide +kernel
theorem dX6_atom4_59 : decode cX6_atom4 59 = .ok (.bipush 41, 2) := by decide +kernel
theorem dX6_atom4_61 : decode cX6_atom4 61 = .ok (.invokevirtual 215, 3) := by decide +kernel
theorem dX6_atom4_64 : decode cX6_atom4 64 = .ok (.ifCond .ne 7, 3) := by decide +kernel
theorem dX6_atom4_67 : decode cX6_atom4 67 = .ok (.aload_n 0, 1) := by decide +kernel
theorem dX6_atom4_68 : decode cX6_atom4 68 = .ok (.invokevirtual 187, 3) := by decide +kernel
theorem dX6_atom4_71 : decode cX6_atom4 71 = .ok (.aload_n 0, 1) := by decide +kernel
theorem dX6_atom4_72 : decode cX6_atom4 72 = .ok (.dup, 1) := by decide +kernel
theorem dX6_atom4_73 : decode cX6_atom4 73 = .ok (.getfield 184, 3) := by decide +kernel
theorem dX6_atom4_76 : decode cX6_atom4 76 = .ok (.iconst 1, 1) := by decide +kernel
theorem dX6_atom4_77 : decode cX6_atom4 77 = .ok (.isub, 1) := by decide +kernel
theorem dX6_atom4_78 : decode cX6_atom4 78 = .ok (.putfield 184, 3) := by decide +kernel
theorem dX6_atom4_81 : decode cX6_atom4 81 = .ok (.aload_n 0, 1) := by decide +kernel
theorem dX6_atom4_82 : decode cX6_atom4 82 = .ok (.getfield 174, 3) := by decide +kernel
theorem dX6_atom4_85 : decode cX6_atom4 85 = .ok (.ifCond .ne 76, 3) := by decide +kernel
theorem dX6_atom4_88 : decode cX6_atom4 88 = .ok (.aload_n 0, 1) := by decide +kernel
theorem dX6_atom4_89 : decode cX6_atom4 89 = .ok (.invokevirtual 190, 3) := by decide +kernel
theorem dX6_atom4_92 : decode cX6_atom4 92 = .ok (.goto 69, 3) := by decide +kernel
theorem dX6_atom4_95 : decode cX6_atom4 95 = .ok (.aload_n 0, 1) := by decide +kernel
theorem dX6_atom4_96 : decode cX6_atom4 96 = .ok (.getfield 174, 3) := by decide +kernel
theorem dX6_atom4_99 : decode cX6_atom4 99 = .ok (.ifCond .ne 24, 3) := by decide +kernel
theorem dX6_atom4_102 : decode cX6_atom4 102 = .ok (.aload_n 0, 1) := by decide +kernel
theorem dX6_atom4_103 : decode cX6_atom4 103 = .ok (.getfield 157, 3) := by decide +kernel
theorem dX6_atom4_106 : decode cX6_atom4 106 = .ok (.iconst 2, 1) := by decide +kernel
theorem dX6_atom4_107 : decode cX6_atom4 107 = .ok (.if_icmp .ne 16, 3) := by decide +kernel
theorem dX6_atom4_110 : decode cX6_atom4 110 = .ok (.aload_n 0, 1) := by decide +kernel
theorem dX6_atom4_111 : decode cX6_atom4 111 = .ok (.getfield 168, 3) := by decide +kernel
theorem dX6_atom4_114 : decode cX6_atom4 114 = .ok (.l2i, 1) := by decide +kernel
theorem dX6_atom4_115 : decode cX6_atom4 115 = .ok (.istore_n 1, 1) := by decide +kernel
theorem dX6_atom4_116 : decode cX6_atom4 116 = .ok (.aload_n 0, 1) := by decide +kernel
theorem dX6_atom4_117 : decode cX6_atom4 117 = .ok (.invokevirtual 190, 3) := by decide +kernel
theorem dX6_atom4_120 : decode cX6_atom4 120 = .ok (.goto 41, 3) := by decide +kernel
