theorem dX6_cover_101 : decode cX6_cover 101 = .ok (.goto (-62), 3) := by decide +kernel
theorem dX6_cover_104 : decode cX6_cover 104 = .ok (.iload_n 2, 1) := by decide +kernel
theorem dX6_cover_105 : decode cX6_cover 105 = .ok (.ifCond .ne 7, 3) := by decide +kernel
theorem dX6_cover_108 : decode cX6_cover 108 = .ok (.iload_n 3, 1) := by decide +kernel
theorem dX6_cover_109 : decode cX6_cover 109 = .ok (.goto 5, 3) := by decide +kernel
theorem dX6_cover_112 : decode cX6_cover 112 = .ok (.iload 4, 2) := by decide +kernel
theorem dX6_cover_114 : decode cX6_cover 114 = .ok (.ireturn, 1) := by decide +kernel
theorem dX6_askJust_0 : decode cX6_askJust 0 = .ok (.iconst 0, 1) := by decide +kernel
theorem dX6_askJust_1 : decode cX6_askJust 1 = .ok (.istore_n 2, 1) := by decide +kernel
theorem dX6_askJust_2 : decode cX6_askJust 2 = .ok (.iload_n 2, 1) := by decide +kernel
theorem dX6_askJust_3 : decode cX6_askJust 3 = .ok (.aload_n 0, 1) := by decide +kernel
theorem dX6_askJust_4 : decode cX6_askJust 4 = .ok (.getfield 77, 3) := by decide +kernel
theorem dX6_askJust_7 : decode cX6_askJust 7 = .ok (.if_icmp .ge 24, 3) := by decide +kernel
theorem dX6_askJust_10 : decode cX6_askJust 10 = .ok (.aload_n 0, 1) := by decide +kernel
theorem dX6_askJust_11 : decode cX6_askJust 11 = .ok (.getfield 29, 3) := by decide +kernel
theorem dX6_askJust_14 : decode cX6_askJust 14 = .ok (.iconst 3, 1) := by decide +kernel
theorem dX6_askJust_15 : decode cX6_askJust 15 = .ok (.iload_n 2, 1) := by decide +kernel
theorem dX6_askJust_16 : decode cX6_askJust 16 = .ok (.imul, 1) := by decide +kernel
theorem dX6_askJust_17 : decode cX6_askJust 17 = .ok (.iconst 1, 1) := by decide +kernel
theorem dX6_askJust_18 : decode cX6_askJust 18 = .ok (.iadd, 1) := by decide +kernel
theorem dX6_askJust_19 : decode cX6_askJust 19 = .ok (.iload_n 1, 1) := by decide +kernel
theorem dX6_askJust_20 : decode cX6_askJust 20 = .ok (.iload_n 2, 1) := by decide +kernel
theorem dX6_askJust_21 : decode cX6_askJust 21 = .ok (.ishr, 1) := by decide +kernel
theorem dX6_askJust_22 : decode cX6_askJust 22 = .ok (.iconst 1, 1) := by decide +kernel
theorem dX6_askJust_23 : decode cX6_askJust 23 = .ok (.iand, 1) := by decide +kernel
theorem dX6_askJust_24 : decode cX6_askJust 24 = .ok (.iastore, 1) := by decide +kernel
theorem dX6_askJust_25 : decode cX6_askJust 25 = .ok (.iinc 2 1, 3) := by decide +kernel
theorem dX6_askJust_28 : decode cX6_askJust 28 = .ok (.goto (-26), 3) := by decide +kernel
theorem dX6_askJust_31 : decode cX6_askJust 31 = .ok (.return_, 1) := by decide +kernel
theorem dX6_askedSet_0 : decode cX6_askedSet 0 = .ok (.iconst 0, 1) := by decide +kernel
theorem dX6_askedSet_1 : decode cX6_askedSet 1 = .ok (.istore_n 1, 1) := by decide +kernel
theorem dX6_askedSet_2 : decode cX6_askedSet 2 = .ok (.iconst 0, 1) := by decide +kernel
theorem dX6_askedSet_3 : decode cX6_askedSet 3 = .ok (.istore_n 2, 1) := by decide +kernel
theorem dX6_askedSet_4 : decode cX6_askedSet 4 = .ok (.iload_n 2, 1) := by decide +kernel
theorem dX6_askedSet_5 : decode cX6_askedSet 5 = .ok (.aload_n 0, 1) := by decide +kernel
theorem dX6_askedSet_6 : decode cX6_askedSet 6 = .ok (.getfield 77, 3) := by decide +kernel
theorem dX6_askedSet_9 : decode cX6_askedSet 9 = .ok (.if_icmp .ge 24, 3) := by decide +kernel
theorem dX6_askedSet_12 : decode cX6_askedSet 12 = .ok (.iload_n 1, 1) := by decide +kernel
theorem dX6_askedSet_13 : decode cX6_askedSet 13 = .ok (.aload_n 0, 1) := by decide +kernel
theorem dX6_askedSet_14 : decode cX6_askedSet 14 = .ok (.getfield 29, 3) := by decide +kernel
theorem dX6_askedSet_17 : decode cX6_askedSet 17 = .ok (.iconst 3, 1) := by decide +kernel
theorem dX6_askedSet_18 : decode cX6_askedSet 18 = .ok (.iload_n 2, 1) := by decide +kernel
theorem dX6_askedSet_19 : decode cX6_askedSet 19 = .ok (.imul, 1) := by decide +kernel
theorem dX6_askedSet_20 : decode cX6_askedSet 20 = .ok (.iconst 1, 1) := by decide +kernel
theorem dX6_askedSet_21 : decode cX6_askedSet 21 = .ok (.iadd, 1) := by decide +kernel
theorem dX6_askedSet_22 : decode cX6_askedSet 22 = .ok (.iaload, 1) := by decide +kernel
theorem dX6_askedSet_23 : decode cX6_askedSet 23 = .ok (.iload_n 2, 1) := by decide +kernel
theorem dX6_askedSet_24 : decode cX6_askedSet 24 = .ok (.ishl, 1) := by decide +kernel
theorem dX6_askedSet_25 : decode cX6_askedSet 25 = .ok (.ior, 1) := by decide +kernel
theorem dX6_askedSet_26 : decode cX6_askedSet 26 = .ok (.istore_n 1, 1) := by decide +kernel
theorem dX6_askedSet_27 : decode cX6_askedSet 27 = .ok (.iinc 2 1, 3) := by decide +kernel
theorem dX6_askedSet_30 : decode cX6_askedSet 30 = .ok (.goto (-26), 3) := by decide +kernel
theorem dX6_askedSet_33 : decode cX6_askedSet 33 = .ok (.iload_n 1, 1) := by decide +kernel
theorem dX6_askedSet_34 : decode cX6_askedSet 34 = .ok (.ireturn, 1) := by decide +kernel
theorem dX6_ask_0 : decode cX6_ask 0 = .ok (.iload_n 1, 1) := by decide +kernel
theorem dX6_ask_1 : decode cX6_ask 1 = .ok (.i2l, 1) := by decide +kernel
theorem dX6_ask_2 : decode cX6_ask 2 = .ok (.lconst 0, 1) := by decide +kernel
theorem dX6_ask_3 : decode cX6_ask 3 = .ok (.ldc2_w 87, 3) := by decide +kernel
theorem dX6_ask_6 : decode cX6_ask 6 = .ok (.invokestatic 73, 3) := by decide +kernel
theorem dX6_ask_9 : decode cX6_ask 9 = .ok (.ifCond .eq 15, 3) := by decide +kernel
theorem dX6_ask_12 : decode cX6_ask 12 = .ok (.iload_n 2, 1) := by decide +kernel
theorem dX6_ask_13 : decode cX6_ask 13 = .ok (.i2l, 1) := by decide +kernel
theorem dX6_ask_14 : decode cX6_ask 14 = .ok (.lconst 0, 1) := by decide +kernel
theorem dX6_ask_15 : decode cX6_ask 15 = .ok (.ldc2_w 379, 3) := by decide +kernel
theorem dX6_ask_18 : decode cX6_ask 18 = .ok (.invokestatic 73, 3) := by decide +kernel
theorem dX6_ask_21 : decode cX6_ask 21 = .ok (.ifCond .ne 6, 3) := by decide +kernel
theorem dX6_ask_24 : decode cX6_ask 24 = .ok (.bipush (-2), 2) := by decide +kernel
theorem dX6_ask_26 : decode cX6_ask 26 = .ok (.ireturn, 1) := by decide +kernel
theorem dX6_ask_27 : decode cX6_ask 27 = .ok (.aload_n 0, 1) := by decide +kernel
theorem dX6_ask_28 : decode cX6_ask 28 = .ok (.invokevirtual 381, 3) := by decide +kernel
theorem dX6_ask_31 : decode cX6_ask 31 = .ok (.istore_n 3, 1) := by decide +kernel
theorem dX6_ask_32 : decode cX6_ask 32 = .ok (.aload_n 0, 1) := by decide +kernel
theorem dX6_ask_33 : decode cX6_ask 33 = .ok (.invokevirtual 363, 3) := by decide +kernel
theorem dX6_ask_36 : decode cX6_ask 36 = .ok (.iconst (-1), 1) := by decide +kernel
theorem dX6_ask_37 : decode cX6_ask 37 = .ok (.istore 4, 2) := by decide +kernel
theorem dX6_ask_39 : decode cX6_ask 39 = .ok (.ldc_w 375, 3) := by decide +kernel
theorem dX6_ask_42 : decode cX6_ask 42 = .ok (.istore 5, 2) := by decide +kernel
theorem dX6_ask_44 : decode cX6_ask 44 = .ok (.iconst 0, 1) := by decide +kernel
theorem dX6_ask_45 : decode cX6_ask 45 = .ok (.istore 6, 2) := by decide +kernel
theorem dX6_ask_47 : decode cX6_ask 47 = .ok (.iconst 0, 1) := by decide +kernel
theorem dX6_ask_48 : decode cX6_ask 48 = .ok (.istore 7, 2) := by decide +kernel
theorem dX6_ask_50 : decode cX6_ask 50 = .ok (.iload 7, 2) := by decide +kernel
theorem dX6_ask_52 : decode cX6_ask 52 = .ok (.iconst 1, 1) := by decide +kernel
theorem dX6_ask_53 : decode cX6_ask 53 = .ok (.aload_n 0, 1) := by decide +kernel
theorem dX6_ask_54 : decode cX6_ask 54 = .ok (.getfield 77, 3) := by decide +kernel
theorem dX6_ask_57 : decode cX6_ask 57 = .ok (.ishl, 1) := by decide +kernel
theorem dX6_ask_58 : decode cX6_ask 58 = .ok (.if_icmp .ge 66, 3) := by decide +kernel
theorem dX6_ask_61 : decode cX6_ask 61 = .ok (.aload_n 0, 1) := by decide +kernel
theorem dX6_ask_62 : decode cX6_ask 62 = .ok (.iload 7, 2) := by decide +kernel
theorem dX6_ask_64 : decode cX6_ask 64 = .ok (.invokevirtual 384, 3) := by decide +kernel
theorem dX6_ask_67 : decode cX6_ask 67 = .ok (.aload_n 0, 1) := by decide +kernel
theorem dX6_ask_68 : decode cX6_ask 68 = .ok (.iload_n 1, 1) := by decide +kernel
theorem dX6_ask_69 : decode cX6_ask 69 = .ok (.iconst 0, 1) := by decide +kernel
theorem dX6_ask_70 : decode cX6_ask 70 = .ok (.invokevirtual 366, 3) := by decide +kernel
theorem dX6_ask_73 : decode cX6_ask 73 = .ok (.istore 8, 2) := by decide +kernel
theorem dX6_ask_75 : decode cX6_ask 75 = .ok (.aload_n 0, 1) := by decide +kernel
theorem dX6_ask_76 : decode cX6_ask 76 = .ok (.invokevirtual 134, 3) := by decide +kernel
theorem dX6_ask_79 : decode cX6_ask 79 = .ok (.istore 9, 2) := by decide +kernel
theorem dX6_ask_81 : decode cX6_ask 81 = .ok (.aload_n 0, 1) := by decide +kernel
theorem dX6_ask_82 : decode cX6_ask 82 = .ok (.invokevirtual 372, 3) := by decide +kernel
theorem dX6_ask_85 : decode cX6_ask 85 = .ok (.iload 9, 2) := by decide +kernel
theorem dX6_ask_87 : decode cX6_ask 87 = .ok (.iload 5, 2) := by decide +kernel
theorem dX6_ask_89 : decode cX6_ask 89 = .ok (.if_icmp .lt 17, 3) := by decide +kernel
theorem dX6_ask_92 : decode cX6_ask 92 = .ok (.iload 9, 2) := by decide +kernel
theorem dX6_ask_94 : decode cX6_ask 94 = .ok (.iload 5, 2) := by decide +kernel
theorem dX6_ask_96 : decode cX6_ask 96 = .ok (.if_icmp .ne 22, 3) := by decide +kernel
theorem dX6_ask_99 : decode cX6_ask 99 = .ok (.iload 8, 2) := by decide +kernel
theorem dX6_ask_101 : decode cX6_ask 101 = .ok (.iload 6, 2) := by decide +kernel
theorem dX6_ask_103 : decode cX6_ask 103 = .ok (.if_icmp .le 15, 3) := by decide +kernel
theorem dX6_ask_106 : decode cX6_ask 106 = .ok (.iload 7, 2) := by decide +kernel
theorem dX6_ask_108 : decode cX6_ask 108 = .ok (.istore 4, 2) := by decide +kernel
theorem dX6_ask_110 : decode cX6_ask 110 = .ok (.iload 9, 2) := by decide +kernel
theorem dX6_ask_112 : decode cX6_ask 112 = .ok (.istore 5, 2) := by decide +kernel
theorem dX6_ask_114 : decode cX6_ask 114 = .ok (.iload 8, 2) := by decide +kernel
theorem dX6_ask_116 : decode cX6_ask 116 = .ok (.istore 6, 2) := by decide +kernel
theorem dX6_ask_118 : decode cX6_ask 118 = .ok (.iinc 7 1, 3) := by decide +kernel
theorem dX6_ask_121 : decode cX6_ask 121 = .ok (.goto (-71), 3) := by decide +kernel
theorem dX6_ask_124 : decode cX6_ask 124 = .ok (.aload_n 0, 1) := by decide +kernel
theorem dX6_ask_125 : decode cX6_ask 125 = .ok (.iload_n 3, 1) := by decide +kernel
theorem dX6_ask_126 : decode cX6_ask 126 = .ok (.invokevirtual 384, 3) := by decide +kernel
theorem dX6_ask_129 : decode cX6_ask 129 = .ok (.iload_n 2, 1) := by decide +kernel
theorem dX6_ask_130 : decode cX6_ask 130 = .ok (.ifCond .ne 8, 3) := by decide +kernel
theorem dX6_ask_133 : decode cX6_ask 133 = .ok (.iload 4, 2) := by decide +kernel
theorem dX6_ask_135 : decode cX6_ask 135 = .ok (.goto 15, 3) := by decide +kernel
theorem dX6_ask_138 : decode cX6_ask 138 = .ok (.iload_n 2, 1) := by decide +kernel
theorem dX6_ask_139 : decode cX6_ask 139 = .ok (.iconst 1, 1) := by decide +kernel
theorem dX6_ask_140 : decode cX6_ask 140 = .ok (.if_icmp .ne 8, 3) := by decide +kernel
theorem dX6_ask_143 : decode cX6_ask 143 = .ok (.iload 5, 2) := by decide +kernel
theorem dX6_ask_145 : decode cX6_ask 145 = .ok (.goto 5, 3) := by decide +kernel
theorem dX6_ask_148 : decode cX6_ask 148 = .ok (.iload 6, 2) := by decide +kernel
theorem dX6_ask_150 : decode cX6_ask 150 = .ok (.ireturn, 1) := by decide +kernel
theorem dX6_bulkOf_0 : decode cX6_bulkOf 0 = .ok (.iconst 0, 1) := by decide +kernel
theorem dX6_bulkOf_1 : decode cX6_bulkOf 1 = .ok (.istore_n 2, 1) := by decide +kernel
theorem dX6_bulkOf_2 : decode cX6_bulkOf 2 = .ok (.iconst 0, 1) := by decide +kernel
theorem dX6_bulkOf_3 : decode cX6_bulkOf 3 = .ok (.istore_n 3, 1) := by decide +kernel
theorem dX6_bulkOf_4 : decode cX6_bulkOf 4 = .ok (.iload_n 3, 1) := by decide +kernel
theorem dX6_bulkOf_5 : decode cX6_bulkOf 5 = .ok (.aload_n 0, 1) := by decide +kernel
theorem dX6_bulkOf_6 : decode cX6_bulkOf 6 = .ok (.getfield 70, 3) := by decide +kernel
theorem dX6_bulkOf_9 : decode cX6_bulkOf 9 = .ok (.if_icmp .ge 35, 3) := by decide +kernel
theorem dX6_bulkOf_12 : decode cX6_bulkOf 12 = .ok (.iload_n 2, 1) := by decide +kernel
theorem dX6_bulkOf_13 : decode cX6_bulkOf 13 = .ok (.iload_n 1, 1) := by decide +kernel
theorem dX6_bulkOf_14 : decode cX6_bulkOf 14 = .ok (.iload_n 3, 1) := by decide +kernel
theorem dX6_bulkOf_15 : decode cX6_bulkOf 15 = .ok (.ishr, 1) := by decide +kernel
theorem dX6_bulkOf_16 : decode cX6_bulkOf 16 = .ok (.iconst 1, 1) := by decide +kernel
theorem dX6_bulkOf_17 : decode cX6_bulkOf 17 = .ok (.iand, 1) := by decide +kernel
theorem dX6_bulkOf_18 : decode cX6_bulkOf 18 = .ok (.iconst 1, 1) := by decide +kernel
theorem dX6_bulkOf_19 : decode cX6_bulkOf 19 = .ok (.if_icmp .ne 16, 3) := by decide +kernel
theorem dX6_bulkOf_22 : decode cX6_bulkOf 22 = .ok (.aload_n 0, 1) := by decide +kernel
theorem dX6_bulkOf_23 : decode cX6_bulkOf 23 = .ok (.getfield 26, 3) := by decide +kernel
theorem dX6_bulkOf_26 : decode cX6_bulkOf 26 = .ok (.iconst 3, 1) := by decide +kernel
theorem dX6_bulkOf_27 : decode cX6_bulkOf 27 = .ok (.iload_n 3, 1) := by decide +kernel
theorem dX6_bulkOf_28 : decode cX6_bulkOf 28 = .ok (.imul, 1) := by decide +kernel
theorem dX6_bulkOf_29 : decode cX6_bulkOf 29 = .ok (.iconst 1, 1) := by decide +kernel
theorem dX6_bulkOf_30 : decode cX6_bulkOf 30 = .ok (.iadd, 1) := by decide +kernel
theorem dX6_bulkOf_31 : decode cX6_bulkOf 31 = .ok (.iaload, 1) := by decide +kernel
theorem dX6_bulkOf_32 : decode cX6_bulkOf 32 = .ok (.goto 4, 3) := by decide +kernel
theorem dX6_bulkOf_35 : decode cX6_bulkOf 35 = .ok (.iconst 0, 1) := by decide +kernel
theorem dX6_bulkOf_36 : decode cX6_bulkOf 36 = .ok (.iadd, 1) := by decide +kernel
theorem dX6_bulkOf_37 : decode cX6_bulkOf 37 = .ok (.istore_n 2, 1) := by decide +kernel
theorem dX6_bulkOf_38 : decode cX6_bulkOf 38 = .ok (.iinc 3 1, 3) := by decide +kernel
theorem dX6_bulkOf_41 : decode cX6_bulkOf 41 = .ok (.goto (-37), 3) := by decide +kernel
theorem dX6_bulkOf_44 : decode cX6_bulkOf 44 = .ok (.iload_n 2, 1) := by decide +kernel
theorem dX6_bulkOf_45 : decode cX6_bulkOf 45 = .ok (.ireturn, 1) := by decide +kernel
theorem dX6_packed_0 : decode cX6_packed 0 = .ok (.iconst 0, 1) := by decide +kernel
theorem dX6_packed_1 : decode cX6_packed 1 = .ok (.istore_n 1, 1) := by decide +kernel
theorem dX6_packed_2 : decode cX6_packed 2 = .ok (.aload_n 0, 1) := by decide +kernel
theorem dX6_packed_3 : decode cX6_packed 3 = .ok (.invokevirtual 369, 3) := by decide +kernel
theorem dX6_packed_6 : decode cX6_packed 6 = .ok (.istore_n 2, 1) := by decide +kernel
theorem dX6_packed_7 : decode cX6_packed 7 = .ok (.aload_n 0, 1) := by decide +kernel
theorem dX6_packed_8 : decode cX6_packed 8 = .ok (.invokevirtual 131, 3) := by decide +kernel
theorem dX6_packed_11 : decode cX6_packed 11 = .ok (.istore_n 3, 1) := by decide +kernel
theorem dX6_packed_12 : decode cX6_packed 12 = .ok (.iconst 1, 1) := by decide +kernel
theorem dX6_packed_13 : decode cX6_packed 13 = .ok (.istore 4, 2) := by decide +kernel
theorem dX6_packed_15 : decode cX6_packed 15 = .ok (.iload 4, 2) := by decide +kernel
theorem dX6_packed_17 : decode cX6_packed 17 = .ok (.iconst 1, 1) := by decide +kernel
theorem dX6_packed_18 : decode cX6_packed 18 = .ok (.aload_n 0, 1) := by decide +kernel
theorem dX6_packed_19 : decode cX6_packed 19 = .ok (.getfield 70, 3) := by decide +kernel
theorem dX6_packed_22 : decode cX6_packed 22 = .ok (.ishl, 1) := by decide +kernel
theorem dX6_packed_23 : decode cX6_packed 23 = .ok (.if_icmp .ge 47, 3) := by decide +kernel
theorem dX6_packed_26 : decode cX6_packed 26 = .ok (.iload 4, 2) := by decide +kernel
theorem dX6_packed_28 : decode cX6_packed 28 = .ok (.iload_n 2, 1) := by decide +kernel
theorem dX6_packed_29 : decode cX6_packed 29 = .ok (.iand, 1) := by decide +kernel
theorem dX6_packed_30 : decode cX6_packed 30 = .ok (.ifCond .ne 32, 3) := by decide +kernel
theorem dX6_packed_33 : decode cX6_packed 33 = .ok (.aload_n 0, 1) := by decide +kernel
theorem dX6_packed_34 : decode cX6_packed 34 = .ok (.iload 4, 2) := by decide +kernel
theorem dX6_packed_36 : decode cX6_packed 36 = .ok (.invokevirtual 388, 3) := by decide +kernel
theorem dX6_packed_39 : decode cX6_packed 39 = .ok (.iload_n 3, 1) := by decide +kernel
theorem dX6_packed_40 : decode cX6_packed 40 = .ok (.if_icmp .gt 22, 3) := by decide +kernel
theorem dX6_packed_43 : decode cX6_packed 43 = .ok (.aload_n 0, 1) := by decide +kernel
theorem dX6_packed_44 : decode cX6_packed 44 = .ok (.iload 4, 2) := by decide +kernel
theorem dX6_packed_46 : decode cX6_packed 46 = .ok (.invokevirtual 388, 3) := by decide +kernel
theorem dX6_packed_49 : decode cX6_packed 49 = .ok (.aload_n 0, 1) := by decide +kernel
theorem dX6_packed_50 : decode cX6_packed 50 = .ok (.iload_n 1, 1) := by decide +kernel
theorem dX6_packed_51 : decode cX6_packed 51 = .ok (.invokevirtual 388, 3) := by decide +kernel
theorem dX6_packed_54 : decode cX6_packed 54 = .ok (.if_icmp .le 8, 3) := by decide +kernel
theorem dX6_packed_57 : decode cX6_packed 57 = .ok (.iload 4, 2) := by decide +kernel
theorem dX6_packed_59 : decode cX6_packed 59 = .ok (.goto 4, 3) := by decide +kernel
theorem dX6_packed_62 : decode cX6_packed 62 = .ok (.iload_n 1, 1) := by decide +kernel
theorem dX6_packed_63 : decode cX6_packed 63 = .ok (.istore_n 1, 1) := by decide +kernel
theorem dX6_packed_64 : decode cX6_packed 64 = .ok (.iinc 4 1, 3) := by decide +kernel
theorem dX6_packed_67 : decode cX6_packed 67 = .ok (.goto (-52), 3) := by decide +kernel
theorem dX6_packed_70 : decode cX6_packed 70 = .ok (.iload_n 1, 1) := by decide +kernel
theorem dX6_packed_71 : decode cX6_packed 71 = .ok (.ireturn, 1) := by decide +kernel
theorem dX6_lateBy_0 : decode cX6_lateBy 0 = .ok (.aload_n 0, 1) := by decide +kernel
theorem dX6_lateBy_1 : decode cX6_lateBy 1 = .ok (.invokevirtual 363, 3) := by decide +kernel
theorem dX6_lateBy_4 : decode cX6_lateBy 4 = .ok (.iconst (-1), 1) := by decide +kernel
theorem dX6_lateBy_5 : decode cX6_lateBy 5 = .ok (.istore_n 2, 1) := by decide +kernel
theorem dX6_lateBy_6 : decode cX6_lateBy 6 = .ok (.ldc_w 375, 3) := by decide +kernel
theorem dX6_lateBy_9 : decode cX6_lateBy 9 = .ok (.istore_n 3, 1) := by decide +kernel
theorem dX6_lateBy_10 : decode cX6_lateBy 10 = .ok (.iconst 0, 1) := by decide +kernel
theorem dX6_lateBy_11 : decode cX6_lateBy 11 = .ok (.istore 4, 2) := by decide +kernel
theorem dX6_lateBy_13 : decode cX6_lateBy 13 = .ok (.iload 4, 2) := by decide +kernel
theorem dX6_lateBy_15 : decode cX6_lateBy 15 = .ok (.bipush 8, 2) := by decide +kernel
theorem dX6_lateBy_17 : decode cX6_lateBy 17 = .ok (.if_icmp .ge 50, 3) := by decide +kernel
theorem dX6_lateBy_20 : decode cX6_lateBy 20 = .ok (.aload_n 0, 1) := by decide +kernel
theorem dX6_lateBy_21 : decode cX6_lateBy 21 = .ok (.getfield 23, 3) := by decide +kernel
theorem dX6_lateBy_24 : decode cX6_lateBy 24 = .ok (.iconst 0, 1) := by decide +kernel
theorem dX6_lateBy_25 : decode cX6_lateBy 25 = .ok (.dup2, 1) := by decide +kernel
theorem dX6_lateBy_26 : decode cX6_lateBy 26 = .ok (.iaload, 1) := by decide +kernel
theorem dX6_lateBy_27 : decode cX6_lateBy 27 = .ok (.iload 4, 2) := by decide +kernel
theorem dX6_lateBy_29 : decode cX6_lateBy 29 = .ok (.iadd, 1) := by decide +kernel
theorem dX6_lateBy_30 : decode cX6_lateBy 30 = .ok (.iastore, 1) := by decide +kernel
theorem dX6_lateBy_31 : decode cX6_lateBy 31 = .ok (.aload_n 0, 1) := by decide +kernel
theorem dX6_lateBy_32 : decode cX6_lateBy 32 = .ok (.bipush 7, 2) := by decide +kernel
theorem dX6_lateBy_34 : decode cX6_lateBy 34 = .ok (.iconst 0, 1) := by decide +kernel
theorem dX6_lateBy_35 : decode cX6_lateBy 35 = .ok (.invokevirtual 366, 3) := by decide +kernel
theorem dX6_lateBy_38 : decode cX6_lateBy 38 = .ok (.pop, 1) := by decide +kernel
theorem dX6_lateBy_39 : decode cX6_lateBy 39 = .ok (.aload_n 0, 1) := by decide +kernel
theorem dX6_lateBy_40 : decode cX6_lateBy 40 = .ok (.invokevirtual 134, 3) := by decide +kernel
theorem dX6_lateBy_43 : decode cX6_lateBy 43 = .ok (.istore 5, 2) := by decide +kernel
theorem dX6_lateBy_45 : decode cX6_lateBy 45 = .ok (.aload_n 0, 1) := by decide +kernel
theorem dX6_lateBy_46 : decode cX6_lateBy 46 = .ok (.invokevirtual 372, 3) := by decide +kernel
theorem dX6_lateBy_49 : decode cX6_lateBy 49 = .ok (.iload 5, 2) := by decide +kernel
theorem dX6_lateBy_51 : decode cX6_lateBy 51 = .ok (.iload_n 3, 1) := by decide +kernel
theorem dX6_lateBy_52 : decode cX6_lateBy 52 = .ok (.if_icmp .ge 9, 3) := by decide +kernel
theorem dX6_lateBy_55 : decode cX6_lateBy 55 = .ok (.iload 4, 2) := by decide +kernel
theorem dX6_lateBy_57 : decode cX6_lateBy 57 = .ok (.istore_n 2, 1) := by decide +kernel
theorem dX6_lateBy_58 : decode cX6_lateBy 58 = .ok (.iload 5, 2) := by decide +kernel
theorem dX6_lateBy_60 : decode cX6_lateBy 60 = .ok (.istore_n 3, 1) := by decide +kernel
theorem dX6_lateBy_61 : decode cX6_lateBy 61 = .ok (.iinc 4 1, 3) := by decide +kernel
theorem dX6_lateBy_64 : decode cX6_lateBy 64 = .ok (.goto (-51), 3) := by decide +kernel
theorem dX6_lateBy_67 : decode cX6_lateBy 67 = .ok (.iload_n 1, 1) := by decide +kernel
theorem dX6_lateBy_68 : decode cX6_lateBy 68 = .ok (.iconst 2, 1) := by decide +kernel
theorem dX6_lateBy_69 : decode cX6_lateBy 69 = .ok (.if_icmp .ne 7, 3) := by decide +kernel
theorem dX6_lateBy_72 : decode cX6_lateBy 72 = .ok (.iload_n 2, 1) := by decide +kernel
theorem dX6_lateBy_73 : decode cX6_lateBy 73 = .ok (.goto 4, 3) := by decide +kernel
theorem dX6_lateBy_76 : decode cX6_lateBy 76 = .ok (.iload_n 3, 1) := by decide +kernel
theorem dX6_lateBy_77 : decode cX6_lateBy 77 = .ok (.ireturn, 1) := by decide +kernel
theorem dX6_mostBy_0 : decode cX6_mostBy 0 = .ok (.iconst (-1), 1) := by decide +kernel
theorem dX6_mostBy_1 : decode cX6_mostBy 1 = .ok (.istore_n 2, 1) := by decide +kernel
theorem dX6_mostBy_2 : decode cX6_mostBy 2 = .ok (.iconst 0, 1) := by decide +kernel
theorem dX6_mostBy_3 : decode cX6_mostBy 3 = .ok (.istore_n 3, 1) := by decide +kernel
theorem dX6_mostBy_4 : decode cX6_mostBy 4 = .ok (.iconst 0, 1) := by decide +kernel
theorem dX6_mostBy_5 : decode cX6_mostBy 5 = .ok (.istore 4, 2) := by decide +kernel
theorem dX6_mostBy_7 : decode cX6_mostBy 7 = .ok (.iload 4, 2) := by decide +kernel
theorem dX6_mostBy_9 : decode cX6_mostBy 9 = .ok (.aload_n 0, 1) := by decide +kernel
theorem dX6_mostBy_10 : decode cX6_mostBy 10 = .ok (.getfield 77, 3) := by decide +kernel
theorem dX6_mostBy_13 : decode cX6_mostBy 13 = .ok (.if_icmp .ge 35, 3) := by decide +kernel
theorem dX6_mostBy_16 : decode cX6_mostBy 16 = .ok (.aload_n 0, 1) := by decide +kernel
theorem dX6_mostBy_17 : decode cX6_mostBy 17 = .ok (.iload 4, 2) := by decide +kernel
theorem dX6_mostBy_19 : decode cX6_mostBy 19 = .ok (.iconst 0, 1) := by decide +kernel
theorem dX6_mostBy_20 : decode cX6_mostBy 20 = .ok (.invokevirtual 127, 3) := by decide +kernel
theorem dX6_mostBy_23 : decode cX6_mostBy 23 = .ok (.istore 5, 2) := by decide +kernel
theorem dX6_mostBy_25 : decode cX6_mostBy 25 = .ok (.iload_n 2, 1) := by decide +kernel
theorem dX6_mostBy_26 : decode cX6_mostBy 26 = .ok (.iconst (-1), 1) := by decide +kernel
theorem dX6_mostBy_27 : decode cX6_mostBy 27 = .ok (.if_icmp .eq 9, 3) := by decide +kernel
theorem dX6_mostBy_30 : decode cX6_mostBy 30 = .ok (.iload 5, 2) := by decide +kernel
theorem dX6_mostBy_32 : decode cX6_mostBy 32 = .ok (.iload_n 3, 1) := by decide +kernel
theorem dX6_mostBy_33 : decode cX6_mostBy 33 = .ok (.if_icmp .le 9, 3) := by decide +kernel
theorem dX6_mostBy_36 : decode cX6_mostBy 36 = .ok (.iload 4, 2) := by decide +kernel
theorem dX6_mostBy_38 : decode cX6_mostBy 38 = .ok (.istore_n 2, 1) := by decide +kernel
theorem dX6_mostBy_39 : decode cX6_mostBy 39 = .ok (.iload 5, 2) := by decide +kernel
theorem dX6_mostBy_41 : decode cX6_mostBy 41 = .ok (.istore_n 3, 1) := by decide +kernel
theorem dX6_mostBy_42 : decode cX6_mostBy 42 = .ok (.iinc 4 1, 3) := by decide +kernel
theorem dX6_mostBy_45 : decode cX6_mostBy 45 = .ok (.goto (-38), 3) := by decide +kernel
theorem dX6_mostBy_48 : decode cX6_mostBy 48 = .ok (.iload_n 1, 1) := by decide +kernel
theorem dX6_mostBy_49 : decode cX6_mostBy 49 = .ok (.iconst 4, 1) := by decide +kernel
theorem dX6_mostBy_50 : decode cX6_mostBy 50 = .ok (.if_icmp .ne 7, 3) := by decide +kernel
theorem dX6_mostBy_53 : decode cX6_mostBy 53 = .ok (.iload_n 2, 1) := by decide +kernel
theorem dX6_mostBy_54 : decode cX6_mostBy 54 = .ok (.goto 4, 3) := by decide +kernel
theorem dX6_mostBy_57 : decode cX6_mostBy 57 = .ok (.iload_n 3, 1) := by decide +kernel
theorem dX6_mostBy_58 : decode cX6_mostBy 58 = .ok (.ireturn, 1) := by decide +kernel
theorem dX6_best_0 : decode cX6_best 0 = .ok (.iload_n 1, 1) := by decide +kernel
theorem dX6_best_1 : decode cX6_best 1 = .ok (.i2l, 1) := by decide +kernel
theorem dX6_best_2 : decode cX6_best 2 = .ok (.lconst 0, 1) := by decide +kernel
theorem dX6_best_3 : decode cX6_best 3 = .ok (.ldc2_w 110, 3) := by decide +kernel
theorem dX6_best_6 : decode cX6_best 6 = .ok (.invokestatic 73, 3) := by decide +kernel
theorem dX6_best_9 : decode cX6_best 9 = .ok (.ifCond .ne 7, 3) := by decide +kernel
theorem dX6_best_12 : decode cX6_best 12 = .ok (.sipush (-1000), 3) := by decide +kernel
theorem dX6_best_15 : decode cX6_best 15 = .ok (.ireturn, 1) := by decide +kernel
theorem dX6_best_16 : decode cX6_best 16 = .ok (.iload_n 1, 1) := by decide +kernel
theorem dX6_best_17 : decode cX6_best 17 = .ok (.ifCond .ne 10, 3) := by decide +kernel
theorem dX6_best_20 : decode cX6_best 20 = .ok (.aload_n 0, 1) := by decide +kernel
theorem dX6_best_21 : decode cX6_best 21 = .ok (.invokevirtual 391, 3) := by decide +kernel
theorem dX6_best_24 : decode cX6_best 24 = .ok (.goto 37, 3) := by decide +kernel
theorem dX6_best_27 : decode cX6_best 27 = .ok (.iload_n 1, 1) := by decide +kernel
theorem dX6_best_28 : decode cX6_best 28 = .ok (.iconst 1, 1) := by decide +kernel
theorem dX6_best_29 : decode cX6_best 29 = .ok (.if_icmp .ne 14, 3) := by decide +kernel
theorem dX6_best_32 : decode cX6_best 32 = .ok (.aload_n 0, 1) := by decide +kernel
theorem dX6_best_33 : decode cX6_best 33 = .ok (.aload_n 0, 1) := by decide +kernel
theorem dX6_best_34 : decode cX6_best 34 = .ok (.invokevirtual 391, 3) := by decide +kernel
theorem dX6_best_37 : decode cX6_best 37 = .ok (.invokevirtual 388, 3) := by decide +kernel
theorem dX6_best_40 : decode cX6_best 40 = .ok (.goto 21, 3) := by decide +kernel
theorem dX6_best_43 : decode cX6_best 43 = .ok (.iload_n 1, 1) := by decide +kernel
theorem dX6_best_44 : decode cX6_best 44 = .ok (.iconst 4, 1) := by decide +kernel
theorem dX6_best_45 : decode cX6_best 45 = .ok (.if_icmp .ge 11, 3) := by decide +kernel
theorem dX6_best_48 : decode cX6_best 48 = .ok (.aload_n 0, 1) := by decide +kernel
theorem dX6_best_49 : decode cX6_best 49 = .ok (.iload_n 1, 1) := by decide +kernel
theorem dX6_best_50 : decode cX6_best 50 = .ok (.invokevirtual 394, 3) := by decide +kernel
theorem dX6_best_53 : decode cX6_best 53 = .ok (.goto 8, 3) := by decide +kernel
theorem dX6_best_56 : decode cX6_best 56 = .ok (.aload_n 0, 1) := by decide +kernel
theorem dX6_best_57 : decode cX6_best 57 = .ok (.iload_n 1, 1) := by decide +kernel
theorem dX6_best_58 : decode cX6_best 58 = .ok (.invokevirtual 397, 3) := by decide +kernel
theorem dX6_best_61 : decode cX6_best 61 = .ok (.ireturn, 1) := by decide +kernel
theorem dX6_lowest_0 : decode cX6_lowest 0 = .ok (.lload_n 0, 1) := by decide +kernel
theorem dX6_lowest_1 : decode cX6_lowest 1 = .ok (.lstore 5, 2) := by decide +kernel
theorem dX6_lowest_3 : decode cX6_lowest 3 = .ok (.lload_n 2, 1) := by decide +kernel
theorem dX6_lowest_4 : decode cX6_lowest 4 = .ok (.lstore 7, 2) := by decide +kernel
theorem dX6_lowest_6 : decode cX6_lowest 6 = .ok (.lload 7, 2) := by decide +kernel
theorem dX6_lowest_8 : decode cX6_lowest 8 = .ok (.lconst 0, 1) := by decide +kernel
theorem dX6_lowest_9 : decode cX6_lowest 9 = .ok (.lcmp, 1) := by decide +kernel
theorem dX6_lowest_10 : decode cX6_lowest 10 = .ok (.ifCond .eq 21, 3) := by decide +kernel
theorem dX6_lowest_13 : decode cX6_lowest 13 = .ok (.lload 5, 2) := by decide +kernel
theorem dX6_lowest_15 : decode cX6_lowest 15 = .ok (.lload 7, 2) := by decide +kernel
theorem dX6_lowest_17 : decode cX6_lowest 17 = .ok (.lrem, 1) := by decide +kernel
theorem dX6_lowest_18 : decode cX6_lowest 18 = .ok (.lstore 9, 2) := by decide +kernel
theorem dX6_lowest_20 : decode cX6_lowest 20 = .ok (.lload 7, 2) := by decide +kernel
theorem dX6_lowest_22 : decode cX6_lowest 22 = .ok (.lstore 5, 2) := by decide +kernel
theorem dX6_lowest_24 : decode cX6_lowest 24 = .ok (.lload 9, 2) := by decide +kernel
theorem dX6_lowest_26 : decode cX6_lowest 26 = .ok (.lstore 7, 2) := by decide +kernel
theorem dX6_lowest_28 : decode cX6_lowest 28 = .ok (.goto (-22), 3) := by decide +kernel
theorem dX6_lowest_31 : decode cX6_lowest 31 = .ok (.iload 4, 2) := by decide +kernel
theorem dX6_lowest_33 : decode cX6_lowest 33 = .ok (.ifCond .ne 10, 3) := by decide +kernel
theorem dX6_lowest_36 : decode cX6_lowest 36 = .ok (.lload_n 0, 1) := by decide +kernel
theorem dX6_lowest_37 : decode cX6_lowest 37 = .ok (.lload 5, 2) := by decide +kernel
theorem dX6_lowest_39 : decode cX6_lowest 39 = .ok (.ldiv, 1) := by decide +kernel
theorem dX6_lowest_40 : decode cX6_lowest 40 = .ok (.goto 7, 3) := by decide +kernel
theorem dX6_lowest_43 : decode cX6_lowest 43 = .ok (.lload_n 2, 1) := by decide +kernel
theorem dX6_lowest_44 : decode cX6_lowest 44 = .ok (.lload 5, 2) := by decide +kernel
theorem dX6_lowest_46 : decode cX6_lowest 46 = .ok (.ldiv, 1) := by decide +kernel
theorem dX6_lowest_47 : decode cX6_lowest 47 = .ok (.lreturn, 1) := by decide +kernel
theorem dX6_share_0 : decode cX6_share 0 = .ok (.iload_n 1, 1) := by decide +kernel
theorem dX6_share_1 : decode cX6_share 1 = .ok (.i2l, 1) := by decide +kernel
theorem dX6_share_2 : decode cX6_share 2 = .ok (.lconst 0, 1) := by decide +kernel
theorem dX6_share_3 : decode cX6_share 3 = .ok (.lconst 1, 1) := by decide +kernel
theorem dX6_share_4 : decode cX6_share 4 = .ok (.invokestatic 73, 3) := by decide +kernel
theorem dX6_share_7 : decode cX6_share 7 = .ok (.ifCond .eq 29, 3) := by decide +kernel
theorem dX6_share_10 : decode cX6_share 10 = .ok (.aload_n 0, 1) := by decide +kernel
theorem dX6_share_11 : decode cX6_share 11 = .ok (.invokevirtual 114, 3) := by decide +kernel
theorem dX6_share_14 : decode cX6_share 14 = .ok (.ifCond .le 22, 3) := by decide +kernel
theorem dX6_share_17 : decode cX6_share 17 = .ok (.aload_n 0, 1) := by decide +kernel
theorem dX6_share_18 : decode cX6_share 18 = .ok (.getfield 23, 3) := by decide +kernel
theorem dX6_share_21 : decode cX6_share 21 = .ok (.iconst 3, 1) := by decide +kernel
theorem dX6_share_22 : decode cX6_share 22 = .ok (.iaload, 1) := by decide +kernel
theorem dX6_share_23 : decode cX6_share 23 = .ok (.i2l, 1) := by decide +kernel
theorem dX6_share_24 : decode cX6_share 24 = .ok (.aload_n 0, 1) := by decide +kernel
theorem dX6_share_25 : decode cX6_share 25 = .ok (.invokevirtual 114, 3) := by decide +kernel
theorem dX6_share_28 : decode cX6_share 28 = .ok (.i2l, 1) := by decide +kernel
theorem dX6_share_29 : decode cX6_share 29 = .ok (.iload_n 1, 1) := by decide +kernel
theorem dX6_share_30 : decode cX6_share 30 = .ok (.invokestatic 400, 3) := by decide +kernel
theorem dX6_share_33 : decode cX6_share 33 = .ok (.goto 6, 3) := by decide +kernel
theorem dX6_share_36 : decode cX6_share 36 = .ok (.ldc2_w 404, 3) := by decide +kernel
theorem dX6_share_39 : decode cX6_share 39 = .ok (.lreturn, 1) := by decide +kernel
theorem dX6_firstOther_0 : decode cX6_firstOther 0 = .ok (.aload_n 0, 1) := by decide +kernel
theorem dX6_firstOther_1 : decode cX6_firstOther 1 = .ok (.getfield 23, 3) := by decide +kernel
theorem dX6_firstOther_4 : decode cX6_firstOther 4 = .ok (.iconst 0, 1) := by decide +kernel
theorem dX6_firstOther_5 : decode cX6_firstOther 5 = .ok (.iaload, 1) := by decide +kernel
theorem dX6_firstOther_6 : decode cX6_firstOther 6 = .ok (.istore_n 3, 1) := by decide +kernel
theorem dX6_firstOther_7 : decode cX6_firstOther 7 = .ok (.iconst (-1), 1) := by decide +kernel
theorem dX6_firstOther_8 : decode cX6_firstOther 8 = .ok (.istore 4, 2) := by decide +kernel
theorem dX6_firstOther_10 : decode cX6_firstOther 10 = .ok (.iconst 0, 1) := by decide +kernel
theorem dX6_firstOther_11 : decode cX6_firstOther 11 = .ok (.istore 5, 2) := by decide +kernel
theorem dX6_firstOther_13 : decode cX6_firstOther 13 = .ok (.iload 5, 2) := by decide +kernel
theorem dX6_firstOther_15 : decode cX6_firstOther 15 = .ok (.aload_n 0, 1) := by decide +kernel
theorem dX6_firstOther_16 : decode cX6_firstOther 16 = .ok (.getfield 57, 3) := by decide +kernel
theorem dX6_firstOther_19 : decode cX6_firstOther 19 = .ok (.iload_n 1, 1) := by decide +kernel
theorem dX6_firstOther_20 : decode cX6_firstOther 20 = .ok (.iaload, 1) := by decide +kernel
theorem dX6_firstOther_21 : decode cX6_firstOther 21 = .ok (.if_icmp .ge 54, 3) := by decide +kernel
theorem dX6_firstOther_24 : decode cX6_firstOther 24 = .ok (.iload 4, 2) := by decide +kernel
theorem dX6_firstOther_26 : decode cX6_firstOther 26 = .ok (.iconst (-1), 1) := by decide +kernel
theorem dX6_firstOther_27 : decode cX6_firstOther 27 = .ok (.if_icmp .ne 48, 3) := by decide +kernel
theorem dX6_firstOther_30 : decode cX6_firstOther 30 = .ok (.aload_n 0, 1) := by decide +kernel
theorem dX6_firstOther_31 : decode cX6_firstOther 31 = .ok (.getfield 23, 3) := by decide +kernel
theorem dX6_firstOther_34 : decode cX6_firstOther 34 = .ok (.iconst 0, 1) := by decide +kernel
theorem dX6_firstOther_35 : decode cX6_firstOther 35 = .ok (.iload_n 3, 1) := by decide +kernel
theorem dX6_firstOther_36 : decode cX6_firstOther 36 = .ok (.iload 5, 2) := by decide +kernel
theorem dX6_firstOther_38 : decode cX6_firstOther 38 = .ok (.iadd, 1) := by decide +kernel
theorem dX6_firstOther_39 : decode cX6_firstOther 39 = .ok (.iastore, 1) := by decide +kernel
theorem dX6_firstOther_40 : decode cX6_firstOther 40 = .ok (.aload_n 0, 1) := by decide +kernel
theorem dX6_firstOther_41 : decode cX6_firstOther 41 = .ok (.iload_n 2, 1) := by decide +kernel
theorem dX6_firstOther_42 : decode cX6_firstOther 42 = .ok (.iconst 0, 1) := by decide +kernel
theorem dX6_firstOther_43 : decode cX6_firstOther 43 = .ok (.invokevirtual 127, 3) := by decide +kernel
theorem dX6_firstOther_46 : decode cX6_firstOther 46 = .ok (.aload_n 0, 1) := by decide +kernel
theorem dX6_firstOther_47 : decode cX6_firstOther 47 = .ok (.getfield 60, 3) := by decide +kernel
theorem dX6_firstOther_50 : decode cX6_firstOther 50 = .ok (.bipush 40, 2) := by decide +kernel
theorem dX6_firstOther_52 : decode cX6_firstOther 52 = .ok (.iload_n 1, 1) := by decide +kernel
theorem dX6_firstOther_53 : decode cX6_firstOther 53 = .ok (.imul, 1) := by decide +kernel
theorem dX6_firstOther_54 : decode cX6_firstOther 54 = .ok (.iload 5, 2) := by decide +kernel
theorem dX6_firstOther_56 : decode cX6_firstOther 56 = .ok (.iadd, 1) := by decide +kernel
theorem dX6_firstOther_57 : decode cX6_firstOther 57 = .ok (.iaload, 1) := by decide +kernel
theorem dX6_firstOther_58 : decode cX6_firstOther 58 = .ok (.if_icmp .ne 7, 3) := by decide +kernel
theorem dX6_firstOther_61 : decode cX6_firstOther 61 = .ok (.iconst (-1), 1) := by decide +kernel
theorem dX6_firstOther_62 : decode cX6_firstOther 62 = .ok (.goto 5, 3) := by decide +kernel
theorem dX6_firstOther_65 : decode cX6_firstOther 65 = .ok (.iload 5, 2) := by decide +kernel
theorem dX6_firstOther_67 : decode cX6_firstOther 67 = .ok (.istore 4, 2) := by decide +kernel
theorem dX6_firstOther_69 : decode cX6_firstOther 69 = .ok (.iinc 5 1, 3) := by decide +kernel
theorem dX6_firstOther_72 : decode cX6_firstOther 72 = .ok (.goto (-59), 3) := by decide +kernel
theorem dX6_firstOther_75 : decode cX6_firstOther 75 = .ok (.aload_n 0, 1) := by decide +kernel
theorem dX6_firstOther_76 : decode cX6_firstOther 76 = .ok (.getfield 23, 3) := by decide +kernel
theorem dX6_firstOther_79 : decode cX6_firstOther 79 = .ok (.iconst 0, 1) := by decide +kernel
theorem dX6_firstOther_80 : decode cX6_firstOther 80 = .ok (.iload_n 3, 1) := by decide +kernel
theorem dX6_firstOther_81 : decode cX6_firstOther 81 = .ok (.iastore, 1) := by decide +kernel
theorem dX6_firstOther_82 : decode cX6_firstOther 82 = .ok (.iload 4, 2) := by decide +kernel
theorem dX6_firstOther_84 : decode cX6_firstOther 84 = .ok (.ireturn, 1) := by decide +kernel
theorem dX6_likeSet_0 : decode cX6_likeSet 0 = .ok (.iconst 0, 1) := by decide +kernel
theorem dX6_likeSet_1 : decode cX6_likeSet 1 = .ok (.istore_n 2, 1) := by decide +kernel
theorem dX6_likeSet_2 : decode cX6_likeSet 2 = .ok (.iconst 0, 1) := by decide +kernel
theorem dX6_likeSet_3 : decode cX6_likeSet 3 = .ok (.istore_n 3, 1) := by decide +kernel
theorem dX6_likeSet_4 : decode cX6_likeSet 4 = .ok (.iload_n 3, 1) := by decide +kernel
theorem dX6_likeSet_5 : decode cX6_likeSet 5 = .ok (.aload_n 0, 1) := by decide +kernel
theorem dX6_likeSet_6 : decode cX6_likeSet 6 = .ok (.getfield 77, 3) := by decide +kernel
theorem dX6_likeSet_9 : decode cX6_likeSet 9 = .ok (.if_icmp .ge 29, 3) := by decide +kernel
theorem dX6_likeSet_12 : decode cX6_likeSet 12 = .ok (.iload_n 2, 1) := by decide +kernel
theorem dX6_likeSet_13 : decode cX6_likeSet 13 = .ok (.aload_n 0, 1) := by decide +kernel
theorem dX6_likeSet_14 : decode cX6_likeSet 14 = .ok (.iload_n 1, 1) := by decide +kernel
theorem dX6_likeSet_15 : decode cX6_likeSet 15 = .ok (.iload_n 3, 1) := by decide +kernel
theorem dX6_likeSet_16 : decode cX6_likeSet 16 = .ok (.invokevirtual 406, 3) := by decide +kernel
theorem dX6_likeSet_19 : decode cX6_likeSet 19 = .ok (.iconst (-1), 1) := by decide +kernel
theorem dX6_likeSet_20 : decode cX6_likeSet 20 = .ok (.if_icmp .ne 7, 3) := by decide +kernel
theorem dX6_likeSet_23 : decode cX6_likeSet 23 = .ok (.iconst 1, 1) := by decide +kernel
theorem dX6_likeSet_24 : decode cX6_likeSet 24 = .ok (.goto 4, 3) := by decide +kernel
theorem dX6_likeSet_27 : decode cX6_likeSet 27 = .ok (.iconst 0, 1) := by decide +kernel
theorem dX6_likeSet_28 : decode cX6_likeSet 28 = .ok (.iload_n 3, 1) := by decide +kernel
theorem dX6_likeSet_29 : decode cX6_likeSet 29 = .ok (.ishl, 1) := by decide +kernel
theorem dX6_likeSet_30 : decode cX6_likeSet 30 = .ok (.ior, 1) := by decide +kernel
theorem dX6_likeSet_31 : decode cX6_likeSet 31 = .ok (.istore_n 2, 1) := by decide +kernel
theorem dX6_likeSet_32 : decode cX6_likeSet 32 = .ok (.iinc 3 1, 3) := by decide +kernel
theorem dX6_likeSet_35 : decode cX6_likeSet 35 = .ok (.goto (-31), 3) := by decide +kernel
theorem dX6_likeSet_38 : decode cX6_likeSet 38 = .ok (.iload_n 2, 1) := by decide +kernel
theorem dX6_likeSet_39 : decode cX6_likeSet 39 = .ok (.ireturn, 1) := by decide +kernel
theorem dX6_tells_0 : decode cX6_tells 0 = .ok (.iload_n 1, 1) := by decide +kernel
theorem dX6_tells_1 : decode cX6_tells 1 = .ok (.invokestatic 409, 3) := by decide +kernel
theorem dX6_tells_4 : decode cX6_tells 4 = .ok (.ifCond .eq 23, 3) := by decide +kernel
theorem dX6_tells_7 : decode cX6_tells 7 = .ok (.aload_n 0, 1) := by decide +kernel
theorem dX6_tells_8 : decode cX6_tells 8 = .ok (.iload_n 2, 1) := by decide +kernel
theorem dX6_tells_9 : decode cX6_tells 9 = .ok (.invokevirtual 84, 3) := by decide +kernel
theorem dX6_tells_12 : decode cX6_tells 12 = .ok (.ifCond .eq 15, 3) := by decide +kernel
theorem dX6_tells_15 : decode cX6_tells 15 = .ok (.iload_n 3, 1) := by decide +kernel
theorem dX6_tells_16 : decode cX6_tells 16 = .ok (.i2l, 1) := by decide +kernel
theorem dX6_tells_17 : decode cX6_tells 17 = .ok (.lconst 0, 1) := by decide +kernel
theorem dX6_tells_18 : decode cX6_tells 18 = .ok (.ldc2_w 87, 3) := by decide +kernel
theorem dX6_tells_21 : decode cX6_tells 21 = .ok (.invokestatic 73, 3) := by decide +kernel
theorem dX6_tells_24 : decode cX6_tells 24 = .ok (.ifCond .ne 6, 3) := by decide +kernel
theorem dX6_tells_27 : decode cX6_tells 27 = .ok (.bipush (-2), 2) := by decide +kernel
theorem dX6_tells_29 : decode cX6_tells 29 = .ok (.ireturn, 1) := by decide +kernel
theorem dX6_tells_30 : decode cX6_tells 30 = .ok (.aload_n 0, 1) := by decide +kernel
theorem dX6_tells_31 : decode cX6_tells 31 = .ok (.getfield 50, 3) := by decide +kernel
theorem dX6_tells_34 : decode cX6_tells 34 = .ok (.iload_n 1, 1) := by decide +kernel
theorem dX6_tells_35 : decode cX6_tells 35 = .ok (.baload, 1) := by decide +kernel
theorem dX6_tells_36 : decode cX6_tells 36 = .ok (.ifCond .ne 6, 3) := by decide +kernel
theorem dX6_tells_39 : decode cX6_tells 39 = .ok (.bipush (-11), 2) := by decide +kernel
theorem dX6_tells_41 : decode cX6_tells 41 = .ok (.ireturn, 1) := by decide +kernel
theorem dX6_tells_42 : decode cX6_tells 42 = .ok (.aload_n 0, 1) := by decide +kernel
theorem dX6_tells_43 : decode cX6_tells 43 = .ok (.getfield 57, 3) := by decide +kernel
theorem dX6_tells_46 : decode cX6_tells 46 = .ok (.iload_n 1, 1) := by decide +kernel
theorem dX6_tells_47 : decode cX6_tells 47 = .ok (.iaload, 1) := by decide +kernel
theorem dX6_tells_48 : decode cX6_tells 48 = .ok (.bipush 20, 2) := by decide +kernel
theorem dX6_tells_50 : decode cX6_tells 50 = .ok (.if_icmp .le 6, 3) := by decide +kernel
theorem dX6_tells_53 : decode cX6_tells 53 = .ok (.bipush (-2), 2) := by decide +kernel
theorem dX6_tells_55 : decode cX6_tells 55 = .ok (.ireturn, 1) := by decide +kernel
theorem dX6_tells_56 : decode cX6_tells 56 = .ok (.iload_n 3, 1) := by decide +kernel
theorem dX6_tells_57 : decode cX6_tells 57 = .ok (.ifCond .eq 9, 3) := by decide +kernel
theorem dX6_tells_60 : decode cX6_tells 60 = .ok (.iload_n 3, 1) := by decide +kernel
theorem dX6_tells_61 : decode cX6_tells 61 = .ok (.bipush 6, 2) := by decide +kernel
theorem dX6_tells_63 : decode cX6_tells 63 = .ok (.if_icmp .ne 22, 3) := by decide +kernel
theorem dX6_tells_66 : decode cX6_tells 66 = .ok (.iload_n 3, 1) := by decide +kernel
theorem dX6_tells_67 : decode cX6_tells 67 = .ok (.ifCond .ne 12, 3) := by decide +kernel
theorem dX6_tells_70 : decode cX6_tells 70 = .ok (.aload_n 0, 1) := by decide +kernel
theorem dX6_tells_71 : decode cX6_tells 71 = .ok (.iload_n 1, 1) := by decide +kernel
theorem dX6_tells_72 : decode cX6_tells 72 = .ok (.iload_n 2, 1) := by decide +kernel
theorem dX6_tells_73 : decode cX6_tells 73 = .ok (.invokevirtual 406, 3) := by decide +kernel
theorem dX6_tells_76 : decode cX6_tells 76 = .ok (.goto 8, 3) := by decide +kernel
theorem dX6_tells_79 : decode cX6_tells 79 = .ok (.aload_n 0, 1) := by decide +kernel
theorem dX6_tells_80 : decode cX6_tells 80 = .ok (.iload_n 1, 1) := by decide +kernel
theorem dX6_tells_81 : decode cX6_tells 81 = .ok (.invokevirtual 412, 3) := by decide +kernel
theorem dX6_tells_84 : decode cX6_tells 84 = .ok (.ireturn, 1) := by decide +kernel
theorem dX6_tells_85 : decode cX6_tells 85 = .ok (.iload_n 3, 1) := by decide +kernel
theorem dX6_tells_86 : decode cX6_tells 86 = .ok (.iconst 1, 1) := by decide +kernel
theorem dX6_tells_87 : decode cX6_tells 87 = .ok (.if_icmp .ne 8, 3) := by decide +kernel
theorem dX6_tells_90 : decode cX6_tells 90 = .ok (.bipush 8, 2) := by decide +kernel
theorem dX6_tells_92 : decode cX6_tells 92 = .ok (.goto 35, 3) := by decide +kernel
theorem dX6_tells_95 : decode cX6_tells 95 = .ok (.iload_n 3, 1) := by decide +kernel
theorem dX6_tells_96 : decode cX6_tells 96 = .ok (.iconst 2, 1) := by decide +kernel
theorem dX6_tells_97 : decode cX6_tells 97 = .ok (.if_icmp .ne 8, 3) := by decide +kernel
theorem dX6_tells_100 : decode cX6_tells 100 = .ok (.bipush 6, 2) := by decide +kernel
theorem dX6_tells_102 : decode cX6_tells 102 = .ok (.goto 25, 3) := by decide +kernel
theorem dX6_tells_105 : decode cX6_tells 105 = .ok (.iload_n 3, 1) := by decide +kernel
theorem dX6_tells_106 : decode cX6_tells 106 = .ok (.iconst 5, 1) := by decide +kernel
theorem dX6_tells_107 : decode cX6_tells 107 = .ok (.if_icmp .ne 8, 3) := by decide +kernel
theorem dX6_tells_110 : decode cX6_tells 110 = .ok (.bipush 9, 2) := by decide +kernel
theorem dX6_tells_112 : decode cX6_tells 112 = .ok (.goto 15, 3) := by decide +kernel
theorem dX6_tells_115 : decode cX6_tells 115 = .ok (.iload_n 3, 1) := by decide +kernel
theorem dX6_tells_116 : decode cX6_tells 116 = .ok (.bipush 7, 2) := by decide +kernel
theorem dX6_tells_118 : decode cX6_tells 118 = .ok (.if_icmp .ne 8, 3) := by decide +kernel
theorem dX6_tells_121 : decode cX6_tells 121 = .ok (.bipush 7, 2) := by decide +kernel
theorem dX6_tells_123 : decode cX6_tells 123 = .ok (.goto 4, 3) := by decide +kernel
theorem dX6_tells_126 : decode cX6_tells 126 = .ok (.iconst 3, 1) := by decide +kernel
theorem dX6_tells_127 : decode cX6_tells 127 = .ok (.istore 4, 2) := by decide +kernel
theorem dX6_tells_129 : decode cX6_tells 129 = .ok (.iload 4, 2) := by decide +kernel
theorem dX6_tells_131 : decode cX6_tells 131 = .ok (.bipush 9, 2) := by decide +kernel
theorem dX6_tells_133 : decode cX6_tells 133 = .ok (.if_icmp .ne 10, 3) := by decide +kernel
theorem dX6_tells_136 : decode cX6_tells 136 = .ok (.aload_n 0, 1) := by decide +kernel
theorem dX6_tells_137 : decode cX6_tells 137 = .ok (.getfield 105, 3) := by decide +kernel
theorem dX6_tells_140 : decode cX6_tells 140 = .ok (.goto 30, 3) := by decide +kernel
theorem dX6_tells_143 : decode cX6_tells 143 = .ok (.iload 4, 2) := by decide +kernel
theorem dX6_tells_145 : decode cX6_tells 145 = .ok (.bipush 8, 2) := by decide +kernel
theorem dX6_tells_147 : decode cX6_tells 147 = .ok (.if_icmp .ne 16, 3) := by decide +kernel
theorem dX6_tells_150 : decode cX6_tells 150 = .ok (.aload_n 0, 1) := by decide +kernel
theorem dX6_tells_151 : decode cX6_tells 151 = .ok (.getfield 29, 3) := by decide +kernel
theorem dX6_tells_154 : decode cX6_tells 154 = .ok (.iconst 3, 1) := by decide +kernel
theorem dX6_tells_155 : decode cX6_tells 155 = .ok (.iload_n 2, 1) := by decide +kernel
theorem dX6_tells_156 : decode cX6_tells 156 = .ok (.imul, 1) := by decide +kernel
theorem dX6_tells_157 : decode cX6_tells 157 = .ok (.iconst 2, 1) := by decide +kernel
theorem dX6_tells_158 : decode cX6_tells 158 = .ok (.iadd, 1) := by decide +kernel
theorem dX6_tells_159 : decode cX6_tells 159 = .ok (.iaload, 1) := by decide +kernel
theorem dX6_tells_160 : decode cX6_tells 160 = .ok (.goto 10, 3) := by decide +kernel
theorem dX6_tells_163 : decode cX6_tells 163 = .ok (.aload_n 0, 1) := by decide +kernel
theorem dX6_tells_164 : decode cX6_tells 164 = .ok (.iload_n 2, 1) := by decide +kernel
theorem dX6_tells_165 : decode cX6_tells 165 = .ok (.iload 4, 2) := by decide +kernel
theorem dX6_tells_167 : decode cX6_tells 167 = .ok (.invokevirtual 97, 3) := by decide +kernel
theorem dX6_tells_170 : decode cX6_tells 170 = .ok (.istore 5, 2) := by decide +kernel
theorem dX6_tells_172 : decode cX6_tells 172 = .ok (.iload 4, 2) := by decide +kernel
theorem dX6_tells_174 : decode cX6_tells 174 = .ok (.bipush 9, 2) := by decide +kernel
theorem dX6_tells_176 : decode cX6_tells 176 = .ok (.if_icmp .ne 12, 3) := by decide +kernel
theorem dX6_tells_179 : decode cX6_tells 179 = .ok (.aload_n 0, 1) := by decide +kernel
theorem dX6_tells_180 : decode cX6_tells 180 = .ok (.getfield 67, 3) := by decide +kernel
theorem dX6_tells_183 : decode cX6_tells 183 = .ok (.iconst 1, 1) := by decide +kernel
theorem dX6_tells_184 : decode cX6_tells 184 = .ok (.isub, 1) := by decide +kernel
theorem dX6_tells_185 : decode cX6_tells 185 = .ok (.goto 39, 3) := by decide +kernel
theorem dX6_tells_188 : decode cX6_tells 188 = .ok (.iload 4, 2) := by decide +kernel
theorem dX6_tells_190 : decode cX6_tells 190 = .ok (.bipush 8, 2) := by decide +kernel
theorem dX6_tells_192 : decode cX6_tells 192 = .ok (.if_icmp .ne 7, 3) := by decide +kernel
theorem dX6_tells_195 : decode cX6_tells 195 = .ok (.iconst 5, 1) := by decide +kernel
theorem dX6_tells_196 : decode cX6_tells 196 = .ok (.goto 28, 3) := by decide +kernel
theorem dX6_tells_199 : decode cX6_tells 199 = .ok (.iload 4, 2) := by decide +kernel
theorem dX6_tells_201 : decode cX6_tells 201 = .ok (.bipush 6, 2) := by decide +kernel
theorem dX6_tells_203 : decode cX6_tells 203 = .ok (.if_icmp .ne 8, 3) := by decide +kernel
theorem dX6_tells_206 : decode cX6_tells 206 = .ok (.bipush 9, 2) := by decide +kernel
theorem dX6_tells_208 : decode cX6_tells 208 = .ok (.goto 16, 3) := by decide +kernel
theorem dX6_tells_211 : decode cX6_tells 211 = .ok (.iload 4, 2) := by decide +kernel
theorem dX6_tells_213 : decode cX6_tells 213 = .ok (.bipush 7, 2) := by decide +kernel
theorem dX6_tells_215 : decode cX6_tells 215 = .ok (.if_icmp .ne 7, 3) := by decide +kernel
theorem dX6_tells_218 : decode cX6_tells 218 = .ok (.iconst 1, 1) := by decide +kernel
theorem dX6_tells_219 : decode cX6_tells 219 = .ok (.goto 5, 3) := by decide +kernel
theorem dX6_tells_222 : decode cX6_tells 222 = .ok (.bipush 99, 2) := by decide +kernel
theorem dX6_tells_224 : decode cX6_tells 224 = .ok (.istore 6, 2) := by decide +kernel
theorem dX6_tells_226 : decode cX6_tells 226 = .ok (.iconst 0, 1) := by decide +kernel
theorem dX6_tells_227 : decode cX6_tells 227 = .ok (.istore 7, 2) := by decide +kernel
theorem dX6_tells_229 : decode cX6_tells 229 = .ok (.iconst 0, 1) := by decide +kernel
theorem dX6_tells_230 : decode cX6_tells 230 = .ok (.istore 8, 2) := by decide +kernel
theorem dX6_tells_232 : decode cX6_tells 232 = .ok (.iconst (-1), 1) := by decide +kernel
theorem dX6_tells_233 : decode cX6_tells 233 = .ok (.istore 9, 2) := by decide +kernel
theorem dX6_tells_235 : decode cX6_tells 235 = .ok (.iload 6, 2) := by decide +kernel
theorem dX6_tells_237 : decode cX6_tells 237 = .ok (.istore 10, 2) := by decide +kernel
theorem dX6_tells_239 : decode cX6_tells 239 = .ok (.iload 10, 2) := by decide +kernel
theorem dX6_tells_241 : decode cX6_tells 241 = .ok (.ifCond .lt 55, 3) := by decide +kernel
theorem dX6_tells_244 : decode cX6_tells 244 = .ok (.aload_n 0, 1) := by decide +kernel
theorem dX6_tells_245 : decode cX6_tells 245 = .ok (.iload 4, 2) := by decide +kernel
theorem dX6_tells_247 : decode cX6_tells 247 = .ok (.iload_n 2, 1) := by decide +kernel
theorem dX6_tells_248 : decode cX6_tells 248 = .ok (.iload 10, 2) := by decide +kernel
theorem dX6_tells_250 : decode cX6_tells 250 = .ok (.invokevirtual 101, 3) := by decide +kernel
theorem dX6_tells_253 : decode cX6_tells 253 = .ok (.aload_n 0, 1) := by decide +kernel
theorem dX6_tells_254 : decode cX6_tells 254 = .ok (.iload_n 1, 1) := by decide +kernel
theorem dX6_tells_255 : decode cX6_tells 255 = .ok (.iload_n 2, 1) := by decide +kernel
theorem dX6_tells_256 : decode cX6_tells 256 = .ok (.invokevirtual 406, 3) := by decide +kernel
theorem dX6_tells_259 : decode cX6_tells 259 = .ok (.iconst (-1), 1) := by decide +kernel
theorem dX6_tells_260 : decode cX6_tells 260 = .ok (.if_icmp .ne 30, 3) := by decide +kernel
theorem dX6_tells_263 : decode cX6_tells 263 = .ok (.iload 7, 2) := by decide +kernel
theorem dX6_tells_265 : decode cX6_tells 265 = .ok (.iload 10, 2) := by decide +kernel
theorem dX6_tells_267 : decode cX6_tells 267 = .ok (.bipush 10, 2) := by decide +kernel
theorem dX6_tells_269 : decode cX6_tells 269 = .ok (.if_icmp .ge 10, 3) := by decide +kernel
theorem dX6_tells_272 : decode cX6_tells 272 = .ok (.iconst 1, 1) := by decide +kernel
theorem dX6_tells_273 : decode cX6_tells 273 = .ok (.iload 10, 2) := by decide +kernel
theorem dX6_tells_275 : decode cX6_tells 275 = .ok (.ishl, 1) := by decide +kernel
theorem dX6_tells_276 : decode cX6_tells 276 = .ok (.goto 4, 3) := by decide +kernel
theorem dX6_tells_279 : decode cX6_tells 279 = .ok (.iconst 0, 1) := by decide +kernel
theorem dX6_tells_280 : decode cX6_tells 280 = .ok (.ior, 1) := by decide +kernel
theorem dX6_tells_281 : decode cX6_tells 281 = .ok (.istore 7, 2) := by decide +kernel
theorem dX6_tells_283 : decode cX6_tells 283 = .ok (.iinc 8 1, 3) := by decide +kernel
theorem dX6_tells_286 : decode cX6_tells 286 = .ok (.iload 10, 2) := by decide +kernel
theorem dX6_tells_288 : decode cX6_tells 288 = .ok (.istore 9, 2) := by decide +kernel
theorem dX6_tells_290 : decode cX6_tells 290 = .ok (.iinc 10 (-1), 3) := by decide +kernel
theorem dX6_tells_293 : decode cX6_tells 293 = .ok (.goto (-54), 3) := by decide +kernel
theorem dX6_tells_296 : decode cX6_tells 296 = .ok (.aload_n 0, 1) := by decide +kernel
theorem dX6_tells_297 : decode cX6_tells 297 = .ok (.iload 4, 2) := by decide +kernel
theorem dX6_tells_299 : decode cX6_tells 299 = .ok (.iload_n 2, 1) := by decide +kernel
theorem dX6_tells_300 : decode cX6_tells 300 = .ok (.iload 5, 2) := by decide +kernel
theorem dX6_tells_302 : decode cX6_tells 302 = .ok (.invokevirtual 101, 3) := by decide +kernel
theorem dX6_tells_305 : decode cX6_tells 305 = .ok (.iload_n 3, 1) := by decide +kernel
theorem dX6_tells_306 : decode cX6_tells 306 = .ok (.iconst 3, 1) := by decide +kernel
theorem dX6_tells_307 : decode cX6_tells 307 = .ok (.if_icmp .ne 8, 3) := by decide +kernel
theorem dX6_tells_310 : decode cX6_tells 310 = .ok (.iload 8, 2) := by decide +kernel
theorem dX6_tells_312 : decode cX6_tells 312 = .ok (.goto 15, 3) := by decide +kernel
theorem dX6_tells_315 : decode cX6_tells 315 = .ok (.iload_n 3, 1) := by decide +kernel
theorem dX6_tells_316 : decode cX6_tells 316 = .ok (.iconst 4, 1) := by decide +kernel
theorem dX6_tells_317 : decode cX6_tells 317 = .ok (.if_icmp .ne 8, 3) := by decide +kernel
theorem dX6_tells_320 : decode cX6_tells 320 = .ok (.iload 9, 2) := by decide +kernel
theorem dX6_tells_322 : decode cX6_tells 322 = .ok (.goto 5, 3) := by decide +kernel
theorem dX6_tells_325 : decode cX6_tells 325 = .ok (.iload 7, 2) := by decide +kernel
theorem dX6_tells_327 : decode cX6_tells 327 = .ok (.ireturn, 1) := by decide +kernel
theorem dX6_film_0 : decode cX6_film 0 = .ok (.iload_n 1, 1) := by decide +kernel
theorem dX6_film_1 : decode cX6_film 1 = .ok (.invokestatic 409, 3) := by decide +kernel
theorem dX6_film_4 : decode cX6_film 4 = .ok (.ifCond .eq 23, 3) := by decide +kernel
theorem dX6_film_7 : decode cX6_film 7 = .ok (.aload_n 0, 1) := by decide +kernel
theorem dX6_film_8 : decode cX6_film 8 = .ok (.iload_n 2, 1) := by decide +kernel
theorem dX6_film_9 : decode cX6_film 9 = .ok (.invokevirtual 84, 3) := by decide +kernel
theorem dX6_film_12 : decode cX6_film 12 = .ok (.ifCond .eq 15, 3) := by decide +kernel
theorem dX6_film_15 : decode cX6_film 15 = .ok (.iload_n 3, 1) := by decide +kernel
theorem dX6_film_16 : decode cX6_film 16 = .ok (.i2l, 1) := by decide +kernel
theorem dX6_film_17 : decode cX6_film 17 = .ok (.lconst 0, 1) := by decide +kernel
theorem dX6_film_18 : decode cX6_film 18 = .ok (.ldc2_w 415, 3) := by decide +kernel
theorem dX6_film_21 : decode cX6_film 21 = .ok (.invokestatic 73, 3) := by decide +kernel
theorem dX6_film_24 : decode cX6_film 24 = .ok (.ifCond .ne 6, 3) := by decide +kernel
theorem dX6_film_27 : decode cX6_film 27 = .ok (.bipush (-2), 2) := by decide +kernel
theorem dX6_film_29 : decode cX6_film 29 = .ok (.ireturn, 1) := by decide +kernel
theorem dX6_film_30 : decode cX6_film 30 = .ok (.aload_n 0, 1) := by decide +kernel
theorem dX6_film_31 : decode cX6_film 31 = .ok (.iload_n 1, 1) := by decide +kernel
theorem dX6_film_32 : decode cX6_film 32 = .ok (.iconst 0, 1) := by decide +kernel
theorem dX6_film_33 : decode cX6_film 33 = .ok (.iload_n 3, 1) := by decide +kernel
theorem dX6_film_34 : decode cX6_film 34 = .ok (.invokevirtual 417, 3) := by decide +kernel
theorem dX6_film_37 : decode cX6_film 37 = .ok (.pop, 1) := by decide +kernel
theorem dX6_film_38 : decode cX6_film 38 = .ok (.aload_n 0, 1) := by decide +kernel
theorem dX6_film_39 : decode cX6_film 39 = .ok (.getfield 23, 3) := by decide +kernel
theorem dX6_film_42 : decode cX6_film 42 = .ok (.iconst 0, 1) := by decide +kernel
theorem dX6_film_43 : decode cX6_film 43 = .ok (.iaload, 1) := by decide +kernel
theorem dX6_film_44 : decode cX6_film 44 = .ok (.istore 4, 2) := by decide +kernel
theorem dX6_film_46 : decode cX6_film 46 = .ok (.iconst 0, 1) := by decide +kernel
theorem dX6_film_47 : decode cX6_film 47 = .ok (.istore 5, 2) := by decide +kernel
theorem dX6_film_49 : decode cX6_film 49 = .ok (.iload 5, 2) := by decide +kernel
theorem dX6_film_51 : decode cX6_film 51 = .ok (.iload_n 3, 1) := by decide +kernel
theorem dX6_film_52 : decode cX6_film 52 = .ok (.if_icmp .ge 38, 3) := by decide +kernel
theorem dX6_film_55 : decode cX6_film 55 = .ok (.aload_n 0, 1) := by decide +kernel
theorem dX6_film_56 : decode cX6_film 56 = .ok (.getfield 23, 3) := by decide +kernel
theorem dX6_film_59 : decode cX6_film 59 = .ok (.iconst 0, 1) := by decide +kernel
theorem dX6_film_60 : decode cX6_film 60 = .ok (.iload 4, 2) := by decide +kernel
theorem dX6_film_62 : decode cX6_film 62 = .ok (.iload 5, 2) := by decide +kernel
theorem dX6_film_64 : decode cX6_film 64 = .ok (.iadd, 1) := by decide +kernel
theorem dX6_film_65 : decode cX6_film 65 = .ok (.iastore, 1) := by decide +kernel
theorem dX6_film_66 : decode cX6_film 66 = .ok (.aload_n 0, 1) := by decide +kernel
theorem dX6_film_67 : decode cX6_film 67 = .ok (.getfield 60, 3) := by decide +kernel
theorem dX6_film_70 : decode cX6_film 70 = .ok (.bipush 40, 2) := by decide +kernel
theorem dX6_film_72 : decode cX6_film 72 = .ok (.iload_n 1, 1) := by decide +kernel
theorem dX6_film_73 : decode cX6_film 73 = .ok (.imul, 1) := by decide +kernel
theorem dX6_film_74 : decode cX6_film 74 = .ok (.iload 5, 2) := by decide +kernel
theorem dX6_film_76 : decode cX6_film 76 = .ok (.iadd, 1) := by decide +kernel
theorem dX6_film_77 : decode cX6_film 77 = .ok (.aload_n 0, 1) := by decide +kernel
theorem dX6_film_78 : decode cX6_film 78 = .ok (.iload_n 2, 1) := by decide +kernel
theorem dX6_film_79 : decode cX6_film 79 = .ok (.iconst 0, 1) := by decide +kernel
theorem dX6_film_80 : decode cX6_film 80 = .ok (.invokevirtual 127, 3) := by decide +kernel
theorem dX6_film_83 : decode cX6_film 83 = .ok (.iastore, 1) := by decide +kernel
theorem dX6_film_84 : decode cX6_film 84 = .ok (.iinc 5 1, 3) := by decide +kernel
theorem dX6_film_87 : decode cX6_film 87 = .ok (.goto (-38), 3) := by decide +kernel
theorem dX6_film_90 : decode cX6_film 90 = .ok (.aload_n 0, 1) := by decide +kernel
theorem dX6_film_91 : decode cX6_film 91 = .ok (.getfield 23, 3) := by decide +kernel
theorem dX6_film_94 : decode cX6_film 94 = .ok (.iconst 0, 1) := by decide +kernel
theorem dX6_film_95 : decode cX6_film 95 = .ok (.iload 4, 2) := by decide +kernel
theorem dX6_film_97 : decode cX6_film 97 = .ok (.iastore, 1) := by decide +kernel
theorem dX6_film_98 : decode cX6_film 98 = .ok (.iload_n 3, 1) := by decide +kernel
theorem dX6_film_99 : decode cX6_film 99 = .ok (.ireturn, 1) := by decide +kernel
theorem dX6_leftDrawn_0 : decode cX6_leftDrawn 0 = .ok (.aload_n 0, 1) := by decide +kernel
theorem dX6_leftDrawn_1 : decode cX6_leftDrawn 1 = .ok (.invokevirtual 363, 3) := by decide +kernel
theorem dX6_leftDrawn_4 : decode cX6_leftDrawn 4 = .ok (.iload_n 1, 1) := by decide +kernel
theorem dX6_leftDrawn_5 : decode cX6_leftDrawn 5 = .ok (.istore_n 3, 1) := by decide +kernel
theorem dX6_leftDrawn_6 : decode cX6_leftDrawn 6 = .ok (.iconst 0, 1) := by decide +kernel
theorem dX6_leftDrawn_7 : decode cX6_leftDrawn 7 = .ok (.istore 4, 2) := by decide +kernel
theorem dX6_leftDrawn_9 : decode cX6_leftDrawn 9 = .ok (.iload 4, 2) := by decide +kernel
theorem dX6_leftDrawn_11 : decode cX6_leftDrawn 11 = .ok (.iload_n 2, 1) := by decide +kernel
theorem dX6_leftDrawn_12 : decode cX6_leftDrawn 12 = .ok (.if_icmp .ge 39, 3) := by decide +kernel
theorem dX6_leftDrawn_15 : decode cX6_leftDrawn 15 = .ok (.iload_n 3, 1) := by decide +kernel
theorem dX6_leftDrawn_16 : decode cX6_leftDrawn 16 = .ok (.ldc_w 420, 3) := by decide +kernel
theorem dX6_leftDrawn_19 : decode cX6_leftDrawn 19 = .ok (.imul, 1) := by decide +kernel
theorem dX6_leftDrawn_20 : decode cX6_leftDrawn 20 = .ok (.sipush 12345, 3) := by decide +kernel
theorem dX6_leftDrawn_23 : decode cX6_leftDrawn 23 = .ok (.iadd, 1) := by decide +kernel
theorem dX6_leftDrawn_24 : decode cX6_leftDrawn 24 = .ok (.istore_n 3, 1) := by decide +kernel
theorem dX6_leftDrawn_25 : decode cX6_leftDrawn 25 = .ok (.aload_n 0, 1) := by decide +kernel
theorem dX6_leftDrawn_26 : decode cX6_leftDrawn 26 = .ok (.iload_n 3, 1) := by decide +kernel
theorem dX6_leftDrawn_27 : decode cX6_leftDrawn 27 = .ok (.bipush 9, 2) := by decide +kernel
theorem dX6_leftDrawn_29 : decode cX6_leftDrawn 29 = .ok (.iushr, 1) := by decide +kernel
theorem dX6_leftDrawn_30 : decode cX6_leftDrawn 30 = .ok (.iconst 2, 1) := by decide +kernel
theorem dX6_leftDrawn_31 : decode cX6_leftDrawn 31 = .ok (.irem, 1) := by decide +kernel
theorem dX6_leftDrawn_32 : decode cX6_leftDrawn 32 = .ok (.iconst 1, 1) := by decide +kernel
theorem dX6_leftDrawn_33 : decode cX6_leftDrawn 33 = .ok (.if_icmp .ne 7, 3) := by decide +kernel
theorem dX6_leftDrawn_36 : decode cX6_leftDrawn 36 = .ok (.iconst 1, 1) := by decide +kernel
theorem dX6_leftDrawn_37 : decode cX6_leftDrawn 37 = .ok (.goto 4, 3) := by decide +kernel
theorem dX6_leftDrawn_40 : decode cX6_leftDrawn 40 = .ok (.iconst 0, 1) := by decide +kernel
theorem dX6_leftDrawn_41 : decode cX6_leftDrawn 41 = .ok (.invokevirtual 356, 3) := by decide +kernel
theorem dX6_leftDrawn_44 : decode cX6_leftDrawn 44 = .ok (.pop, 1) := by decide +kernel
theorem dX6_leftDrawn_45 : decode cX6_leftDrawn 45 = .ok (.iinc 4 1, 3) := by decide +kernel
theorem dX6_leftDrawn_48 : decode cX6_leftDrawn 48 = .ok (.goto (-39), 3) := by decide +kernel
theorem dX6_leftDrawn_51 : decode cX6_leftDrawn 51 = .ok (.aload_n 0, 1) := by decide +kernel
theorem dX6_leftDrawn_52 : decode cX6_leftDrawn 52 = .ok (.invokevirtual 134, 3) := by decide +kernel
theorem dX6_leftDrawn_55 : decode cX6_leftDrawn 55 = .ok (.istore 4, 2) := by decide +kernel
theorem dX6_leftDrawn_57 : decode cX6_leftDrawn 57 = .ok (.aload_n 0, 1) := by decide +kernel
theorem dX6_leftDrawn_58 : decode cX6_leftDrawn 58 = .ok (.invokevirtual 372, 3) := by decide +kernel
theorem dX6_leftDrawn_61 : decode cX6_leftDrawn 61 = .ok (.iload 4, 2) := by decide +kernel
theorem dX6_leftDrawn_63 : decode cX6_leftDrawn 63 = .ok (.ireturn, 1) := by decide +kernel
theorem dX6_drawn_0 : decode cX6_drawn 0 = .ok (.iload_n 2, 1) := by decide +kernel
theorem dX6_drawn_1 : decode cX6_drawn 1 = .ok (.i2l, 1) := by decide +kernel
theorem dX6_drawn_2 : decode cX6_drawn 2 = .ok (.lconst 0, 1) := by decide +kernel
theorem dX6_drawn_3 : decode cX6_drawn 3 = .ok (.ldc2_w 359, 3) := by decide +kernel
theorem dX6_drawn_6 : decode cX6_drawn 6 = .ok (.invokestatic 73, 3) := by decide +kernel
theorem dX6_drawn_9 : decode cX6_drawn 9 = .ok (.ifCond .eq 12, 3) := by decide +kernel
theorem dX6_drawn_12 : decode cX6_drawn 12 = .ok (.aload_n 0, 1) := by decide +kernel
theorem dX6_drawn_13 : decode cX6_drawn 13 = .ok (.iload_n 1, 1) := by decide +kernel
theorem dX6_drawn_14 : decode cX6_drawn 14 = .ok (.iload_n 2, 1) := by decide +kernel
theorem dX6_drawn_15 : decode cX6_drawn 15 = .ok (.invokevirtual 421, 3) := by decide +kernel
theorem dX6_drawn_18 : decode cX6_drawn 18 = .ok (.goto 5, 3) := by decide +kernel
theorem dX6_drawn_21 : decode cX6_drawn 21 = .ok (.bipush (-2), 2) := by decide +kernel
theorem dX6_drawn_23 : decode cX6_drawn 23 = .ok (.ireturn, 1) := by decide +kernel
theorem dX6_chance_0 : decode cX6_chance 0 = .ok (.iload_n 2, 1) := by decide +kernel
theorem dX6_chance_1 : decode cX6_chance 1 = .ok (.i2l, 1) := by decide +kernel
theorem dX6_chance_2 : decode cX6_chance 2 = .ok (.lconst 1, 1) := by decide +kernel
theorem dX6_chance_3 : decode cX6_chance 3 = .ok (.ldc2_w 415, 3) := by decide +kernel
theorem dX6_chance_6 : decode cX6_chance 6 = .ok (.invokestatic 73, 3) := by decide +kernel
theorem dX6_chance_9 : decode cX6_chance 9 = .ok (.ifCond .eq 26, 3) := by decide +kernel
theorem dX6_chance_12 : decode cX6_chance 12 = .ok (.iload_n 3, 1) := by decide +kernel
theorem dX6_chance_13 : decode cX6_chance 13 = .ok (.i2l, 1) := by decide +kernel
theorem dX6_chance_14 : decode cX6_chance 14 = .ok (.lconst 0, 1) := by decide +kernel
theorem dX6_chance_15 : decode cX6_chance 15 = .ok (.ldc2_w 424, 3) := by decide +kernel
theorem dX6_chance_18 : decode cX6_chance 18 = .ok (.invokestatic 73, 3) := by decide +kernel
theorem dX6_chance_21 : decode cX6_chance 21 = .ok (.ifCond .eq 14, 3) := by decide +kernel
theorem dX6_chance_24 : decode cX6_chance 24 = .ok (.iload 4, 2) := by decide +kernel
theorem dX6_chance_26 : decode cX6_chance 26 = .ok (.i2l, 1) := by decide +kernel
theorem dX6_chance_27 : decode cX6_chance 27 = .ok (.lconst 0, 1) := by decide +kernel
theorem dX6_chance_28 : decode cX6_chance 28 = .ok (.lconst 1, 1) := by decide +kernel
theorem dX6_chance_29 : decode cX6_chance 29 = .ok (.invokestatic 73, 3) := by decide +kernel
theorem dX6_chance_32 : decode cX6_chance 32 = .ok (.ifCond .ne 7, 3) := by decide +kernel
theorem dX6_chance_35 : decode cX6_chance 35 = .ok (.ldc2_w 404, 3) := by decide +kernel
theorem dX6_chance_38 : decode cX6_chance 38 = .ok (.lreturn, 1) := by decide +kernel
theorem dX6_chance_39 : decode cX6_chance 39 = .ok (.lconst 0, 1) := by decide +kernel
theorem dX6_chance_40 : decode cX6_chance 40 = .ok (.lstore 5, 2) := by decide +kernel
theorem dX6_chance_42 : decode cX6_chance 42 = .ok (.iconst 0, 1) := by decide +kernel
theorem dX6_chance_43 : decode cX6_chance 43 = .ok (.istore 7, 2) := by decide +kernel
theorem dX6_chance_45 : decode cX6_chance 45 = .ok (.iload 7, 2) := by decide +kernel
theorem dX6_chance_47 : decode cX6_chance 47 = .ok (.iload_n 2, 1) := by decide +kernel
theorem dX6_chance_48 : decode cX6_chance 48 = .ok (.if_icmp .ge 32, 3) := by decide +kernel
theorem dX6_chance_51 : decode cX6_chance 51 = .ok (.lload 5, 2) := by decide +kernel
theorem dX6_chance_53 : decode cX6_chance 53 = .ok (.aload_n 0, 1) := by decide +kernel
theorem dX6_chance_54 : decode cX6_chance 54 = .ok (.iload_n 1, 1) := by decide +kernel
theorem dX6_chance_55 : decode cX6_chance 55 = .ok (.iload 7, 2) := by decide +kernel
theorem dX6_chance_57 : decode cX6_chance 57 = .ok (.iadd, 1) := by decide +kernel
theorem dX6_chance_58 : decode cX6_chance 58 = .ok (.iconst 5, 1) := by decide +kernel
theorem dX6_chance_59 : decode cX6_chance 59 = .ok (.invokevirtual 421, 3) := by decide +kernel
theorem dX6_chance_62 : decode cX6_chance 62 = .ok (.iload_n 3, 1) := by decide +kernel
theorem dX6_chance_63 : decode cX6_chance 63 = .ok (.if_icmp .gt 7, 3) := by decide +kernel
theorem dX6_chance_66 : decode cX6_chance 66 = .ok (.lconst 1, 1) := by decide +kernel
theorem dX6_chance_67 : decode cX6_chance 67 = .ok (.goto 4, 3) := by decide +kernel
theorem dX6_chance_70 : decode cX6_chance 70 = .ok (.lconst 0, 1) := by decide +kernel
theorem dX6_chance_71 : decode cX6_chance 71 = .ok (.ladd, 1) := by decide +kernel
theorem dX6_chance_72 : decode cX6_chance 72 = .ok (.lstore 5, 2) := by decide +kernel
theorem dX6_chance_74 : decode cX6_chance 74 = .ok (.iinc 7 1, 3) := by decide +kernel
theorem dX6_chance_77 : decode cX6_chance 77 = .ok (.goto (-32), 3) := by decide +kernel
theorem dX6_chance_80 : decode cX6_chance 80 = .ok (.lload 5, 2) := by decide +kernel
theorem dX6_chance_82 : decode cX6_chance 82 = .ok (.iload_n 2, 1) := by decide +kernel
theorem dX6_chance_83 : decode cX6_chance 83 = .ok (.i2l, 1) := by decide +kernel
theorem dX6_chance_84 : decode cX6_chance 84 = .ok (.iload 4, 2) := by decide +kernel
theorem dX6_chance_86 : decode cX6_chance 86 = .ok (.invokestatic 400, 3) := by decide +kernel
theorem dX6_chance_89 : decode cX6_chance 89 = .ok (.lreturn, 1) := by decide +kernel
theorem dX6_image_0 : decode cX6_image 0 = .ok (.iconst 0, 1) := by decide +kernel
theorem dX6_image_1 : decode cX6_image 1 = .ok (.istore_n 1, 1) := by decide +kernel
theorem dX6_image_2 : decode cX6_image 2 = .ok (.iload_n 1, 1) := by decide +kernel
theorem dX6_image_3 : decode cX6_image 3 = .ok (.iconst 5, 1) := by decide +kernel
theorem dX6_image_4 : decode cX6_image 4 = .ok (.if_icmp .ge 21, 3) := by decide +kernel
theorem dX6_image_7 : decode cX6_image 7 = .ok (.aload_n 0, 1) := by decide +kernel
theorem dX6_image_8 : decode cX6_image 8 = .ok (.getfield 38, 3) := by decide +kernel
theorem dX6_image_11 : decode cX6_image 11 = .ok (.iload_n 1, 1) := by decide +kernel
theorem dX6_image_12 : decode cX6_image 12 = .ok (.aload_n 0, 1) := by decide +kernel
theorem dX6_image_13 : decode cX6_image 13 = .ok (.getfield 23, 3) := by decide +kernel
theorem dX6_image_16 : decode cX6_image 16 = .ok (.iload_n 1, 1) := by decide +kernel
theorem dX6_image_17 : decode cX6_image 17 = .ok (.iaload, 1) := by decide +kernel
theorem dX6_image_18 : decode cX6_image 18 = .ok (.iastore, 1) := by decide +kernel
theorem dX6_image_19 : decode cX6_image 19 = .ok (.iinc 1 1, 3) := by decide +kernel
theorem dX6_image_22 : decode cX6_image 22 = .ok (.goto (-20), 3) := by decide +kernel
theorem dX6_image_25 : decode cX6_image 25 = .ok (.iconst 0, 1) := by decide +kernel
theorem dX6_image_26 : decode cX6_image 26 = .ok (.istore_n 1, 1) := by decide +kernel
theorem dX6_image_27 : decode cX6_image 27 = .ok (.iload_n 1, 1) := by decide +kernel
theorem dX6_image_28 : decode cX6_image 28 = .ok (.bipush 24, 2) := by decide +kernel
theorem dX6_image_30 : decode cX6_image 30 = .ok (.if_icmp .ge 21, 3) := by decide +kernel
theorem dX6_image_33 : decode cX6_image 33 = .ok (.aload_n 0, 1) := by decide +kernel
theorem dX6_image_34 : decode cX6_image 34 = .ok (.getfield 41, 3) := by decide +kernel
theorem dX6_image_37 : decode cX6_image 37 = .ok (.iload_n 1, 1) := by decide +kernel
theorem dX6_image_38 : decode cX6_image 38 = .ok (.aload_n 0, 1) := by decide +kernel
theorem dX6_image_39 : decode cX6_image 39 = .ok (.getfield 26, 3) := by decide +kernel
theorem dX6_image_42 : decode cX6_image 42 = .ok (.iload_n 1, 1) := by decide +kernel
theorem dX6_image_43 : decode cX6_image 43 = .ok (.iaload, 1) := by decide +kernel
theorem dX6_image_44 : decode cX6_image 44 = .ok (.iastore, 1) := by decide +kernel
theorem dX6_image_45 : decode cX6_image 45 = .ok (.iinc 1 1, 3) := by decide +kernel
theorem dX6_image_48 : decode cX6_image 48 = .ok (.goto (-21), 3) := by decide +kernel
theorem dX6_image_51 : decode cX6_image 51 = .ok (.iconst 0, 1) := by decide +kernel
theorem dX6_image_52 : decode cX6_image 52 = .ok (.istore_n 1, 1) := by decide +kernel
theorem dX6_image_53 : decode cX6_image 53 = .ok (.iload_n 1, 1) := by decide +kernel
theorem dX6_image_54 : decode cX6_image 54 = .ok (.bipush 15, 2) := by decide +kernel
theorem dX6_image_56 : decode cX6_image 56 = .ok (.if_icmp .ge 21, 3) := by decide +kernel
theorem dX6_image_59 : decode cX6_image 59 = .ok (.aload_n 0, 1) := by decide +kernel
theorem dX6_image_60 : decode cX6_image 60 = .ok (.getfield 44, 3) := by decide +kernel
theorem dX6_image_63 : decode cX6_image 63 = .ok (.iload_n 1, 1) := by decide +kernel
theorem dX6_image_64 : decode cX6_image 64 = .ok (.aload_n 0, 1) := by decide +kernel
theorem dX6_image_65 : decode cX6_image 65 = .ok (.getfield 29, 3) := by decide +kernel
theorem dX6_image_68 : decode cX6_image 68 = .ok (.iload_n 1, 1) := by decide +kernel
theorem dX6_image_69 : decode cX6_image 69 = .ok (.iaload, 1) := by decide +kernel
theorem dX6_image_70 : decode cX6_image 70 = .ok (.iastore, 1) := by decide +kernel
theorem dX6_image_71 : decode cX6_image 71 = .ok (.iinc 1 1, 3) := by decide +kernel
theorem dX6_image_74 : decode cX6_image 74 = .ok (.goto (-21), 3) := by decide +kernel
theorem dX6_image_77 : decode cX6_image 77 = .ok (.aload_n 0, 1) := by decide +kernel
theorem dX6_image_78 : decode cX6_image 78 = .ok (.aload_n 0, 1) := by decide +kernel
theorem dX6_image_79 : decode cX6_image 79 = .ok (.getfield 77, 3) := by decide +kernel
theorem dX6_image_82 : decode cX6_image 82 = .ok (.putfield 47, 3) := by decide +kernel
theorem dX6_image_85 : decode cX6_image 85 = .ok (.aload_n 0, 1) := by decide +kernel
theorem dX6_image_86 : decode cX6_image 86 = .ok (.aload_n 0, 1) := by decide +kernel
theorem dX6_image_87 : decode cX6_image 87 = .ok (.getfield 70, 3) := by decide +kernel
theorem dX6_image_90 : decode cX6_image 90 = .ok (.putfield 426, 3) := by decide +kernel
theorem dX6_image_93 : decode cX6_image 93 = .ok (.aload_n 0, 1) := by decide +kernel
theorem dX6_image_94 : decode cX6_image 94 = .ok (.aload_n 0, 1) := by decide +kernel
theorem dX6_image_95 : decode cX6_image 95 = .ok (.getfield 105, 3) := by decide +kernel
theorem dX6_image_98 : decode cX6_image 98 = .ok (.putfield 429, 3) := by decide +kernel
theorem dX6_image_101 : decode cX6_image 101 = .ok (.aload_n 0, 1) := by decide +kernel
theorem dX6_image_102 : decode cX6_image 102 = .ok (.getfield 77, 3) := by decide +kernel
theorem dX6_image_105 : decode cX6_image 105 = .ok (.ireturn, 1) := by decide +kernel
theorem dX6_back_0 : decode cX6_back 0 = .ok (.aload_n 0, 1) := by decide +kernel
theorem dX6_back_1 : decode cX6_back 1 = .ok (.getfield 47, 3) := by decide +kernel
theorem dX6_back_4 : decode cX6_back 4 = .ok (.iconst (-1), 1) := by decide +kernel
theorem dX6_back_5 : decode cX6_back 5 = .ok (.if_icmp .ne 6, 3) := by decide +kernel
theorem dX6_back_8 : decode cX6_back 8 = .ok (.bipush (-3), 2) := by decide +kernel
theorem dX6_back_10 : decode cX6_back 10 = .ok (.ireturn, 1) := by decide +kernel
theorem dX6_back_11 : decode cX6_back 11 = .ok (.iconst 0, 1) := by decide +kernel
theorem dX6_back_12 : decode cX6_back 12 = .ok (.istore_n 1, 1) := by decide +kernel
theorem dX6_back_13 : decode cX6_back 13 = .ok (.iload_n 1, 1) := by decide +kernel
theorem dX6_back_14 : decode cX6_back 14 = .ok (.iconst 5, 1) := by decide +kernel
theorem dX6_back_15 : decode cX6_back 15 = .ok (.if_icmp .ge 21, 3) := by decide +kernel
theorem dX6_back_18 : decode cX6_back 18 = .ok (.aload_n 0, 1) := by decide +kernel
theorem dX6_back_19 : decode cX6_back 19 = .ok (.getfield 23, 3) := by decide +kernel
theorem dX6_back_22 : decode cX6_back 22 = .ok (.iload_n 1, 1) := by decide +kernel
theorem dX6_back_23 : decode cX6_back 23 = .ok (.aload_n 0, 1) := by decide +kernel
theorem dX6_back_24 : decode cX6_back 24 = .ok (.getfield 38, 3) := by decide +kernel
theorem dX6_back_27 : decode cX6_back 27 = .ok (.iload_n 1, 1) := by decide +kernel
theorem dX6_back_28 : decode cX6_back 28 = .ok (.iaload, 1) := by decide +kernel
theorem dX6_back_29 : decode cX6_back 29 = .ok (.iastore, 1) := by decide +kernel
theorem dX6_back_30 : decode cX6_back 30 = .ok (.iinc 1 1, 3) := by decide +kernel
theorem dX6_back_33 : decode cX6_back 33 = .ok (.goto (-20), 3) := by decide +kernel
theorem dX6_back_36 : decode cX6_back 36 = .ok (.iconst 0, 1) := by decide +kernel
theorem dX6_back_37 : decode cX6_back 37 = .ok (.istore_n 1, 1) := by decide +kernel
theorem dX6_back_38 : decode cX6_back 38 = .ok (.iload_n 1, 1) := by decide +kernel
theorem dX6_back_39 : decode cX6_back 39 = .ok (.bipush 24, 2) := by decide +kernel
theorem dX6_back_41 : decode cX6_back 41 = .ok (.if_icmp .ge 21, 3) := by decide +kernel
theorem dX6_back_44 : decode cX6_back 44 = .ok (.aload_n 0, 1) := by decide +kernel
theorem dX6_back_45 : decode cX6_back 45 = .ok (.getfield 26, 3) := by decide +kernel
theorem dX6_back_48 : decode cX6_back 48 = .ok (.iload_n 1, 1) := by decide +kernel
theorem dX6_back_49 : decode cX6_back 49 = .ok (.aload_n 0, 1) := by decide +kernel
theorem dX6_back_50 : decode cX6_back 50 = .ok (.getfield 41, 3) := by decide +kernel
theorem dX6_back_53 : decode cX6_back 53 = .ok (.iload_n 1, 1) := by decide +kernel
theorem dX6_back_54 : decode cX6_back 54 = .ok (.iaload, 1) := by decide +kernel
theorem dX6_back_55 : decode cX6_back 55 = .ok (.iastore, 1) := by decide +kernel
theorem dX6_back_56 : decode cX6_back 56 = .ok (.iinc 1 1, 3) := by decide +kernel
theorem dX6_back_59 : decode cX6_back 59 = .ok (.goto (-21), 3) := by decide +kernel
theorem dX6_back_62 : decode cX6_back 62 = .ok (.iconst 0, 1) := by decide +kernel
theorem dX6_back_63 : decode cX6_back 63 = .ok (.istore_n 1, 1) := by decide +kernel
theorem dX6_back_64 : decode cX6_back 64 = .ok (.iload_n 1, 1) := by decide +kernel
theorem dX6_back_65 : decode cX6_back 65 = .ok (.bipush 15, 2) := by decide +kernel
theorem dX6_back_67 : decode cX6_back 67 = .ok (.if_icmp .ge 21, 3) := by decide +kernel
theorem dX6_back_70 : decode cX6_back 70 = .ok (.aload_n 0, 1) := by decide +kernel
theorem dX6_back_71 : decode cX6_back 71 = .ok (.getfield 29, 3) := by decide +kernel
theorem dX6_back_74 : decode cX6_back 74 = .ok (.iload_n 1, 1) := by decide +kernel
theorem dX6_back_75 : decode cX6_back 75 = .ok (.aload_n 0, 1) := by decide +kernel
theorem dX6_back_76 : decode cX6_back 76 = .ok (.getfield 44, 3) := by decide +kernel
theorem dX6_back_79 : decode cX6_back 79 = .ok (.iload_n 1, 1) := by decide +kernel
theorem dX6_back_80 : decode cX6_back 80 = .ok (.iaload, 1) := by decide +kernel
theorem dX6_back_81 : decode cX6_back 81 = .ok (.iastore, 1) := by decide +kernel
theorem dX6_back_82 : decode cX6_back 82 = .ok (.iinc 1 1, 3) := by decide +kernel
theorem dX6_back_85 : decode cX6_back 85 = .ok (.goto (-21), 3) := by decide +kernel
theorem dX6_back_88 : decode cX6_back 88 = .ok (.aload_n 0, 1) := by decide +kernel
theorem dX6_back_89 : decode cX6_back 89 = .ok (.aload_n 0, 1) := by decide +kernel
theorem dX6_back_90 : decode cX6_back 90 = .ok (.getfield 47, 3) := by decide +kernel
theorem dX6_back_93 : decode cX6_back 93 = .ok (.putfield 77, 3) := by decide +kernel
theorem dX6_back_96 : decode cX6_back 96 = .ok (.aload_n 0, 1) := by decide +kernel
theorem dX6_back_97 : decode cX6_back 97 = .ok (.aload_n 0, 1) := by decide +kernel
theorem dX6_back_98 : decode cX6_back 98 = .ok (.getfield 426, 3) := by decide +kernel
theorem dX6_back_101 : decode cX6_back 101 = .ok (.putfield 70, 3) := by decide +kernel
theorem dX6_back_104 : decode cX6_back 104 = .ok (.aload_n 0, 1) := by decide +kernel
theorem dX6_back_105 : decode cX6_back 105 = .ok (.aload_n 0, 1) := by decide +kernel
theorem dX6_back_106 : decode cX6_back 106 = .ok (.getfield 429, 3) := by decide +kernel
theorem dX6_back_109 : decode cX6_back 109 = .ok (.putfield 105, 3) := by decide +kernel
theorem dX6_back_112 : decode cX6_back 112 = .ok (.aload_n 0, 1) := by decide +kernel
theorem dX6_back_113 : decode cX6_back 113 = .ok (.getfield 77, 3) := by decide +kernel
theorem dX6_back_116 : decode cX6_back 116 = .ok (.ireturn, 1) := by decide +kernel
theorem dX6_count_0 : decode cX6_count 0 = .ok (.iload_n 1, 1) := by decide +kernel
theorem dX6_count_1 : decode cX6_count 1 = .ok (.i2l, 1) := by decide +kernel
theorem dX6_count_2 : decode cX6_count 2 = .ok (.lconst 0, 1) := by decide +kernel
theorem dX6_count_3 : decode cX6_count 3 = .ok (.ldc2_w 110, 3) := by decide +kernel
theorem dX6_count_6 : decode cX6_count 6 = .ok (.invokestatic 73, 3) := by decide +kernel
theorem dX6_count_9 : decode cX6_count 9 = .ok (.ifCond .ne 6, 3) := by decide +kernel
theorem dX6_count_12 : decode cX6_count 12 = .ok (.bipush (-2), 2) := by decide +kernel
theorem dX6_count_14 : decode cX6_count 14 = .ok (.ireturn, 1) := by decide +kernel
theorem dX6_count_15 : decode cX6_count 15 = .ok (.iload_n 1, 1) := by decide +kernel
theorem dX6_count_16 : decode cX6_count 16 = .ok (.ifCond .ne 10, 3) := by decide +kernel
theorem dX6_count_19 : decode cX6_count 19 = .ok (.aload_n 0, 1) := by decide +kernel
theorem dX6_count_20 : decode cX6_count 20 = .ok (.getfield 77, 3) := by decide +kernel
theorem dX6_count_23 : decode cX6_count 23 = .ok (.goto 57, 3) := by decide +kernel
theorem dX6_count_26 : decode cX6_count 26 = .ok (.iload_n 1, 1) := by decide +kernel
theorem dX6_count_27 : decode cX6_count 27 = .ok (.iconst 1, 1) := by decide +kernel
theorem dX6_count_28 : decode cX6_count 28 = .ok (.if_icmp .ne 10, 3) := by decide +kernel
theorem dX6_count_31 : decode cX6_count 31 = .ok (.aload_n 0, 1) := by decide +kernel
theorem dX6_count_32 : decode cX6_count 32 = .ok (.getfield 70, 3) := by decide +kernel
theorem dX6_count_35 : decode cX6_count 35 = .ok (.goto 45, 3) := by decide +kernel
theorem dX6_count_38 : decode cX6_count 38 = .ok (.iload_n 1, 1) := by decide +kernel
theorem dX6_count_39 : decode cX6_count 39 = .ok (.iconst 2, 1) := by decide +kernel
theorem dX6_count_40 : decode cX6_count 40 = .ok (.if_icmp .ne 12, 3) := by decide +kernel
theorem dX6_count_43 : decode cX6_count 43 = .ok (.aload_n 0, 1) := by decide +kernel
theorem dX6_count_44 : decode cX6_count 44 = .ok (.getfield 23, 3) := by decide +kernel
theorem dX6_count_47 : decode cX6_count 47 = .ok (.iconst 0, 1) := by decide +kernel
theorem dX6_count_48 : decode cX6_count 48 = .ok (.iaload, 1) := by decide +kernel
theorem dX6_count_49 : decode cX6_count 49 = .ok (.goto 31, 3) := by decide +kernel
theorem dX6_count_52 : decode cX6_count 52 = .ok (.iload_n 1, 1) := by decide +kernel
theorem dX6_count_53 : decode cX6_count 53 = .ok (.iconst 3, 1) := by decide +kernel
theorem dX6_count_54 : decode cX6_count 54 = .ok (.if_icmp .ne 10, 3) := by decide +kernel
theorem dX6_count_57 : decode cX6_count 57 = .ok (.aload_n 0, 1) := by decide +kernel
theorem dX6_count_58 : decode cX6_count 58 = .ok (.getfield 67, 3) := by decide +kernel
theorem dX6_count_61 : decode cX6_count 61 = .ok (.goto 19, 3) := by decide +kernel
theorem dX6_count_64 : decode cX6_count 64 = .ok (.iload_n 1, 1) := by decide +kernel
theorem dX6_count_65 : decode cX6_count 65 = .ok (.iconst 4, 1) := by decide +kernel
theorem dX6_count_66 : decode cX6_count 66 = .ok (.if_icmp .ne 10, 3) := by decide +kernel
theorem dX6_count_69 : decode cX6_count 69 = .ok (.aload_n 0, 1) := by decide +kernel
theorem dX6_count_70 : decode cX6_count 70 = .ok (.getfield 139, 3) := by decide +kernel
theorem dX6_count_73 : decode cX6_count 73 = .ok (.goto 7, 3) := by decide +kernel
theorem dX6_count_76 : decode cX6_count 76 = .ok (.aload_n 0, 1) := by decide +kernel
theorem dX6_count_77 : decode cX6_count 77 = .ok (.getfield 105, 3) := by decide +kernel
theorem dX6_count_80 : decode cX6_count 80 = .ok (.ireturn, 1) := by decide +kernel
theorem dX6_isSheet_0 : decode cX6_isSheet 0 = .ok (.iload_n 0, 1) := by decide +kernel
theorem dX6_isSheet_1 : decode cX6_isSheet 1 = .ok (.i2l, 1) := by decide +kernel
theorem dX6_isSheet_2 : decode cX6_isSheet 2 = .ok (.lconst 0, 1) := by decide +kernel
theorem dX6_isSheet_3 : decode cX6_isSheet 3 = .ok (.ldc2_w 432, 3) := by decide +kernel
theorem dX6_isSheet_6 : decode cX6_isSheet 6 = .ok (.invokestatic 73, 3) := by decide +kernel
theorem dX6_isSheet_9 : decode cX6_isSheet 9 = .ok (.ireturn, 1) := by decide +kernel
theorem dX6_sheet_0 : decode cX6_sheet 0 = .ok (.iload_n 1, 1) := by decide +kernel
theorem dX6_sheet_1 : decode cX6_sheet 1 = .ok (.invokestatic 409, 3) := by decide +kernel
theorem dX6_sheet_4 : decode cX6_sheet 4 = .ok (.ifCond .eq 27, 3) := by decide +kernel
theorem dX6_sheet_7 : decode cX6_sheet 7 = .ok (.iload_n 2, 1) := by decide +kernel
theorem dX6_sheet_8 : decode cX6_sheet 8 = .ok (.i2l, 1) := by decide +kernel
theorem dX6_sheet_9 : decode cX6_sheet 9 = .ok (.ldc2_w 434, 3) := by decide +kernel
theorem dX6_sheet_12 : decode cX6_sheet 12 = .ok (.ldc2_w 379, 3) := by decide +kernel
theorem dX6_sheet_15 : decode cX6_sheet 15 = .ok (.invokestatic 73, 3) := by decide +kernel
theorem dX6_sheet_18 : decode cX6_sheet 18 = .ok (.ifCond .eq 13, 3) := by decide +kernel
theorem dX6_sheet_21 : decode cX6_sheet 21 = .ok (.iload_n 2, 1) := by decide +kernel
theorem dX6_sheet_22 : decode cX6_sheet 22 = .ok (.ifCond .lt 12, 3) := by decide +kernel
theorem dX6_sheet_25 : decode cX6_sheet 25 = .ok (.iload_n 3, 1) := by decide +kernel
theorem dX6_sheet_26 : decode cX6_sheet 26 = .ok (.bipush 40, 2) := by decide +kernel
theorem dX6_sheet_28 : decode cX6_sheet 28 = .ok (.if_icmp .le 6, 3) := by decide +kernel
theorem dX6_sheet_31 : decode cX6_sheet 31 = .ok (.bipush (-2), 2) := by decide +kernel
theorem dX6_sheet_33 : decode cX6_sheet 33 = .ok (.ireturn, 1) := by decide +kernel
theorem dX6_sheet_34 : decode cX6_sheet 34 = .ok (.iload_n 2, 1) := by decide +kernel
theorem dX6_sheet_35 : decode cX6_sheet 35 = .ok (.ifCond .lt 10, 3) := by decide +kernel
theorem dX6_sheet_38 : decode cX6_sheet 38 = .ok (.iload_n 3, 1) := by decide +kernel
theorem dX6_sheet_39 : decode cX6_sheet 39 = .ok (.ifCond .ge 6, 3) := by decide +kernel
theorem dX6_sheet_42 : decode cX6_sheet 42 = .ok (.bipush (-14), 2) := by decide +kernel
theorem dX6_sheet_44 : decode cX6_sheet 44 = .ok (.ireturn, 1) := by decide +kernel
theorem dX6_sheet_45 : decode cX6_sheet 45 = .ok (.aload_n 0, 1) := by decide +kernel
theorem dX6_sheet_46 : decode cX6_sheet 46 = .ok (.getfield 50, 3) := by decide +kernel
theorem dX6_sheet_49 : decode cX6_sheet 49 = .ok (.iload_n 1, 1) := by decide +kernel
theorem dX6_sheet_50 : decode cX6_sheet 50 = .ok (.iload_n 2, 1) := by decide +kernel
theorem dX6_sheet_51 : decode cX6_sheet 51 = .ok (.ifCond .lt 7, 3) := by decide +kernel
theorem dX6_sheet_54 : decode cX6_sheet 54 = .ok (.iconst 1, 1) := by decide +kernel
theorem dX6_sheet_55 : decode cX6_sheet 55 = .ok (.goto 4, 3) := by decide +kernel
theorem dX6_sheet_58 : decode cX6_sheet 58 = .ok (.iconst 0, 1) := by decide +kernel
theorem dX6_sheet_59 : decode cX6_sheet 59 = .ok (.bastore, 1) := by decide +kernel
theorem dX6_sheet_60 : decode cX6_sheet 60 = .ok (.aload_n 0, 1) := by decide +kernel
theorem dX6_sheet_61 : decode cX6_sheet 61 = .ok (.getfield 54, 3) := by decide +kernel
theorem dX6_sheet_64 : decode cX6_sheet 64 = .ok (.iload_n 1, 1) := by decide +kernel
theorem dX6_sheet_65 : decode cX6_sheet 65 = .ok (.iload_n 2, 1) := by decide +kernel
theorem dX6_sheet_66 : decode cX6_sheet 66 = .ok (.iastore, 1) := by decide +kernel
theorem dX6_sheet_67 : decode cX6_sheet 67 = .ok (.aload_n 0, 1) := by decide +kernel
theorem dX6_sheet_68 : decode cX6_sheet 68 = .ok (.getfield 57, 3) := by decide +kernel
theorem dX6_sheet_71 : decode cX6_sheet 71 = .ok (.iload_n 1, 1) := by decide +kernel
theorem dX6_sheet_72 : decode cX6_sheet 72 = .ok (.iload_n 3, 1) := by decide +kernel
theorem dX6_sheet_73 : decode cX6_sheet 73 = .ok (.iastore, 1) := by decide +kernel
theorem dX6_sheet_74 : decode cX6_sheet 74 = .ok (.iconst 0, 1) := by decide +kernel
theorem dX6_sheet_75 : decode cX6_sheet 75 = .ok (.istore 4, 2) := by decide +kernel
theorem dX6_sheet_77 : decode cX6_sheet 77 = .ok (.iload 4, 2) := by decide +kernel
theorem dX6_sheet_79 : decode cX6_sheet 79 = .ok (.iload_n 3, 1) := by decide +kernel
theorem dX6_sheet_80 : decode cX6_sheet 80 = .ok (.if_icmp .ge 26, 3) := by decide +kernel
theorem dX6_sheet_83 : decode cX6_sheet 83 = .ok (.iload_n 2, 1) := by decide +kernel
theorem dX6_sheet_84 : decode cX6_sheet 84 = .ok (.ifCond .lt 22, 3) := by decide +kernel
theorem dX6_sheet_87 : decode cX6_sheet 87 = .ok (.aload_n 0, 1) := by decide +kernel
theorem dX6_sheet_88 : decode cX6_sheet 88 = .ok (.getfield 60, 3) := by decide +kernel
theorem dX6_sheet_91 : decode cX6_sheet 91 = .ok (.bipush 40, 2) := by decide +kernel
theorem dX6_sheet_93 : decode cX6_sheet 93 = .ok (.iload_n 1, 1) := by decide +kernel
theorem dX6_sheet_94 : decode cX6_sheet 94 = .ok (.imul, 1) := by decide +kernel
theorem dX6_sheet_95 : decode cX6_sheet 95 = .ok (.iload 4, 2) := by decide +kernel
theorem dX6_sheet_97 : decode cX6_sheet 97 = .ok (.iadd, 1) := by decide +kernel
theorem dX6_sheet_98 : decode cX6_sheet 98 = .ok (.iconst 0, 1) := by decide +kernel
theorem dX6_sheet_99 : decode cX6_sheet 99 = .ok (.iastore, 1) := by decide +kernel
theorem dX6_sheet_100 : decode cX6_sheet 100 = .ok (.iinc 4 1, 3) := by decide +kernel
theorem dX6_sheet_103 : decode cX6_sheet 103 = .ok (.goto (-26), 3) := by decide +kernel
theorem dX6_sheet_106 : decode cX6_sheet 106 = .ok (.iconst 1, 1) := by decide +kernel
theorem dX6_sheet_107 : decode cX6_sheet 107 = .ok (.ireturn, 1) := by decide +kernel
theorem dX6_cell_0 : decode cX6_cell 0 = .ok (.iload_n 1, 1) := by decide +kernel
theorem dX6_cell_1 : decode cX6_cell 1 = .ok (.invokestatic 409, 3) := by decide +kernel
theorem dX6_cell_4 : decode cX6_cell 4 = .ok (.ifCond .ne 6, 3) := by decide +kernel
theorem dX6_cell_7 : decode cX6_cell 7 = .ok (.bipush (-2), 2) := by decide +kernel
theorem dX6_cell_9 : decode cX6_cell 9 = .ok (.ireturn, 1) := by decide +kernel
theorem dX6_cell_10 : decode cX6_cell 10 = .ok (.aload_n 0, 1) := by decide +kernel
theorem dX6_cell_11 : decode cX6_cell 11 = .ok (.getfield 50, 3) := by decide +kernel
theorem dX6_cell_14 : decode cX6_cell 14 = .ok (.iload_n 1, 1) := by decide +kernel
theorem dX6_cell_15 : decode cX6_cell 15 = .ok (.baload, 1) := by decide +kernel
theorem dX6_cell_16 : decode cX6_cell 16 = .ok (.ifCond .ne 6, 3) := by decide +kernel
theorem dX6_cell_19 : decode cX6_cell 19 = .ok (.bipush (-11), 2) := by decide +kernel
theorem dX6_cell_21 : decode cX6_cell 21 = .ok (.ireturn, 1) := by decide +kernel
theorem dX6_cell_22 : decode cX6_cell 22 = .ok (.iload_n 2, 1) := by decide +kernel
theorem dX6_cell_23 : decode cX6_cell 23 = .ok (.i2l, 1) := by decide +kernel
theorem dX6_cell_24 : decode cX6_cell 24 = .ok (.lconst 0, 1) := by decide +kernel
theorem dX6_cell_25 : decode cX6_cell 25 = .ok (.aload_n 0, 1) := by decide +kernel
theorem dX6_cell_26 : decode cX6_cell 26 = .ok (.getfield 57, 3) := by decide +kernel
theorem dX6_cell_29 : decode cX6_cell 29 = .ok (.iload_n 1, 1) := by decide +kernel
theorem dX6_cell_30 : decode cX6_cell 30 = .ok (.iaload, 1) := by decide +kernel
theorem dX6_cell_31 : decode cX6_cell 31 = .ok (.iconst 1, 1) := by decide +kernel
theorem dX6_cell_32 : decode cX6_cell 32 = .ok (.isub, 1) := by decide +kernel
theorem dX6_cell_33 : decode cX6_cell 33 = .ok (.i2l, 1) := by decide +kernel
theorem dX6_cell_34 : decode cX6_cell 34 = .ok (.invokestatic 73, 3) := by decide +kernel
theorem dX6_cell_37 : decode cX6_cell 37 = .ok (.ifCond .ne 6, 3) := by decide +kernel
theorem dX6_cell_40 : decode cX6_cell 40 = .ok (.bipush (-12), 2) := by decide +kernel
theorem dX6_cell_42 : decode cX6_cell 42 = .ok (.ireturn, 1) := by decide +kernel
theorem dX6_cell_43 : decode cX6_cell 43 = .ok (.aload_n 0, 1) := by decide +kernel
theorem dX6_cell_44 : decode cX6_cell 44 = .ok (.getfield 60, 3) := by decide +kernel
theorem dX6_cell_47 : decode cX6_cell 47 = .ok (.bipush 40, 2) := by decide +kernel
theorem dX6_cell_49 : decode cX6_cell 49 = .ok (.iload_n 1, 1) := by decide +kernel
theorem dX6_cell_50 : decode cX6_cell 50 = .ok (.imul, 1) := by decide +kernel
theorem dX6_cell_51 : decode cX6_cell 51 = .ok (.iload_n 2, 1) := by decide +kernel
theorem dX6_cell_52 : decode cX6_cell 52 = .ok (.iadd, 1) := by decide +kernel
theorem dX6_cell_53 : decode cX6_cell 53 = .ok (.aload_n 0, 1) := by decide +kernel
theorem dX6_cell_54 : decode cX6_cell 54 = .ok (.getfield 54, 3) := by decide +kernel
theorem dX6_cell_57 : decode cX6_cell 57 = .ok (.iload_n 1, 1) := by decide +kernel
theorem dX6_cell_58 : decode cX6_cell 58 = .ok (.iaload, 1) := by decide +kernel
theorem dX6_cell_59 : decode cX6_cell 59 = .ok (.ifCond .ne 8, 3) := by decide +kernel
theorem dX6_cell_62 : decode cX6_cell 62 = .ok (.iload_n 3, 1) := by decide +kernel
theorem dX6_cell_63 : decode cX6_cell 63 = .ok (.i2b, 1) := by decide +kernel
theorem dX6_cell_64 : decode cX6_cell 64 = .ok (.goto 19, 3) := by decide +kernel
theorem dX6_cell_67 : decode cX6_cell 67 = .ok (.aload_n 0, 1) := by decide +kernel
theorem dX6_cell_68 : decode cX6_cell 68 = .ok (.getfield 54, 3) := by decide +kernel
theorem dX6_cell_71 : decode cX6_cell 71 = .ok (.iload_n 1, 1) := by decide +kernel
theorem dX6_cell_72 : decode cX6_cell 72 = .ok (.iaload, 1) := by decide +kernel
theorem dX6_cell_73 : decode cX6_cell 73 = .ok (.iconst 1, 1) := by decide +kernel
theorem dX6_cell_74 : decode cX6_cell 74 = .ok (.if_icmp .ne 8, 3) := by decide +kernel
theorem dX6_cell_77 : decode cX6_cell 77 = .ok (.iload_n 3, 1) := by decide +kernel
theorem dX6_cell_78 : decode cX6_cell 78 = .ok (.i2s, 1) := by decide +kernel
theorem dX6_cell_79 : decode cX6_cell 79 = .ok (.goto 4, 3) := by decide +kernel
theorem dX6_cell_82 : decode cX6_cell 82 = .ok (.iload_n 3, 1) := by decide +kernel
theorem dX6_cell_83 : decode cX6_cell 83 = .ok (.iastore, 1) := by decide +kernel
theorem dX6_cell_84 : decode cX6_cell 84 = .ok (.iconst 1, 1) := by decide +kernel
theorem dX6_cell_85 : decode cX6_cell 85 = .ok (.ireturn, 1) := by decide +kernel
theorem dX6_copy_0 : decode cX6_copy 0 = .ok (.iload_n 1, 1) := by decide +kernel
theorem dX6_copy_1 : decode cX6_copy 1 = .ok (.invokestatic 409, 3) := by decide +kernel
theorem dX6_copy_4 : decode cX6_copy 4 = .ok (.ifCond .eq 10, 3) := by decide +kernel
theorem dX6_copy_7 : decode cX6_copy 7 = .ok (.iload_n 3, 1) := by decide +kernel
theorem dX6_copy_8 : decode cX6_copy 8 = .ok (.invokestatic 409, 3) := by decide +kernel
theorem dX6_copy_11 : decode cX6_copy 11 = .ok (.ifCond .ne 6, 3) := by decide +kernel
theorem dX6_copy_14 : decode cX6_copy 14 = .ok (.bipush (-2), 2) := by decide +kernel
theorem dX6_copy_16 : decode cX6_copy 16 = .ok (.ireturn, 1) := by decide +kernel
theorem dX6_copy_17 : decode cX6_copy 17 = .ok (.aload_n 0, 1) := by decide +kernel
theorem dX6_copy_18 : decode cX6_copy 18 = .ok (.getfield 50, 3) := by decide +kernel
theorem dX6_copy_21 : decode cX6_copy 21 = .ok (.iload_n 1, 1) := by decide +kernel
theorem dX6_copy_22 : decode cX6_copy 22 = .ok (.baload, 1) := by decide +kernel
theorem dX6_copy_23 : decode cX6_copy 23 = .ok (.ifCond .eq 12, 3) := by decide +kernel
theorem dX6_copy_26 : decode cX6_copy 26 = .ok (.aload_n 0, 1) := by decide +kernel
theorem dX6_copy_27 : decode cX6_copy 27 = .ok (.getfield 50, 3) := by decide +kernel
theorem dX6_copy_30 : decode cX6_copy 30 = .ok (.iload_n 3, 1) := by decide +kernel
theorem dX6_copy_31 : decode cX6_copy 31 = .ok (.baload, 1) := by decide +kernel
theorem dX6_copy_32 : decode cX6_copy 32 = .ok (.ifCond .ne 6, 3) := by decide +kernel
theorem dX6_copy_35 : decode cX6_copy 35 = .ok (.bipush (-11), 2) := by decide +kernel
theorem dX6_copy_37 : decode cX6_copy 37 = .ok (.ireturn, 1) := by decide +kernel
theorem dX6_copy_38 : decode cX6_copy 38 = .ok (.aload_n 0, 1) := by decide +kernel
theorem dX6_copy_39 : decode cX6_copy 39 = .ok (.getfield 54, 3) := by decide +kernel
theorem dX6_copy_42 : decode cX6_copy 42 = .ok (.iload_n 1, 1) := by decide +kernel
theorem dX6_copy_43 : decode cX6_copy 43 = .ok (.iaload, 1) := by decide +kernel
theorem dX6_copy_44 : decode cX6_copy 44 = .ok (.aload_n 0, 1) := by decide +kernel
theorem dX6_copy_45 : decode cX6_copy 45 = .ok (.getfield 54, 3) := by decide +kernel
theorem dX6_copy_48 : decode cX6_copy 48 = .ok (.iload_n 3, 1) := by decide +kernel
theorem dX6_copy_49 : decode cX6_copy 49 = .ok (.iaload, 1) := by decide +kernel
theorem dX6_copy_50 : decode cX6_copy 50 = .ok (.if_icmp .eq 6, 3) := by decide +kernel
theorem dX6_copy_53 : decode cX6_copy 53 = .ok (.bipush (-13), 2) := by decide +kernel
theorem dX6_copy_55 : decode cX6_copy 55 = .ok (.ireturn, 1) := by decide +kernel
theorem dX6_copy_56 : decode cX6_copy 56 = .ok (.iload 5, 2) := by decide +kernel
theorem dX6_copy_58 : decode cX6_copy 58 = .ok (.ifCond .lt 39, 3) := by decide +kernel
theorem dX6_copy_61 : decode cX6_copy 61 = .ok (.iload_n 2, 1) := by decide +kernel
theorem dX6_copy_62 : decode cX6_copy 62 = .ok (.ifCond .lt 35, 3) := by decide +kernel
theorem dX6_copy_65 : decode cX6_copy 65 = .ok (.iload 4, 2) := by decide +kernel
theorem dX6_copy_67 : decode cX6_copy 67 = .ok (.ifCond .lt 30, 3) := by decide +kernel
theorem dX6_copy_70 : decode cX6_copy 70 = .ok (.iload_n 2, 1) := by decide +kernel
theorem dX6_copy_71 : decode cX6_copy 71 = .ok (.aload_n 0, 1) := by decide +kernel
theorem dX6_copy_72 : decode cX6_copy 72 = .ok (.getfield 57, 3) := by decide +kernel
theorem dX6_copy_75 : decode cX6_copy 75 = .ok (.iload_n 1, 1) := by decide +kernel
theorem dX6_copy_76 : decode cX6_copy 76 = .ok (.iaload, 1) := by decide +kernel
theorem dX6_copy_77 : decode cX6_copy 77 = .ok (.iload 5, 2) := by decide +kernel
theorem dX6_copy_79 : decode cX6_copy 79 = .ok (.isub, 1) := by decide +kernel
theorem dX6_copy_80 : decode cX6_copy 80 = .ok (.if_icmp .gt 17, 3) := by decide +kernel
theorem dX6_copy_83 : decode cX6_copy 83 = .ok (.iload 4, 2) := by decide +kernel
theorem dX6_copy_85 : decode cX6_copy 85 = .ok (.aload_n 0, 1) := by decide +kernel
theorem dX6_copy_86 : decode cX6_copy 86 = .ok (.getfield 57, 3) := by decide +kernel
theorem dX6_copy_89 : decode cX6_copy 89 = .ok (.iload_n 3, 1) := by decide +kernel
theorem dX6_copy_90 : decode cX6_copy 90 = .ok (.iaload, 1) := by decide +kernel
theorem dX6_copy_91 : decode cX6_copy 91 = .ok (.iload 5, 2) := by decide +kernel
theorem dX6_copy_93 : decode cX6_copy 93 = .ok (.isub, 1) := by decide +kernel
theorem dX6_copy_94 : decode cX6_copy 94 = .ok (.if_icmp .le 6, 3) := by decide +kernel
theorem dX6_copy_97 : decode cX6_copy 97 = .ok (.bipush (-12), 2) := by decide +kernel
theorem dX6_copy_99 : decode cX6_copy 99 = .ok (.ireturn, 1) := by decide +kernel
theorem dX6_copy_100 : decode cX6_copy 100 = .ok (.iload_n 1, 1) := by decide +kernel
theorem dX6_copy_101 : decode cX6_copy 101 = .ok (.iload_n 3, 1) := by decide +kernel
theorem dX6_copy_102 : decode cX6_copy 102 = .ok (.if_icmp .ne 13, 3) := by decide +kernel
theorem dX6_copy_105 : decode cX6_copy 105 = .ok (.iload_n 2, 1) := by decide +kernel
theorem dX6_copy_106 : decode cX6_copy 106 = .ok (.iload 4, 2) := by decide +kernel
theorem dX6_copy_108 : decode cX6_copy 108 = .ok (.if_icmp .ge 7, 3) := by decide +kernel
theorem dX6_copy_111 : decode cX6_copy 111 = .ok (.iconst 1, 1) := by decide +kernel
theorem dX6_copy_112 : decode cX6_copy 112 = .ok (.goto 4, 3) := by decide +kernel
theorem dX6_copy_115 : decode cX6_copy 115 = .ok (.iconst 0, 1) := by decide +kernel
theorem dX6_copy_116 : decode cX6_copy 116 = .ok (.istore 6, 2) := by decide +kernel
theorem dX6_copy_118 : decode cX6_copy 118 = .ok (.iconst 0, 1) := by decide +kernel
theorem dX6_copy_119 : decode cX6_copy 119 = .ok (.istore 7, 2) := by decide +kernel
theorem dX6_copy_121 : decode cX6_copy 121 = .ok (.iload 7, 2) := by decide +kernel
theorem dX6_copy_123 : decode cX6_copy 123 = .ok (.iload 5, 2) := by decide +kernel
theorem dX6_copy_125 : decode cX6_copy 125 = .ok (.if_icmp .ge 57, 3) := by decide +kernel
theorem dX6_copy_128 : decode cX6_copy 128 = .ok (.iload 6, 2) := by decide +kernel
theorem dX6_copy_130 : decode cX6_copy 130 = .ok (.ifCond .eq 13, 3) := by decide +kernel
theorem dX6_copy_133 : decode cX6_copy 133 = .ok (.iload 5, 2) := by decide +kernel
theorem dX6_copy_135 : decode cX6_copy 135 = .ok (.iconst 1, 1) := by decide +kernel
theorem dX6_copy_136 : decode cX6_copy 136 = .ok (.isub, 1) := by decide +kernel
theorem dX6_copy_137 : decode cX6_copy 137 = .ok (.iload 7, 2) := by decide +kernel
theorem dX6_copy_139 : decode cX6_copy 139 = .ok (.isub, 1) := by decide +kernel
theorem dX6_copy_140 : decode cX6_copy 140 = .ok (.goto 5, 3) := by decide +kernel
theorem dX6_copy_143 : decode cX6_copy 143 = .ok (.iload 7, 2) := by decide +kernel
theorem dX6_copy_145 : decode cX6_copy 145 = .ok (.istore 8, 2) := by decide +kernel
theorem dX6_copy_147 : decode cX6_copy 147 = .ok (.aload_n 0, 1) := by decide +kernel
theorem dX6_copy_148 : decode cX6_copy 148 = .ok (.getfield 60, 3) := by decide +kernel
theorem dX6_copy_151 : decode cX6_copy 151 = .ok (.bipush 40, 2) := by decide +kernel
theorem dX6_copy_153 : decode cX6_copy 153 = .ok (.iload_n 3, 1) := by decide +kernel
theorem dX6_copy_154 : decode cX6_copy 154 = .ok (.imul, 1) := by decide +kernel
theorem dX6_copy_155 : decode cX6_copy 155 = .ok (.iload 4, 2) := by decide +kernel
theorem dX6_copy_157 : decode cX6_copy 157 = .ok (.iadd, 1) := by decide +kernel
theorem dX6_copy_158 : decode cX6_copy 158 = .ok (.iload 8, 2) := by decide +kernel
theorem dX6_copy_160 : decode cX6_copy 160 = .ok (.iadd, 1) := by decide +kernel
theorem dX6_copy_161 : decode cX6_copy 161 = .ok (.aload_n 0, 1) := by decide +kernel
theorem dX6_copy_162 : decode cX6_copy 162 = .ok (.getfield 60, 3) := by decide +kernel
theorem dX6_copy_165 : decode cX6_copy 165 = .ok (.bipush 40, 2) := by decide +kernel
theorem dX6_copy_167 : decode cX6_copy 167 = .ok (.iload_n 1, 1) := by decide +kernel
theorem dX6_copy_168 : decode cX6_copy 168 = .ok (.imul, 1) := by decide +kernel
theorem dX6_copy_169 : decode cX6_copy 169 = .ok (.iload_n 2, 1) := by decide +kernel
theorem dX6_copy_170 : decode cX6_copy 170 = .ok (.iadd, 1) := by decide +kernel
theorem dX6_copy_171 : decode cX6_copy 171 = .ok (.iload 8, 2) := by decide +kernel
theorem dX6_copy_173 : decode cX6_copy 173 = .ok (.iadd, 1) := by decide +kernel
theorem dX6_copy_174 : decode cX6_copy 174 = .ok (.iaload, 1) := by decide +kernel
theorem dX6_copy_175 : decode cX6_copy 175 = .ok (.iastore, 1) := by decide +kernel
theorem dX6_copy_176 : decode cX6_copy 176 = .ok (.iinc 7 1, 3) := by decide +kernel
theorem dX6_copy_179 : decode cX6_copy 179 = .ok (.goto (-58), 3) := by decide +kernel
theorem dX6_copy_182 : decode cX6_copy 182 = .ok (.iload 5, 2) := by decide +kernel
theorem dX6_copy_184 : decode cX6_copy 184 = .ok (.ireturn, 1) := by decide +kernel
theorem dX6_street_0 : decode cX6_street 0 = .ok (.iload_n 1, 1) := by decide +kernel
theorem dX6_street_1 : decode cX6_street 1 = .ok (.invokestatic 409, 3) := by decide +kernel
theorem dX6_street_4 : decode cX6_street 4 = .ok (.ifCond .eq 28, 3) := by decide +kernel
theorem dX6_street_7 : decode cX6_street 7 = .ok (.iload_n 2, 1) := by decide +kernel
theorem dX6_street_8 : decode cX6_street 8 = .ok (.i2l, 1) := by decide +kernel
theorem dX6_street_9 : decode cX6_street 9 = .ok (.lconst 0, 1) := by decide +kernel
theorem dX6_street_10 : decode cX6_street 10 = .ok (.ldc2_w 379, 3) := by decide +kernel
theorem dX6_street_13 : decode cX6_street 13 = .ok (.invokestatic 73, 3) := by decide +kernel
theorem dX6_street_16 : decode cX6_street 16 = .ok (.ifCond .eq 16, 3) := by decide +kernel
theorem dX6_street_19 : decode cX6_street 19 = .ok (.iload 4, 2) := by decide +kernel
theorem dX6_street_21 : decode cX6_street 21 = .ok (.i2l, 1) := by decide +kernel
theorem dX6_street_22 : decode cX6_street 22 = .ok (.lconst 0, 1) := by decide +kernel
theorem dX6_street_23 : decode cX6_street 23 = .ok (.ldc2_w 110, 3) := by decide +kernel
theorem dX6_street_26 : decode cX6_street 26 = .ok (.invokestatic 73, 3) := by decide +kernel
theorem dX6_street_29 : decode cX6_street 29 = .ok (.ifCond .ne 6, 3) := by decide +kernel
theorem dX6_street_32 : decode cX6_street 32 = .ok (.bipush (-2), 2) := by decide +kernel
theorem dX6_street_34 : decode cX6_street 34 = .ok (.ireturn, 1) := by decide +kernel
theorem dX6_street_35 : decode cX6_street 35 = .ok (.aload_n 0, 1) := by decide +kernel
theorem dX6_street_36 : decode cX6_street 36 = .ok (.getfield 50, 3) := by decide +kernel
theorem dX6_street_39 : decode cX6_street 39 = .ok (.iload_n 1, 1) := by decide +kernel
theorem dX6_street_40 : decode cX6_street 40 = .ok (.baload, 1) := by decide +kernel
theorem dX6_street_41 : decode cX6_street 41 = .ok (.ifCond .eq 16, 3) := by decide +kernel
theorem dX6_street_44 : decode cX6_street 44 = .ok (.aload_n 0, 1) := by decide +kernel
theorem dX6_street_45 : decode cX6_street 45 = .ok (.getfield 54, 3) := by decide +kernel
theorem dX6_street_48 : decode cX6_street 48 = .ok (.iload_n 1, 1) := by decide +kernel
theorem dX6_street_49 : decode cX6_street 49 = .ok (.iaload, 1) := by decide +kernel
theorem dX6_street_50 : decode cX6_street 50 = .ok (.iload_n 2, 1) := by decide +kernel
theorem dX6_street_51 : decode cX6_street 51 = .ok (.if_icmp .eq 6, 3) := by decide +kernel
theorem dX6_street_54 : decode cX6_street 54 = .ok (.bipush (-13), 2) := by decide +kernel
theorem dX6_street_56 : decode cX6_street 56 = .ok (.ireturn, 1) := by decide +kernel
theorem dX6_street_57 : decode cX6_street 57 = .ok (.aload_n 0, 1) := by decide +kernel
theorem dX6_street_58 : decode cX6_street 58 = .ok (.getfield 50, 3) := by decide +kernel
theorem dX6_street_61 : decode cX6_street 61 = .ok (.iload_n 1, 1) := by decide +kernel
theorem dX6_street_62 : decode cX6_street 62 = .ok (.baload, 1) := by decide +kernel
theorem dX6_street_63 : decode cX6_street 63 = .ok (.ifCond .ne 6, 3) := by decide +kernel
theorem dX6_street_66 : decode cX6_street 66 = .ok (.bipush (-11), 2) := by decide +kernel
theorem dX6_street_68 : decode cX6_street 68 = .ok (.ireturn, 1) := by decide +kernel
theorem dX6_street_69 : decode cX6_street 69 = .ok (.iconst 0, 1) := by decide +kernel
theorem dX6_street_70 : decode cX6_street 70 = .ok (.istore 5, 2) := by decide +kernel
theorem dX6_street_72 : decode cX6_street 72 = .ok (.iconst 0, 1) := by decide +kernel
theorem dX6_street_73 : decode cX6_street 73 = .ok (.istore 6, 2) := by decide +kernel
theorem dX6_street_75 : decode cX6_street 75 = .ok (.iload 6, 2) := by decide +kernel
theorem dX6_street_77 : decode cX6_street 77 = .ok (.iload 4, 2) := by decide +kernel
theorem dX6_street_79 : decode cX6_street 79 = .ok (.if_icmp .ge 79, 3) := by decide +kernel
theorem dX6_street_82 : decode cX6_street 82 = .ok (.iload_n 3, 1) := by decide +kernel
theorem dX6_street_83 : decode cX6_street 83 = .ok (.ifCond .lt 20, 3) := by decide +kernel
theorem dX6_street_86 : decode cX6_street 86 = .ok (.iload_n 3, 1) := by decide +kernel
theorem dX6_street_87 : decode cX6_street 87 = .ok (.aload_n 0, 1) := by decide +kernel
theorem dX6_street_88 : decode cX6_street 88 = .ok (.getfield 57, 3) := by decide +kernel
theorem dX6_street_91 : decode cX6_street 91 = .ok (.iload_n 1, 1) := by decide +kernel
theorem dX6_street_92 : decode cX6_street 92 = .ok (.iaload, 1) := by decide +kernel
theorem dX6_street_93 : decode cX6_street 93 = .ok (.iconst 2, 1) := by decide +kernel
theorem dX6_street_94 : decode cX6_street 94 = .ok (.iload 6, 2) := by decide +kernel
theorem dX6_street_96 : decode cX6_street 96 = .ok (.imul, 1) := by decide +kernel
theorem dX6_street_97 : decode cX6_street 97 = .ok (.isub, 1) := by decide +kernel
theorem dX6_street_98 : decode cX6_street 98 = .ok (.iconst 2, 1) := by decide +kernel
theorem dX6_street_99 : decode cX6_street 99 = .ok (.isub, 1) := by decide +kernel
theorem dX6_street_100 : decode cX6_street 100 = .ok (.if_icmp .le 6, 3) := by decide +kernel
theorem dX6_street_103 : decode cX6_street 103 = .ok (.bipush (-12), 2) := by decide +kernel
theorem dX6_street_105 : decode cX6_street 105 = .ok (.ireturn, 1) := by decide +kernel
theorem dX6_street_106 : decode cX6_street 106 = .ok (.bipush 40, 2) := by decide +kernel
theorem dX6_street_108 : decode cX6_street 108 = .ok (.iload_n 1, 1) := by decide +kernel
theorem dX6_street_109 : decode cX6_street 109 = .ok (.imul, 1) := by decide +kernel
theorem dX6_street_110 : decode cX6_street 110 = .ok (.iload_n 3, 1) := by decide +kernel
theorem dX6_street_111 : decode cX6_street 111 = .ok (.iadd, 1) := by decide +kernel
theorem dX6_street_112 : decode cX6_street 112 = .ok (.iconst 2, 1) := by decide +kernel
theorem dX6_street_113 : decode cX6_street 113 = .ok (.iload 6, 2) := by decide +kernel
theorem dX6_street_115 : decode cX6_street 115 = .ok (.imul, 1) := by decide +kernel
theorem dX6_street_116 : decode cX6_street 116 = .ok (.iadd, 1) := by decide +kernel
theorem dX6_street_117 : decode cX6_street 117 = .ok (.istore 7, 2) := by decide +kernel
theorem dX6_street_119 : decode cX6_street 119 = .ok (.iload 5, 2) := by decide +kernel
theorem dX6_street_121 : decode cX6_street 121 = .ok (.aload_n 0, 1) := by decide +kernel
theorem dX6_street_122 : decode cX6_street 122 = .ok (.aload_n 0, 1) := by decide +kernel
theorem dX6_street_123 : decode cX6_street 123 = .ok (.getfield 60, 3) := by decide +kernel
theorem dX6_street_126 : decode cX6_street 126 = .ok (.iload 7, 2) := by decide +kernel
theorem dX6_street_128 : decode cX6_street 128 = .ok (.iaload, 1) := by decide +kernel
theorem dX6_street_129 : decode cX6_street 129 = .ok (.aload_n 0, 1) := by decide +kernel
theorem dX6_street_130 : decode cX6_street 130 = .ok (.getfield 60, 3) := by decide +kernel
theorem dX6_street_133 : decode cX6_street 133 = .ok (.iload 7, 2) := by decide +kernel
theorem dX6_street_135 : decode cX6_street 135 = .ok (.iconst 1, 1) := by decide +kernel
theorem dX6_street_136 : decode cX6_street 136 = .ok (.iadd, 1) := by decide +kernel
theorem dX6_street_137 : decode cX6_street 137 = .ok (.iaload, 1) := by decide +kernel
theorem dX6_street_138 : decode cX6_street 138 = .ok (.invokevirtual 436, 3) := by decide +kernel
theorem dX6_street_141 : decode cX6_street 141 = .ok (.ifCond .lt 7, 3) := by decide +kernel
theorem dX6_street_144 : decode cX6_street 144 = .ok (.iconst 1, 1) := by decide +kernel
theorem dX6_street_145 : decode cX6_street 145 = .ok (.goto 4, 3) := by decide +kernel
theorem dX6_street_148 : decode cX6_street 148 = .ok (.iconst 0, 1) := by decide +kernel
theorem dX6_street_149 : decode cX6_street 149 = .ok (.iadd, 1) := by decide +kernel
theorem dX6_street_150 : decode cX6_street 150 = .ok (.istore 5, 2) := by decide +kernel
theorem dX6_street_152 : decode cX6_street 152 = .ok (.iinc 6 1, 3) := by decide +kernel
theorem dX6_street_155 : decode cX6_street 155 = .ok (.goto (-80), 3) := by decide +kernel
theorem dX6_street_158 : decode cX6_street 158 = .ok (.iload 5, 2) := by decide +kernel
theorem dX6_street_160 : decode cX6_street 160 = .ok (.ireturn, 1) := by decide +kernel
theorem dX6_over_0 : decode cX6_over 0 = .ok (.iload_n 0, 1) := by decide +kernel
theorem dX6_over_1 : decode cX6_over 1 = .ok (.ifCond .ne 7, 3) := by decide +kernel
theorem dX6_over_4 : decode cX6_over 4 = .ok (.iconst (-1), 1) := by decide +kernel
theorem dX6_over_5 : decode cX6_over 5 = .ok (.goto 22, 3) := by decide +kernel
theorem dX6_over_8 : decode cX6_over 8 = .ok (.iload_n 0, 1) := by decide +kernel
theorem dX6_over_9 : decode cX6_over 9 = .ok (.iconst 3, 1) := by decide +kernel
theorem dX6_over_10 : decode cX6_over 10 = .ok (.if_icmp .ne 7, 3) := by decide +kernel
theorem dX6_over_13 : decode cX6_over 13 = .ok (.iconst 1, 1) := by decide +kernel
theorem dX6_over_14 : decode cX6_over 14 = .ok (.goto 13, 3) := by decide +kernel
theorem dX6_over_17 : decode cX6_over 17 = .ok (.iload_n 0, 1) := by decide +kernel
theorem dX6_over_18 : decode cX6_over 18 = .ok (.iconst 4, 1) := by decide +kernel
theorem dX6_over_19 : decode cX6_over 19 = .ok (.if_icmp .ne 7, 3) := by decide +kernel
theorem dX6_over_22 : decode cX6_over 22 = .ok (.iconst 2, 1) := by decide +kernel
theorem dX6_over_23 : decode cX6_over 23 = .ok (.goto 4, 3) := by decide +kernel
theorem dX6_over_26 : decode cX6_over 26 = .ok (.iconst 0, 1) := by decide +kernel
theorem dX6_over_27 : decode cX6_over 27 = .ok (.ireturn, 1) := by decide +kernel
theorem dX6_taken_0 : decode cX6_taken 0 = .ok (.iload_n 2, 1) := by decide +kernel
theorem dX6_taken_1 : decode cX6_taken 1 = .ok (.i2l, 1) := by decide +kernel
theorem dX6_taken_2 : decode cX6_taken 2 = .ok (.lconst 0, 1) := by decide +kernel
theorem dX6_taken_3 : decode cX6_taken 3 = .ok (.ldc2_w 110, 3) := by decide +kernel
theorem dX6_taken_6 : decode cX6_taken 6 = .ok (.invokestatic 73, 3) := by decide +kernel
theorem dX6_taken_9 : decode cX6_taken 9 = .ok (.ifCond .ne 6, 3) := by decide +kernel
theorem dX6_taken_12 : decode cX6_taken 12 = .ok (.bipush (-2), 2) := by decide +kernel
theorem dX6_taken_14 : decode cX6_taken 14 = .ok (.ireturn, 1) := by decide +kernel
theorem dX6_taken_15 : decode cX6_taken 15 = .ok (.aload_n 0, 1) := by decide +kernel
theorem dX6_taken_16 : decode cX6_taken 16 = .ok (.iload_n 1, 1) := by decide +kernel
theorem dX6_taken_17 : decode cX6_taken 17 = .ok (.invokevirtual 84, 3) := by decide +kernel
theorem dX6_taken_20 : decode cX6_taken 20 = .ok (.ifCond .ne 6, 3) := by decide +kernel
theorem dX6_taken_23 : decode cX6_taken 23 = .ok (.bipush (-11), 2) := by decide +kernel
theorem dX6_taken_25 : decode cX6_taken 25 = .ok (.ireturn, 1) := by decide +kernel
theorem dX6_taken_26 : decode cX6_taken 26 = .ok (.aload_n 0, 1) := by decide +kernel
theorem dX6_taken_27 : decode cX6_taken 27 = .ok (.getfield 29, 3) := by decide +kernel
theorem dX6_taken_30 : decode cX6_taken 30 = .ok (.iconst 3, 1) := by decide +kernel
theorem dX6_taken_31 : decode cX6_taken 31 = .ok (.iload_n 1, 1) := by decide +kernel
theorem dX6_taken_32 : decode cX6_taken 32 = .ok (.imul, 1) := by decide +kernel
theorem dX6_taken_33 : decode cX6_taken 33 = .ok (.iconst 2, 1) := by decide +kernel
theorem dX6_taken_34 : decode cX6_taken 34 = .ok (.iadd, 1) := by decide +kernel
theorem dX6_taken_35 : decode cX6_taken 35 = .ok (.iaload, 1) := by decide +kernel
theorem dX6_taken_36 : decode cX6_taken 36 = .ok (.istore_n 3, 1) := by decide +kernel
theorem dX6_taken_37 : decode cX6_taken 37 = .ok (.iload_n 3, 1) := by decide +kernel
theorem dX6_taken_38 : decode cX6_taken 38 = .ok (.iconst (-1), 1) := by decide +kernel
theorem dX6_taken_39 : decode cX6_taken 39 = .ok (.if_icmp .eq 16, 3) := by decide +kernel
theorem dX6_taken_42 : decode cX6_taken 42 = .ok (.iload_n 3, 1) := by decide +kernel
theorem dX6_taken_43 : decode cX6_taken 43 = .ok (.iload_n 2, 1) := by decide +kernel
theorem dX6_taken_44 : decode cX6_taken 44 = .ok (.if_icmp .eq 11, 3) := by decide +kernel
theorem dX6_taken_47 : decode cX6_taken 47 = .ok (.iload_n 3, 1) := by decide +kernel
theorem dX6_taken_48 : decode cX6_taken 48 = .ok (.invokestatic 439, 3) := by decide +kernel
theorem dX6_taken_51 : decode cX6_taken 51 = .ok (.istore_n 3, 1) := by decide +kernel
theorem dX6_taken_52 : decode cX6_taken 52 = .ok (.goto (-15), 3) := by decide +kernel
theorem dX6_taken_55 : decode cX6_taken 55 = .ok (.iload_n 3, 1) := by decide +kernel
theorem dX6_taken_56 : decode cX6_taken 56 = .ok (.iload_n 2, 1) := by decide +kernel
theorem dX6_taken_57 : decode cX6_taken 57 = .ok (.if_icmp .ne 14, 3) := by decide +kernel
theorem dX6_taken_60 : decode cX6_taken 60 = .ok (.aload_n 0, 1) := by decide +kernel
theorem dX6_taken_61 : decode cX6_taken 61 = .ok (.getfield 29, 3) := by decide +kernel
theorem dX6_taken_64 : decode cX6_taken 64 = .ok (.iconst 3, 1) := by decide +kernel
theorem dX6_taken_65 : decode cX6_taken 65 = .ok (.iload_n 1, 1) := by decide +kernel
theorem dX6_taken_66 : decode cX6_taken 66 = .ok (.imul, 1) := by decide +kernel
theorem dX6_taken_67 : decode cX6_taken 67 = .ok (.iaload, 1) := by decide +kernel
theorem dX6_taken_68 : decode cX6_taken 68 = .ok (.goto 5, 3) := by decide +kernel
theorem dX6_taken_71 : decode cX6_taken 71 = .ok (.bipush (-13), 2) := by decide +kernel
theorem dX6_taken_73 : decode cX6_taken 73 = .ok (.ireturn, 1) := by decide +kernel
theorem dJ6_bitCount_0f7a4_0 : decode cJ6_bitCount_0f7a4 0 = .ok (.iload_n 0, 1) := by decide +kernel
theorem dJ6_bitCount_0f7a4_1 : decode cJ6_bitCount_0f7a4 1 = .ok (.iload_n 0, 1) := by decide +kernel
theorem dJ6_bitCount_0f7a4_2 : decode cJ6_bitCount_0f7a4 2 = .ok (.iconst 1, 1) := by decide +kernel
theorem dJ6_bitCount_0f7a4_3 : decode cJ6_bitCount_0f7a4 3 = .ok (.iushr, 1) := by decide +kernel
theorem dJ6_bitCount_0f7a4_4 : decode cJ6_bitCount_0f7a4 4 = .ok (.ldc_w 265, 3) := by decide +kernel
theorem dJ6_bitCount_0f7a4_7 : decode cJ6_bitCount_0f7a4 7 = .ok (.iand, 1) := by decide +kernel
theorem dJ6_bitCount_0f7a4_8 : decode cJ6_bitCount_0f7a4 8 = .ok (.isub, 1) := by decide +kernel
theorem dJ6_bitCount_0f7a4_9 : decode cJ6_bitCount_0f7a4 9 = .ok (.istore_n 0, 1) := by decide +kernel
theorem dJ6_bitCount_0f7a4_10 : decode cJ6_bitCount_0f7a4 10 = .ok (.iload_n 0, 1) := by decide +kernel
theorem dJ6_bitCount_0f7a4_11 : decode cJ6_bitCount_0f7a4 11 = .ok (.ldc_w 266, 3) := by decide +kernel
theorem dJ6_bitCount_0f7a4_14 : decode cJ6_bitCount_0f7a4 14 = .ok (.iand, 1) := by decide +kernel
theorem dJ6_bitCount_0f7a4_15 : decode cJ6_bitCount_0f7a4 15 = .ok (.iload_n 0, 1) := by decide +kernel
theorem dJ6_bitCount_0f7a4_16 : decode cJ6_bitCount_0f7a4 16 = .ok (.iconst 2, 1) := by decide +kernel
theorem dJ6_bitCount_0f7a4_17 : decode cJ6_bitCount_0f7a4 17 = .ok (.iushr, 1) := by decide +kernel
theorem dJ6_bitCount_0f7a4_18 : decode cJ6_bitCount_0f7a4 18 = .ok (.ldc_w 266, 3) := by decide +kernel
theorem dJ6_bitCount_0f7a4_21 : decode cJ6_bitCount_0f7a4 21 = .ok (.iand, 1) := by decide +kernel
theorem dJ6_bitCount_0f7a4_22 : decode cJ6_bitCount_0f7a4 22 = .ok (.iadd, 1) := by decide +kernel
theorem dJ6_bitCount_0f7a4_23 : decode cJ6_bitCount_0f7a4 23 = .ok (.istore_n 0, 1) := by decide +kernel
theorem dJ6_bitCount_0f7a4_24 : decode cJ6_bitCount_0f7a4 24 = .ok (.iload_n 0, 1) := by decide +kernel
theorem dJ6_bitCount_0f7a4_25 : decode cJ6_bitCount_0f7a4 25 = .ok (.iload_n 0, 1) := by decide +kernel
theorem dJ6_bitCount_0f7a4_26 : decode cJ6_bitCount_0f7a4 26 = .ok (.iconst 4, 1) := by decide +kernel
theorem dJ6_bitCount_0f7a4_27 : decode cJ6_bitCount_0f7a4 27 = .ok (.iushr, 1) := by decide +kernel
theorem dJ6_bitCount_0f7a4_28 : decode cJ6_bitCount_0f7a4 28 = .ok (.iadd, 1) := by decide +kernel
theorem dJ6_bitCount_0f7a4_29 : decode cJ6_bitCount_0f7a4 29 = .ok (.ldc_w 267, 3) := by decide +kernel
theorem dJ6_bitCount_0f7a4_32 : decode cJ6_bitCount_0f7a4 32 = .ok (.iand, 1) := by decide +kernel
theorem dJ6_bitCount_0f7a4_33 : decode cJ6_bitCount_0f7a4 33 = .ok (.istore_n 0, 1) := by decide +kernel
theorem dJ6_bitCount_0f7a4_34 : decode cJ6_bitCount_0f7a4 34 = .ok (.iload_n 0, 1) := by decide +kernel
theorem dJ6_bitCount_0f7a4_35 : decode cJ6_bitCount_0f7a4 35 = .ok (.iload_n 0, 1) := by decide +kernel
theorem dJ6_bitCount_0f7a4_36 : decode cJ6_bitCount_0f7a4 36 = .ok (.bipush 8, 2) := by decide +kernel
theorem dJ6_bitCount_0f7a4_38 : decode cJ6_bitCount_0f7a4 38 = .ok (.iushr, 1) := by decide +kernel
theorem dJ6_bitCount_0f7a4_39 : decode cJ6_bitCount_0f7a4 39 = .ok (.iadd, 1) := by decide +kernel
theorem dJ6_bitCount_0f7a4_40 : decode cJ6_bitCount_0f7a4 40 = .ok (.istore_n 0, 1) := by decide +kernel
theorem dJ6_bitCount_0f7a4_41 : decode cJ6_bitCount_0f7a4 41 = .ok (.iload_n 0, 1) := by decide +kernel
theorem dJ6_bitCount_0f7a4_42 : decode cJ6_bitCount_0f7a4 42 = .ok (.iload_n 0, 1) := by decide +kernel
theorem dJ6_bitCount_0f7a4_43 : decode cJ6_bitCount_0f7a4 43 = .ok (.bipush 16, 2) := by decide +kernel
theorem dJ6_bitCount_0f7a4_45 : decode cJ6_bitCount_0f7a4 45 = .ok (.iushr, 1) := by decide +kernel
theorem dJ6_bitCount_0f7a4_46 : decode cJ6_bitCount_0f7a4 46 = .ok (.iadd, 1) := by decide +kernel
theorem dJ6_bitCount_0f7a4_47 : decode cJ6_bitCount_0f7a4 47 = .ok (.istore_n 0, 1) := by decide +kernel
theorem dJ6_bitCount_0f7a4_48 : decode cJ6_bitCount_0f7a4 48 = .ok (.iload_n 0, 1) := by decide +kernel
theorem dJ6_bitCount_0f7a4_49 : decode cJ6_bitCount_0f7a4 49 = .ok (.bipush 63, 2) := by decide +kernel
theorem dJ6_bitCount_0f7a4_51 : decode cJ6_bitCount_0f7a4 51 = .ok (.iand, 1) := by decide +kernel
theorem dJ6_bitCount_0f7a4_52 : decode cJ6_bitCount_0f7a4 52 = .ok (.ireturn, 1) := by decide +kernel
theorem dJ9_max_7cf53_0 : decode cJ9_max_7cf53 0 = .ok (.iload_n 0, 1) := by decide +kernel
theorem dJ9_max_7cf53_1 : decode cJ9_max_7cf53 1 = .ok (.iload_n 1, 1) := by decide +kernel
theorem dJ9_max_7cf53_2 : decode cJ9_max_7cf53 2 = .ok (.if_icmp .lt 7, 3) := by decide +kernel
theorem dJ9_max_7cf53_5 : decode cJ9_max_7cf53 5 = .ok (.iload_n 0, 1) := by decide +kernel
theorem dJ9_max_7cf53_6 : decode cJ9_max_7cf53 6 = .ok (.goto 4, 3) := by decide +kernel
theorem dJ9_max_7cf53_9 : decode cJ9_max_7cf53 9 = .ok (.iload_n 1, 1) := by decide +kernel
theorem dJ9_max_7cf53_10 : decode cJ9_max_7cf53 10 = .ok (.ireturn, 1) := by decide +kernel
theorem dJ9_min_7cf53_0 : decode cJ9_min_7cf53 0 = .ok (.iload_n 0, 1) := by decide +kernel
theorem dJ9_min_7cf53_1 : decode cJ9_min_7cf53 1 = .ok (.iload_n 1, 1) := by decide +kernel
theorem dJ9_min_7cf53_2 : decode cJ9_min_7cf53 2 = .ok (.if_icmp .gt 7, 3) := by decide +kernel
theorem dJ9_min_7cf53_5 : decode cJ9_min_7cf53 5 = .ok (.iload_n 0, 1) := by decide +kernel
theorem dJ9_min_7cf53_6 : decode cJ9_min_7cf53 6 = .ok (.goto 4, 3) := by decide +kernel
theorem dJ9_min_7cf53_9 : decode cJ9_min_7cf53 9 = .ok (.iload_n 1, 1) := by decide +kernel
theorem dJ9_min_7cf53_10 : decode cJ9_min_7cf53 10 = .ok (.ireturn, 1) := by decide +kernel
theorem dJ0_length_8abf5_0 : decode cJ0_length_8abf5 0 = .ok (.aload_n 0, 1) := by decide +kernel
theorem dJ0_length_8abf5_1 : decode cJ0_length_8abf5 1 = .ok (.getfield 9, 3) := by decide +kernel
theorem dJ0_length_8abf5_4 : decode cJ0_length_8abf5 4 = .ok (.arraylength, 1) := by decide +kernel
theorem dJ0_length_8abf5_5 : decode cJ0_length_8abf5 5 = .ok (.aload_n 0, 1) := by decide +kernel
theorem dJ0_length_8abf5_6 : decode cJ0_length_8abf5 6 = .ok (.invokevirtual 335, 3) := by decide +kernel
theorem dJ0_length_8abf5_9 : decode cJ0_length_8abf5 9 = .ok (.ishr, 1) := by decide +kernel
theorem dJ0_length_8abf5_10 : decode cJ0_length_8abf5 10 = .ok (.ireturn, 1) := by decide +kernel
theorem dJ0_charAt_5068e_0 : decode cJ0_charAt_5068e 0 = .ok (.aload_n 0, 1) := by decide +kernel
theorem dJ0_charAt_5068e_1 : decode cJ0_charAt_5068e 1 = .ok (.invokevirtual 492, 3) := by decide +kernel
theorem dJ0_charAt_5068e_4 : decode cJ0_charAt_5068e 4 = .ok (.ifCond .eq 12, 3) := by decide +kernel
theorem dJ0_charAt_5068e_7 : decode cJ0_charAt_5068e 7 = .ok (.aload_n 0, 1) := by decide +kernel
theorem dJ0_charAt_5068e_8 : decode cJ0_charAt_5068e 8 = .ok (.getfield 9, 3) := by decide +kernel
theorem dJ0_charAt_5068e_11 : decode cJ0_charAt_5068e 11 = .ok (.iload_n 1, 1) := by decide +kernel
theorem dJ0_charAt_5068e_12 : decode cJ0_charAt_5068e 12 = .ok (.invokestatic 495, 3) := by decide +kernel
theorem dJ0_charAt_5068e_15 : decode cJ0_charAt_5068e 15 = .ok (.ireturn, 1) := by decide +kernel
theorem dJ0_charAt_5068e_16 : decode cJ0_charAt_5068e 16 = .ok (.aload_n 0, 1) := by decide +kernel
theorem dJ0_charAt_5068e_17 : decode cJ0_charAt_5068e 17 = .ok (.getfield 9, 3) := by decide +kernel
theorem dJ0_charAt_5068e_20 : decode cJ0_charAt_5068e 20 = .ok (.iload_n 1, 1) := by decide +kernel
theorem dJ0_charAt_5068e_21 : decode cJ0_charAt_5068e 21 = .ok (.invokestatic 498, 3) := by decide +kernel
theorem dJ0_charAt_5068e_24 : decode cJ0_charAt_5068e 24 = .ok (.ireturn, 1) := by decide +kernel
theorem dJ0_coder_7d493_0 : decode cJ0_coder_7d493 0 = .ok (.getstatic 38, 3) := by decide +kernel
theorem dJ0_coder_7d493_3 : decode cJ0_coder_7d493 3 = .ok (.ifCond .eq 10, 3) := by decide +kernel
theorem dJ0_coder_7d493_6 : decode cJ0_coder_7d493 6 = .ok (.aload_n 0, 1) := by decide +kernel
theorem dJ0_coder_7d493_7 : decode cJ0_coder_7d493 7 = .ok (.getfield 15, 3) := by decide +kernel
theorem dJ0_coder_7d493_10 : decode cJ0_coder_7d493 10 = .ok (.goto 4, 3) := by decide +kernel
theorem dJ0_coder_7d493_13 : decode cJ0_coder_7d493 13 = .ok (.iconst 1, 1) := by decide +kernel
theorem dJ0_coder_7d493_14 : decode cJ0_coder_7d493 14 = .ok (.ireturn, 1) := by decide +kernel
theorem dJ0_isLatin1_aae02_0 : decode cJ0_isLatin1_aae02 0 = .ok (.getstatic 38, 3) := by decide +kernel
theorem dJ0_isLatin1_aae02_3 : decode cJ0_isLatin1_aae02 3 = .ok (.ifCond .eq 14, 3) := by decide +kernel
theorem dJ0_isLatin1_aae02_6 : decode cJ0_isLatin1_aae02 6 = .ok (.aload_n 0, 1) := by decide +kernel
theorem dJ0_isLatin1_aae02_7 : decode cJ0_isLatin1_aae02 7 = .ok (.getfield 15, 3) := by decide +kernel
theorem dJ0_isLatin1_aae02_10 : decode cJ0_isLatin1_aae02 10 = .ok (.ifCond .ne 7, 3) := by decide +kernel
theorem dJ0_isLatin1_aae02_13 : decode cJ0_isLatin1_aae02 13 = .ok (.iconst 1, 1) := by decide +kernel
theorem dJ0_isLatin1_aae02_14 : decode cJ0_isLatin1_aae02 14 = .ok (.goto 4, 3) := by decide +kernel
theorem dJ0_isLatin1_aae02_17 : decode cJ0_isLatin1_aae02 17 = .ok (.iconst 0, 1) := by decide +kernel
theorem dJ0_isLatin1_aae02_18 : decode cJ0_isLatin1_aae02 18 = .ok (.ireturn, 1) := by decide +kernel
theorem dJ0_checkIndex_df160_0 : decode cJ0_checkIndex_df160 0 = .ok (.iload_n 0, 1) := by decide +kernel
theorem dJ0_checkIndex_df160_1 : decode cJ0_checkIndex_df160 1 = .ok (.iload_n 1, 1) := by decide +kernel
theorem dJ0_checkIndex_df160_2 : decode cJ0_checkIndex_df160 2 = .ok (.getstatic 1053, 3) := by decide +kernel
theorem dJ0_checkIndex_df160_5 : decode cJ0_checkIndex_df160 5 = .ok (.invokestatic 1059, 3) := by decide +kernel
theorem dJ0_checkIndex_df160_8 : decode cJ0_checkIndex_df160 8 = .ok (.pop, 1) := by decide +kernel
theorem dJ0_checkIndex_df160_9 : decode cJ0_checkIndex_df160 9 = .ok (.return_, 1) := by decide +kernel
theorem dJ1_charAt_3b067_0 : decode cJ1_charAt_3b067 0 = .ok (.iload_n 1, 1) := by decide +kernel
theorem dJ1_charAt_3b067_1 : decode cJ1_charAt_3b067 1 = .ok (.aload_n 0, 1) := by decide +kernel
theorem dJ1_charAt_3b067_2 : decode cJ1_charAt_3b067 2 = .ok (.arraylength, 1) := by decide +kernel
theorem dJ1_charAt_3b067_3 : decode cJ1_charAt_3b067 3 = .ok (.invokestatic 9, 3) := by decide +kernel
theorem dJ1_charAt_3b067_6 : decode cJ1_charAt_3b067 6 = .ok (.aload_n 0, 1) := by decide +kernel
theorem dJ1_charAt_3b067_7 : decode cJ1_charAt_3b067 7 = .ok (.iload_n 1, 1) := by decide +kernel
theorem dJ1_charAt_3b067_8 : decode cJ1_charAt_3b067 8 = .ok (.baload, 1) := by decide +kernel
theorem dJ1_charAt_3b067_9 : decode cJ1_charAt_3b067 9 = .ok (.sipush 255, 3) := by decide +kernel
theorem dJ1_charAt_3b067_12 : decode cJ1_charAt_3b067 12 = .ok (.iand, 1) := by decide +kernel
theorem dJ1_charAt_3b067_13 : decode cJ1_charAt_3b067 13 = .ok (.i2c, 1) := by decide +kernel
theorem dJ1_charAt_3b067_14 : decode cJ1_charAt_3b067 14 = .ok (.ireturn, 1) := by decide +kernel
theorem dJ2_getChar_3b067_0 : decode cJ2_getChar_3b067 0 = .ok (.getstatic 44, 3) := by decide +kernel
theorem dJ2_getChar_3b067_3 : decode cJ2_getChar_3b067 3 = .ok (.ifCond .ne 25, 3) := by decide +kernel
theorem dJ2_getChar_3b067_6 : decode cJ2_getChar_3b067 6 = .ok (.iload_n 1, 1) := by decide +kernel
theorem dJ2_getChar_3b067_7 : decode cJ2_getChar_3b067 7 = .ok (.ifCond .lt 11, 3) := by decide +kernel
theorem dJ2_getChar_3b067_10 : decode cJ2_getChar_3b067 10 = .ok (.iload_n 1, 1) := by decide +kernel
theorem dJ2_getChar_3b067_11 : decode cJ2_getChar_3b067 11 = .ok (.aload_n 0, 1) := by decide +kernel
theorem dJ2_getChar_3b067_12 : decode cJ2_getChar_3b067 12 = .ok (.invokestatic 48, 3) := by decide +kernel
theorem dJ2_getChar_3b067_15 : decode cJ2_getChar_3b067 15 = .ok (.if_icmp .lt 13, 3) := by decide +kernel
theorem dJ2_getChar_3b067_18 : decode cJ2_getChar_3b067 18 = .ok (.new 52, 3) := by decide +kernel
theorem dJ2_getChar_3b067_21 : decode cJ2_getChar_3b067 21 = .ok (.dup, 1) := by decide +kernel
theorem dJ2_getChar_3b067_22 : decode cJ2_getChar_3b067 22 = .ok (.ldc 54, 2) := by decide +kernel
theorem dJ2_getChar_3b067_24 : decode cJ2_getChar_3b067 24 = .ok (.invokespecial 56, 3) := by decide +kernel
theorem dJ2_getChar_3b067_27 : decode cJ2_getChar_3b067 27 = .ok (.athrow, 1) := by decide +kernel
theorem dJ2_getChar_3b067_28 : decode cJ2_getChar_3b067 28 = .ok (.iload_n 1, 1) := by decide +kernel
theorem dJ2_getChar_3b067_29 : decode cJ2_getChar_3b067 29 = .ok (.iconst 1, 1) := by decide +kernel
theorem dJ2_getChar_3b067_30 : decode cJ2_getChar_3b067 30 = .ok (.ishl, 1) := by decide +kernel
theorem dJ2_getChar_3b067_31 : decode cJ2_getChar_3b067 31 = .ok (.istore_n 1, 1) := by decide +kernel
theorem dJ2_getChar_3b067_32 : decode cJ2_getChar_3b067 32 = .ok (.aload_n 0, 1) := by decide +kernel
theorem dJ2_getChar_3b067_33 : decode cJ2_getChar_3b067 33 = .ok (.iload_n 1, 1) := by decide +kernel
theorem dJ2_getChar_3b067_34 : decode cJ2_getChar_3b067 34 = .ok (.iinc 1 1, 3) := by decide +kernel
theorem dJ2_getChar_3b067_37 : decode cJ2_getChar_3b067 37 = .ok (.baload, 1) := by decide +kernel
theorem dJ2_getChar_3b067_38 : decode cJ2_getChar_3b067 38 = .ok (.sipush 255, 3) := by decide +kernel
theorem dJ2_getChar_3b067_41 : decode cJ2_getChar_3b067 41 = .ok (.iand, 1) := by decide +kernel
theorem dJ2_getChar_3b067_42 : decode cJ2_getChar_3b067 42 = .ok (.getstatic 59, 3) := by decide +kernel
theorem dJ2_getChar_3b067_45 : decode cJ2_getChar_3b067 45 = .ok (.ishl, 1) := by decide +kernel
theorem dJ2_getChar_3b067_46 : decode cJ2_getChar_3b067 46 = .ok (.aload_n 0, 1) := by decide +kernel
theorem dJ2_getChar_3b067_47 : decode cJ2_getChar_3b067 47 = .ok (.iload_n 1, 1) := by decide +kernel
theorem dJ2_getChar_3b067_48 : decode cJ2_getChar_3b067 48 = .ok (.baload, 1) := by decide +kernel
theorem dJ2_getChar_3b067_49 : decode cJ2_getChar_3b067 49 = .ok (.sipush 255, 3) := by decide +kernel
theorem dJ2_getChar_3b067_52 : decode cJ2_getChar_3b067 52 = .ok (.iand, 1) := by decide +kernel
theorem dJ2_getChar_3b067_53 : decode cJ2_getChar_3b067 53 = .ok (.getstatic 63, 3) := by decide +kernel
theorem dJ2_getChar_3b067_56 : decode cJ2_getChar_3b067 56 = .ok (.ishl, 1) := by decide +kernel
theorem dJ2_getChar_3b067_57 : decode cJ2_getChar_3b067 57 = .ok (.ior, 1) := by decide +kernel
theorem dJ2_getChar_3b067_58 : decode cJ2_getChar_3b067 58 = .ok (.i2c, 1) := by decide +kernel
theorem dJ2_getChar_3b067_59 : decode cJ2_getChar_3b067 59 = .ok (.ireturn, 1) := by decide +kernel
theorem dJ2_length_9d52b_0 : decode cJ2_length_9d52b 0 = .ok (.aload_n 0, 1) := by decide +kernel
theorem dJ2_length_9d52b_1 : decode cJ2_length_9d52b 1 = .ok (.arraylength, 1) := by decide +kernel
theorem dJ2_length_9d52b_2 : decode cJ2_length_9d52b 2 = .ok (.iconst 1, 1) := by decide +kernel
theorem dJ2_length_9d52b_3 : decode cJ2_length_9d52b 3 = .ok (.ishr, 1) := by decide +kernel
theorem dJ2_length_9d52b_4 : decode cJ2_length_9d52b 4 = .ok (.ireturn, 1) := by decide +kernel
theorem dJ2_charAt_3b067_0 : decode cJ2_charAt_3b067 0 = .ok (.iload_n 1, 1) := by decide +kernel
theorem dJ2_charAt_3b067_1 : decode cJ2_charAt_3b067 1 = .ok (.aload_n 0, 1) := by decide +kernel
theorem dJ2_charAt_3b067_2 : decode cJ2_charAt_3b067 2 = .ok (.invokestatic 67, 3) := by decide +kernel
theorem dJ2_charAt_3b067_5 : decode cJ2_charAt_3b067 5 = .ok (.aload_n 0, 1) := by decide +kernel
theorem dJ2_charAt_3b067_6 : decode cJ2_charAt_3b067 6 = .ok (.iload_n 1, 1) := by decide +kernel
theorem dJ2_charAt_3b067_7 : decode cJ2_charAt_3b067 7 = .ok (.invokestatic 71, 3) := by decide +kernel
theorem dJ2_charAt_3b067_10 : decode cJ2_charAt_3b067 10 = .ok (.ireturn, 1) := by decide +kernel
theorem dJ2_checkIndex_2214a_0 : decode cJ2_checkIndex_2214a 0 = .ok (.iload_n 0, 1) := by decide +kernel
theorem dJ2_checkIndex_2214a_1 : decode cJ2_checkIndex_2214a 1 = .ok (.aload_n 1, 1) := by decide +kernel
theorem dJ2_checkIndex_2214a_2 : decode cJ2_checkIndex_2214a 2 = .ok (.invokestatic 48, 3) := by decide +kernel
theorem dJ2_checkIndex_2214a_5 : decode cJ2_checkIndex_2214a 5 = .ok (.invokestatic 414, 3) := by decide +kernel
theorem dJ2_checkIndex_2214a_8 : decode cJ2_checkIndex_2214a 8 = .ok (.return_, 1) := by decide +kernel
theorem dJ3_checkIndex_8e157_0 : decode cJ3_checkIndex_8e157 0 = .ok (.iload_n 0, 1) := by decide +kernel
theorem dJ3_checkIndex_8e157_1 : decode cJ3_checkIndex_8e157 1 = .ok (.ifCond .lt 8, 3) := by decide +kernel
theorem dJ3_checkIndex_8e157_4 : decode cJ3_checkIndex_8e157 4 = .ok (.iload_n 0, 1) := by decide +kernel
theorem dJ3_checkIndex_8e157_5 : decode cJ3_checkIndex_8e157 5 = .ok (.iload_n 1, 1) := by decide +kernel
theorem dJ3_checkIndex_8e157_6 : decode cJ3_checkIndex_8e157 6 = .ok (.if_icmp .lt 10, 3) := by decide +kernel
theorem dJ3_checkIndex_8e157_9 : decode cJ3_checkIndex_8e157 9 = .ok (.aload_n 2, 1) := by decide +kernel
theorem dJ3_checkIndex_8e157_10 : decode cJ3_checkIndex_8e157 10 = .ok (.iload_n 0, 1) := by decide +kernel
theorem dJ3_checkIndex_8e157_11 : decode cJ3_checkIndex_8e157 11 = .ok (.iload_n 1, 1) := by decide +kernel
theorem dJ3_checkIndex_8e157_12 : decode cJ3_checkIndex_8e157 12 = .ok (.invokestatic 95, 3) := by decide +kernel
theorem dJ3_checkIndex_8e157_15 : decode cJ3_checkIndex_8e157 15 = .ok (.athrow, 1) := by decide +kernel
theorem dJ3_checkIndex_8e157_16 : decode cJ3_checkIndex_8e157 16 = .ok (.iload_n 0, 1) := by decide +kernel
theorem dJ3_checkIndex_8e157_17 : decode cJ3_checkIndex_8e157 17 = .ok (.ireturn, 1) := by decide +kernel
theorem dL_law_0 : decode cL_law 0 = .ok (.new 7, 3) := by decide +kernel
theorem dL_law_3 : decode cL_law 3 = .ok (.dup, 1) := by decide +kernel
theorem dL_law_4 : decode cL_law 4 = .ok (.invokespecial 9, 3) := by decide +kernel
theorem dL_law_7 : decode cL_law 7 = .ok (.astore_n 1, 1) := by decide +kernel
theorem dL_law_8 : decode cL_law 8 = .ok (.new 10, 3) := by decide +kernel
theorem dL_law_11 : decode cL_law 11 = .ok (.dup, 1) := by decide +kernel
theorem dL_law_12 : decode cL_law 12 = .ok (.invokespecial 12, 3) := by decide +kernel
theorem dL_law_15 : decode cL_law 15 = .ok (.astore_n 2, 1) := by decide +kernel
theorem dL_law_16 : decode cL_law 16 = .ok (.iconst 0, 1) := by decide +kernel
theorem dL_law_17 : decode cL_law 17 = .ok (.istore_n 3, 1) := by decide +kernel
theorem dL_law_18 : decode cL_law 18 = .ok (.iload_n 3, 1) := by decide +kernel
theorem dL_law_19 : decode cL_law 19 = .ok (.aload_n 0, 1) := by decide +kernel
theorem dL_law_20 : decode cL_law 20 = .ok (.arraylength, 1) := by decide +kernel
theorem dL_law_21 : decode cL_law 21 = .ok (.bipush 6, 2) := by decide +kernel
theorem dL_law_23 : decode cL_law 23 = .ok (.isub, 1) := by decide +kernel
theorem dL_law_24 : decode cL_law 24 = .ok (.if_icmp .gt 1031, 3) := by decide +kernel
theorem dL_law_27 : decode cL_law 27 = .ok (.aload_n 0, 1) := by decide +kernel
theorem dL_law_28 : decode cL_law 28 = .ok (.iload_n 3, 1) := by decide +kernel
theorem dL_law_29 : decode cL_law 29 = .ok (.iaload, 1) := by decide +kernel
theorem dL_law_30 : decode cL_law 30 = .ok (.bipush 31, 2) := by decide +kernel
theorem dL_law_32 : decode cL_law 32 = .ok (.iand, 1) := by decide +kernel
theorem dL_law_33 : decode cL_law 33 = .ok (.tableswitch 1016 0 26 #[123, 166, 199, 232, 265, 298, 321, 334, 357, 380, 403, 446, 479, 512, 535, 559, 602, 645, 678, 732, 745, 758, 781, 824, 867, 930, 983], 123) := by decide +kernel
theorem dL_law_156 : decode cL_law 156 = .ok (.aload_n 1, 1) := by decide +kernel
theorem dL_law_157 : decode cL_law 157 = .ok (.aload_n 0, 1) := by decide +kernel
theorem dL_law_158 : decode cL_law 158 = .ok (.iload_n 3, 1) := by decide +kernel
theorem dL_law_159 : decode cL_law 159 = .ok (.iconst 1, 1) := by decide +kernel
theorem dL_law_160 : decode cL_law 160 = .ok (.iadd, 1) := by decide +kernel
theorem dL_law_161 : decode cL_law 161 = .ok (.iaload, 1) := by decide +kernel
theorem dL_law_162 : decode cL_law 162 = .ok (.aload_n 0, 1) := by decide +kernel
theorem dL_law_163 : decode cL_law 163 = .ok (.iload_n 3, 1) := by decide +kernel
theorem dL_law_164 : decode cL_law 164 = .ok (.iconst 2, 1) := by decide +kernel
theorem dL_law_165 : decode cL_law 165 = .ok (.iadd, 1) := by decide +kernel
theorem dL_law_166 : decode cL_law 166 = .ok (.iaload, 1) := by decide +kernel
theorem dL_law_167 : decode cL_law 167 = .ok (.aload_n 0, 1) := by decide +kernel
theorem dL_law_168 : decode cL_law 168 = .ok (.iload_n 3, 1) := by decide +kernel
theorem dL_law_169 : decode cL_law 169 = .ok (.iconst 3, 1) := by decide +kernel
theorem dL_law_170 : decode cL_law 170 = .ok (.iadd, 1) := by decide +kernel
theorem dL_law_171 : decode cL_law 171 = .ok (.iaload, 1) := by decide +kernel
theorem dL_law_172 : decode cL_law 172 = .ok (.invokevirtual 13, 3) := by decide +kernel
theorem dL_law_175 : decode cL_law 175 = .ok (.aload_n 2, 1) := by decide +kernel
theorem dL_law_176 : decode cL_law 176 = .ok (.aload_n 0, 1) := by decide +kernel
theorem dL_law_177 : decode cL_law 177 = .ok (.iload_n 3, 1) := by decide +kernel
theorem dL_law_178 : decode cL_law 178 = .ok (.iconst 1, 1) := by decide +kernel
theorem dL_law_179 : decode cL_law 179 = .ok (.iadd, 1) := by decide +kernel
theorem dL_law_180 : decode cL_law 180 = .ok (.iaload, 1) := by decide +kernel
theorem dL_law_181 : decode cL_law 181 = .ok (.aload_n 0, 1) := by decide +kernel
theorem dL_law_182 : decode cL_law 182 = .ok (.iload_n 3, 1) := by decide +kernel
theorem dL_law_183 : decode cL_law 183 = .ok (.iconst 2, 1) := by decide +kernel
theorem dL_law_184 : decode cL_law 184 = .ok (.iadd, 1) := by decide +kernel
theorem dL_law_185 : decode cL_law 185 = .ok (.iaload, 1) := by decide +kernel
theorem dL_law_186 : decode cL_law 186 = .ok (.aload_n 0, 1) := by decide +kernel
theorem dL_law_187 : decode cL_law 187 = .ok (.iload_n 3, 1) := by decide +kernel
theorem dL_law_188 : decode cL_law 188 = .ok (.iconst 3, 1) := by decide +kernel
theorem dL_law_189 : decode cL_law 189 = .ok (.iadd, 1) := by decide +kernel
theorem dL_law_190 : decode cL_law 190 = .ok (.iaload, 1) := by decide +kernel
theorem dL_law_191 : decode cL_law 191 = .ok (.invokevirtual 17, 3) := by decide +kernel
theorem dL_law_194 : decode cL_law 194 = .ok (.if_icmp .eq 855, 3) := by decide +kernel
theorem dL_law_197 : decode cL_law 197 = .ok (.iconst 0, 1) := by decide +kernel
theorem dL_law_198 : decode cL_law 198 = .ok (.ireturn, 1) := by decide +kernel
theorem dL_law_199 : decode cL_law 199 = .ok (.aload_n 1, 1) := by decide +kernel
theorem dL_law_200 : decode cL_law 200 = .ok (.aload_n 0, 1) := by decide +kernel
theorem dL_law_201 : decode cL_law 201 = .ok (.iload_n 3, 1) := by decide +kernel
theorem dL_law_202 : decode cL_law 202 = .ok (.iconst 1, 1) := by decide +kernel
theorem dL_law_203 : decode cL_law 203 = .ok (.iadd, 1) := by decide +kernel
theorem dL_law_204 : decode cL_law 204 = .ok (.iaload, 1) := by decide +kernel
theorem dL_law_205 : decode cL_law 205 = .ok (.aload_n 0, 1) := by decide +kernel
theorem dL_law_206 : decode cL_law 206 = .ok (.iload_n 3, 1) := by decide +kernel
theorem dL_law_207 : decode cL_law 207 = .ok (.iconst 2, 1) := by decide +kernel
theorem dL_law_208 : decode cL_law 208 = .ok (.iadd, 1) := by decide +kernel
theorem dL_law_209 : decode cL_law 209 = .ok (.iaload, 1) := by decide +kernel
theorem dL_law_210 : decode cL_law 210 = .ok (.invokevirtual 18, 3) := by decide +kernel
theorem dL_law_213 : decode cL_law 213 = .ok (.aload_n 2, 1) := by decide +kernel
theorem dL_law_214 : decode cL_law 214 = .ok (.aload_n 0, 1) := by decide +kernel
theorem dL_law_215 : decode cL_law 215 = .ok (.iload_n 3, 1) := by decide +kernel
theorem dL_law_216 : decode cL_law 216 = .ok (.iconst 1, 1) := by decide +kernel
theorem dL_law_217 : decode cL_law 217 = .ok (.iadd, 1) := by decide +kernel
theorem dL_law_218 : decode cL_law 218 = .ok (.iaload, 1) := by decide +kernel
theorem dL_law_219 : decode cL_law 219 = .ok (.aload_n 0, 1) := by decide +kernel
theorem dL_law_220 : decode cL_law 220 = .ok (.iload_n 3, 1) := by decide +kernel
theorem dL_law_221 : decode cL_law 221 = .ok (.iconst 2, 1) := by decide +kernel
theorem dL_law_222 : decode cL_law 222 = .ok (.iadd, 1) := by decide +kernel
theorem dL_law_223 : decode cL_law 223 = .ok (.iaload, 1) := by decide +kernel
theorem dL_law_224 : decode cL_law 224 = .ok (.invokevirtual 22, 3) := by decide +kernel
theorem dL_law_227 : decode cL_law 227 = .ok (.if_icmp .eq 822, 3) := by decide +kernel
theorem dL_law_230 : decode cL_law 230 = .ok (.iconst 0, 1) := by decide +kernel
theorem dL_law_231 : decode cL_law 231 = .ok (.ireturn, 1) := by decide +kernel
theorem dL_law_232 : decode cL_law 232 = .ok (.aload_n 1, 1) := by decide +kernel
theorem dL_law_233 : decode cL_law 233 = .ok (.aload_n 0, 1) := by decide +kernel
theorem dL_law_234 : decode cL_law 234 = .ok (.iload_n 3, 1) := by decide +kernel
theorem dL_law_235 : decode cL_law 235 = .ok (.iconst 1, 1) := by decide +kernel
theorem dL_law_236 : decode cL_law 236 = .ok (.iadd, 1) := by decide +kernel
theorem dL_law_237 : decode cL_law 237 = .ok (.iaload, 1) := by decide +kernel
theorem dL_law_238 : decode cL_law 238 = .ok (.aload_n 0, 1) := by decide +kernel
theorem dL_law_239 : decode cL_law 239 = .ok (.iload_n 3, 1) := by decide +kernel
theorem dL_law_240 : decode cL_law 240 = .ok (.iconst 2, 1) := by decide +kernel
theorem dL_law_241 : decode cL_law 241 = .ok (.iadd, 1) := by decide +kernel
theorem dL_law_242 : decode cL_law 242 = .ok (.iaload, 1) := by decide +kernel
theorem dL_law_243 : decode cL_law 243 = .ok (.invokevirtual 23, 3) := by decide +kernel
theorem dL_law_246 : decode cL_law 246 = .ok (.aload_n 2, 1) := by decide +kernel
theorem dL_law_247 : decode cL_law 247 = .ok (.aload_n 0, 1) := by decide +kernel
theorem dL_law_248 : decode cL_law 248 = .ok (.iload_n 3, 1) := by decide +kernel
theorem dL_law_249 : decode cL_law 249 = .ok (.iconst 1, 1) := by decide +kernel
theorem dL_law_250 : decode cL_law 250 = .ok (.iadd, 1) := by decide +kernel
theorem dL_law_251 : decode cL_law 251 = .ok (.iaload, 1) := by decide +kernel
theorem dL_law_252 : decode cL_law 252 = .ok (.aload_n 0, 1) := by decide +kernel
theorem dL_law_253 : decode cL_law 253 = .ok (.iload_n 3, 1) := by decide +kernel
theorem dL_law_254 : decode cL_law 254 = .ok (.iconst 2, 1) := by decide +kernel
theorem dL_law_255 : decode cL_law 255 = .ok (.iadd, 1) := by decide +kernel
theorem dL_law_256 : decode cL_law 256 = .ok (.iaload, 1) := by decide +kernel
theorem dL_law_257 : decode cL_law 257 = .ok (.invokevirtual 26, 3) := by decide +kernel
theorem dL_law_260 : decode cL_law 260 = .ok (.if_icmp .eq 789, 3) := by decide +kernel
theorem dL_law_263 : decode cL_law 263 = .ok (.iconst 0, 1) := by decide +kernel
theorem dL_law_264 : decode cL_law 264 = .ok (.ireturn, 1) := by decide +kernel
theorem dL_law_265 : decode cL_law 265 = .ok (.aload_n 1, 1) := by decide +kernel
theorem dL_law_266 : decode cL_law 266 = .ok (.aload_n 0, 1) := by decide +kernel
theorem dL_law_267 : decode cL_law 267 = .ok (.iload_n 3, 1) := by decide +kernel
theorem dL_law_268 : decode cL_law 268 = .ok (.iconst 1, 1) := by decide +kernel
theorem dL_law_269 : decode cL_law 269 = .ok (.iadd, 1) := by decide +kernel
theorem dL_law_270 : decode cL_law 270 = .ok (.iaload, 1) := by decide +kernel
theorem dL_law_271 : decode cL_law 271 = .ok (.aload_n 0, 1) := by decide +kernel
theorem dL_law_272 : decode cL_law 272 = .ok (.iload_n 3, 1) := by decide +kernel
theorem dL_law_273 : decode cL_law 273 = .ok (.iconst 2, 1) := by decide +kernel
theorem dL_law_274 : decode cL_law 274 = .ok (.iadd, 1) := by decide +kernel
theorem dL_law_275 : decode cL_law 275 = .ok (.iaload, 1) := by decide +kernel
theorem dL_law_276 : decode cL_law 276 = .ok (.invokevirtual 27, 3) := by decide +kernel
theorem dL_law_279 : decode cL_law 279 = .ok (.aload_n 2, 1) := by decide +kernel
theorem dL_law_280 : decode cL_law 280 = .ok (.aload_n 0, 1) := by decide +kernel
theorem dL_law_281 : decode cL_law 281 = .ok (.iload_n 3, 1) := by decide +kernel
theorem dL_law_282 : decode cL_law 282 = .ok (.iconst 1, 1) := by decide +kernel
theorem dL_law_283 : decode cL_law 283 = .ok (.iadd, 1) := by decide +kernel
theorem dL_law_284 : decode cL_law 284 = .ok (.iaload, 1) := by decide +kernel
theorem dL_law_285 : decode cL_law 285 = .ok (.aload_n 0, 1) := by decide +kernel
theorem dL_law_286 : decode cL_law 286 = .ok (.iload_n 3, 1) := by decide +kernel
theorem dL_law_287 : decode cL_law 287 = .ok (.iconst 2, 1) := by decide +kernel
theorem dL_law_288 : decode cL_law 288 = .ok (.iadd, 1) := by decide +kernel
theorem dL_law_289 : decode cL_law 289 = .ok (.iaload, 1) := by decide +kernel
theorem dL_law_290 : decode cL_law 290 = .ok (.invokevirtual 30, 3) := by decide +kernel
theorem dL_law_293 : decode cL_law 293 = .ok (.if_icmp .eq 756, 3) := by decide +kernel
theorem dL_law_296 : decode cL_law 296 = .ok (.iconst 0, 1) := by decide +kernel
theorem dL_law_297 : decode cL_law 297 = .ok (.ireturn, 1) := by decide +kernel
theorem dL_law_298 : decode cL_law 298 = .ok (.aload_n 1, 1) := by decide +kernel
theorem dL_law_299 : decode cL_law 299 = .ok (.aload_n 0, 1) := by decide +kernel
theorem dL_law_300 : decode cL_law 300 = .ok (.iload_n 3, 1) := by decide +kernel
theorem dL_law_301 : decode cL_law 301 = .ok (.iconst 1, 1) := by decide +kernel
theorem dL_law_302 : decode cL_law 302 = .ok (.iadd, 1) := by decide +kernel
theorem dL_law_303 : decode cL_law 303 = .ok (.iaload, 1) := by decide +kernel
theorem dL_law_304 : decode cL_law 304 = .ok (.aload_n 0, 1) := by decide +kernel
theorem dL_law_305 : decode cL_law 305 = .ok (.iload_n 3, 1) := by decide +kernel
theorem dL_law_306 : decode cL_law 306 = .ok (.iconst 2, 1) := by decide +kernel
theorem dL_law_307 : decode cL_law 307 = .ok (.iadd, 1) := by decide +kernel
theorem dL_law_308 : decode cL_law 308 = .ok (.iaload, 1) := by decide +kernel
theorem dL_law_309 : decode cL_law 309 = .ok (.invokevirtual 31, 3) := by decide +kernel
theorem dL_law_312 : decode cL_law 312 = .ok (.aload_n 2, 1) := by decide +kernel
theorem dL_law_313 : decode cL_law 313 = .ok (.aload_n 0, 1) := by decide +kernel
theorem dL_law_314 : decode cL_law 314 = .ok (.iload_n 3, 1) := by decide +kernel
theorem dL_law_315 : decode cL_law 315 = .ok (.iconst 1, 1) := by decide +kernel
theorem dL_law_316 : decode cL_law 316 = .ok (.iadd, 1) := by decide +kernel
theorem dL_law_317 : decode cL_law 317 = .ok (.iaload, 1) := by decide +kernel
theorem dL_law_318 : decode cL_law 318 = .ok (.aload_n 0, 1) := by decide +kernel
theorem dL_law_319 : decode cL_law 319 = .ok (.iload_n 3, 1) := by decide +kernel
theorem dL_law_320 : decode cL_law 320 = .ok (.iconst 2, 1) := by decide +kernel
theorem dL_law_321 : decode cL_law 321 = .ok (.iadd, 1) := by decide +kernel
theorem dL_law_322 : decode cL_law 322 = .ok (.iaload, 1) := by decide +kernel
theorem dL_law_323 : decode cL_law 323 = .ok (.invokevirtual 34, 3) := by decide +kernel
theorem dL_law_326 : decode cL_law 326 = .ok (.if_icmp .eq 723, 3) := by decide +kernel
theorem dL_law_329 : decode cL_law 329 = .ok (.iconst 0, 1) := by decide +kernel
theorem dL_law_330 : decode cL_law 330 = .ok (.ireturn, 1) := by decide +kernel
theorem dL_law_331 : decode cL_law 331 = .ok (.aload_n 1, 1) := by decide +kernel
theorem dL_law_332 : decode cL_law 332 = .ok (.aload_n 0, 1) := by decide +kernel
theorem dL_law_333 : decode cL_law 333 = .ok (.iload_n 3, 1) := by decide +kernel
theorem dL_law_334 : decode cL_law 334 = .ok (.iconst 1, 1) := by decide +kernel
theorem dL_law_335 : decode cL_law 335 = .ok (.iadd, 1) := by decide +kernel
theorem dL_law_336 : decode cL_law 336 = .ok (.iaload, 1) := by decide +kernel
theorem dL_law_337 : decode cL_law 337 = .ok (.invokevirtual 35, 3) := by decide +kernel
theorem dL_law_340 : decode cL_law 340 = .ok (.aload_n 2, 1) := by decide +kernel
theorem dL_law_341 : decode cL_law 341 = .ok (.aload_n 0, 1) := by decide +kernel
theorem dL_law_342 : decode cL_law 342 = .ok (.iload_n 3, 1) := by decide +kernel
theorem dL_law_343 : decode cL_law 343 = .ok (.iconst 1, 1) := by decide +kernel
theorem dL_law_344 : decode cL_law 344 = .ok (.iadd, 1) := by decide +kernel
theorem dL_law_345 : decode cL_law 345 = .ok (.iaload, 1) := by decide +kernel
theorem dL_law_346 : decode cL_law 346 = .ok (.invokevirtual 39, 3) := by decide +kernel
theorem dL_law_349 : decode cL_law 349 = .ok (.if_icmp .eq 700, 3) := by decide +kernel
theorem dL_law_352 : decode cL_law 352 = .ok (.iconst 0, 1) := by decide +kernel
theorem dL_law_353 : decode cL_law 353 = .ok (.ireturn, 1) := by decide +kernel
theorem dL_law_354 : decode cL_law 354 = .ok (.aload_n 1, 1) := by decide +kernel
theorem dL_law_355 : decode cL_law 355 = .ok (.invokevirtual 40, 3) := by decide +kernel
theorem dL_law_358 : decode cL_law 358 = .ok (.aload_n 2, 1) := by decide +kernel
theorem dL_law_359 : decode cL_law 359 = .ok (.invokevirtual 44, 3) := by decide +kernel
theorem dL_law_362 : decode cL_law 362 = .ok (.if_icmp .eq 687, 3) := by decide +kernel
theorem dL_law_365 : decode cL_law 365 = .ok (.iconst 0, 1) := by decide +kernel
theorem dL_law_366 : decode cL_law 366 = .ok (.ireturn, 1) := by decide +kernel
theorem dL_law_367 : decode cL_law 367 = .ok (.aload_n 1, 1) := by decide +kernel
theorem dL_law_368 : decode cL_law 368 = .ok (.aload_n 0, 1) := by decide +kernel
theorem dL_law_369 : decode cL_law 369 = .ok (.iload_n 3, 1) := by decide +kernel
theorem dL_law_370 : decode cL_law 370 = .ok (.iconst 1, 1) := by decide +kernel
theorem dL_law_371 : decode cL_law 371 = .ok (.iadd, 1) := by decide +kernel
theorem dL_law_372 : decode cL_law 372 = .ok (.iaload, 1) := by decide +kernel
theorem dL_law_373 : decode cL_law 373 = .ok (.invokevirtual 45, 3) := by decide +kernel
theorem dL_law_376 : decode cL_law 376 = .ok (.aload_n 2, 1) := by decide +kernel
theorem dL_law_377 : decode cL_law 377 = .ok (.aload_n 0, 1) := by decide +kernel
theorem dL_law_378 : decode cL_law 378 = .ok (.iload_n 3, 1) := by decide +kernel
theorem dL_law_379 : decode cL_law 379 = .ok (.iconst 1, 1) := by decide +kernel
theorem dL_law_380 : decode cL_law 380 = .ok (.iadd, 1) := by decide +kernel
theorem dL_law_381 : decode cL_law 381 = .ok (.iaload, 1) := by decide +kernel
theorem dL_law_382 : decode cL_law 382 = .ok (.invokevirtual 48, 3) := by decide +kernel
theorem dL_law_385 : decode cL_law 385 = .ok (.if_icmp .eq 664, 3) := by decide +kernel
theorem dL_law_388 : decode cL_law 388 = .ok (.iconst 0, 1) := by decide +kernel
theorem dL_law_389 : decode cL_law 389 = .ok (.ireturn, 1) := by decide +kernel
theorem dL_law_390 : decode cL_law 390 = .ok (.aload_n 1, 1) := by decide +kernel
theorem dL_law_391 : decode cL_law 391 = .ok (.aload_n 0, 1) := by decide +kernel
theorem dL_law_392 : decode cL_law 392 = .ok (.iload_n 3, 1) := by decide +kernel
theorem dL_law_393 : decode cL_law 393 = .ok (.iconst 1, 1) := by decide +kernel
theorem dL_law_394 : decode cL_law 394 = .ok (.iadd, 1) := by decide +kernel
theorem dL_law_395 : decode cL_law 395 = .ok (.iaload, 1) := by decide +kernel
theorem dL_law_396 : decode cL_law 396 = .ok (.invokevirtual 49, 3) := by decide +kernel
theorem dL_law_399 : decode cL_law 399 = .ok (.aload_n 2, 1) := by decide +kernel
theorem dL_law_400 : decode cL_law 400 = .ok (.aload_n 0, 1) := by decide +kernel
theorem dL_law_401 : decode cL_law 401 = .ok (.iload_n 3, 1) := by decide +kernel
theorem dL_law_402 : decode cL_law 402 = .ok (.iconst 1, 1) := by decide +kernel
theorem dL_law_403 : decode cL_law 403 = .ok (.iadd, 1) := by decide +kernel
theorem dL_law_404 : decode cL_law 404 = .ok (.iaload, 1) := by decide +kernel
theorem dL_law_405 : decode cL_law 405 = .ok (.invokevirtual 52, 3) := by decide +kernel
theorem dL_law_408 : decode cL_law 408 = .ok (.if_icmp .eq 641, 3) := by decide +kernel
theorem dL_law_411 : decode cL_law 411 = .ok (.iconst 0, 1) := by decide +kernel
theorem dL_law_412 : decode cL_law 412 = .ok (.ireturn, 1) := by decide +kernel
theorem dL_law_413 : decode cL_law 413 = .ok (.aload_n 1, 1) := by decide +kernel
theorem dL_law_414 : decode cL_law 414 = .ok (.aload_n 0, 1) := by decide +kernel
theorem dL_law_415 : decode cL_law 415 = .ok (.iload_n 3, 1) := by decide +kernel
theorem dL_law_416 : decode cL_law 416 = .ok (.iconst 1, 1) := by decide +kernel
theorem dL_law_417 : decode cL_law 417 = .ok (.iadd, 1) := by decide +kernel
theorem dL_law_418 : decode cL_law 418 = .ok (.iaload, 1) := by decide +kernel
theorem dL_law_419 : decode cL_law 419 = .ok (.invokevirtual 53, 3) := by decide +kernel
theorem dL_law_422 : decode cL_law 422 = .ok (.aload_n 2, 1) := by decide +kernel
theorem dL_law_423 : decode cL_law 423 = .ok (.aload_n 0, 1) := by decide +kernel
theorem dL_law_424 : decode cL_law 424 = .ok (.iload_n 3, 1) := by decide +kernel
theorem dL_law_425 : decode cL_law 425 = .ok (.iconst 1, 1) := by decide +kernel
theorem dL_law_426 : decode cL_law 426 = .ok (.iadd, 1) := by decide +kernel
theorem dL_law_427 : decode cL_law 427 = .ok (.iaload, 1) := by decide +kernel
theorem dL_law_428 : decode cL_law 428 = .ok (.invokevirtual 56, 3) := by decide +kernel
theorem dL_law_431 : decode cL_law 431 = .ok (.if_icmp .eq 618, 3) := by decide +kernel
theorem dL_law_434 : decode cL_law 434 = .ok (.iconst 0, 1) := by decide +kernel
theorem dL_law_435 : decode cL_law 435 = .ok (.ireturn, 1) := by decide +kernel
theorem dL_law_436 : decode cL_law 436 = .ok (.aload_n 1, 1) := by decide +kernel
theorem dL_law_437 : decode cL_law 437 = .ok (.aload_n 0, 1) := by decide +kernel
theorem dL_law_438 : decode cL_law 438 = .ok (.iload_n 3, 1) := by decide +kernel
theorem dL_law_439 : decode cL_law 439 = .ok (.iconst 1, 1) := by decide +kernel
theorem dL_law_440 : decode cL_law 440 = .ok (.iadd, 1) := by decide +kernel
theorem dL_law_441 : decode cL_law 441 = .ok (.iaload, 1) := by decide +kernel
theorem dL_law_442 : decode cL_law 442 = .ok (.aload_n 0, 1) := by decide +kernel
theorem dL_law_443 : decode cL_law 443 = .ok (.iload_n 3, 1) := by decide +kernel
theorem dL_law_444 : decode cL_law 444 = .ok (.iconst 2, 1) := by decide +kernel
theorem dL_law_445 : decode cL_law 445 = .ok (.iadd, 1) := by decide +kernel
theorem dL_law_446 : decode cL_law 446 = .ok (.iaload, 1) := by decide +kernel
theorem dL_law_447 : decode cL_law 447 = .ok (.aload_n 0, 1) := by decide +kernel
theorem dL_law_448 : decode cL_law 448 = .ok (.iload_n 3, 1) := by decide +kernel
theorem dL_law_449 : decode cL_law 449 = .ok (.iconst 3, 1) := by decide +kernel
theorem dL_law_450 : decode cL_law 450 = .ok (.iadd, 1) := by decide +kernel
theorem dL_law_451 : decode cL_law 451 = .ok (.iaload, 1) := by decide +kernel
theorem dL_law_452 : decode cL_law 452 = .ok (.invokevirtual 57, 3) := by decide +kernel
theorem dL_law_455 : decode cL_law 455 = .ok (.aload_n 2, 1) := by decide +kernel
theorem dL_law_456 : decode cL_law 456 = .ok (.aload_n 0, 1) := by decide +kernel
theorem dL_law_457 : decode cL_law 457 = .ok (.iload_n 3, 1) := by decide +kernel
theorem dL_law_458 : decode cL_law 458 = .ok (.iconst 1, 1) := by decide +kernel
theorem dL_law_459 : decode cL_law 459 = .ok (.iadd, 1) := by decide +kernel
theorem dL_law_460 : decode cL_law 460 = .ok (.iaload, 1) := by decide +kernel
theorem dL_law_461 : decode cL_law 461 = .ok (.aload_n 0, 1) := by decide +kernel
theorem dL_law_462 : decode cL_law 462 = .ok (.iload_n 3, 1) := by decide +kernel
theorem dL_law_463 : decode cL_law 463 = .ok (.iconst 2, 1) := by decide +kernel
theorem dL_law_464 : decode cL_law 464 = .ok (.iadd, 1) := by decide +kernel
theorem dL_law_465 : decode cL_law 465 = .ok (.iaload, 1) := by decide +kernel
theorem dL_law_466 : decode cL_law 466 = .ok (.aload_n 0, 1) := by decide +kernel
theorem dL_law_467 : decode cL_law 467 = .ok (.iload_n 3, 1) := by decide +kernel
theorem dL_law_468 : decode cL_law 468 = .ok (.iconst 3, 1) := by decide +kernel
theorem dL_law_469 : decode cL_law 469 = .ok (.iadd, 1) := by decide +kernel
theorem dL_law_470 : decode cL_law 470 = .ok (.iaload, 1) := by decide +kernel
theorem dL_law_471 : decode cL_law 471 = .ok (.invokevirtual 60, 3) := by decide +kernel
theorem dL_law_474 : decode cL_law 474 = .ok (.if_icmp .eq 575, 3) := by decide +kernel
theorem dL_law_477 : decode cL_law 477 = .ok (.iconst 0, 1) := by decide +kernel
theorem dL_law_478 : decode cL_law 478 = .ok (.ireturn, 1) := by decide +kernel
theorem dL_law_479 : decode cL_law 479 = .ok (.aload_n 1, 1) := by decide +kernel
theorem dL_law_480 : decode cL_law 480 = .ok (.aload_n 0, 1) := by decide +kernel
theorem dL_law_481 : decode cL_law 481 = .ok (.iload_n 3, 1) := by decide +kernel
theorem dL_law_482 : decode cL_law 482 = .ok (.iconst 1, 1) := by decide +kernel
theorem dL_law_483 : decode cL_law 483 = .ok (.iadd, 1) := by decide +kernel
theorem dL_law_484 : decode cL_law 484 = .ok (.iaload, 1) := by decide +kernel
theorem dL_law_485 : decode cL_law 485 = .ok (.aload_n 0, 1) := by decide +kernel
theorem dL_law_486 : decode cL_law 486 = .ok (.iload_n 3, 1) := by decide +kernel
theorem dL_law_487 : decode cL_law 487 = .ok (.iconst 2, 1) := by decide +kernel
theorem dL_law_488 : decode cL_law 488 = .ok (.iadd, 1) := by decide +kernel
theorem dL_law_489 : decode cL_law 489 = .ok (.iaload, 1) := by decide +kernel
theorem dL_law_490 : decode cL_law 490 = .ok (.invokevirtual 61, 3) := by decide +kernel
theorem dL_law_493 : decode cL_law 493 = .ok (.aload_n 2, 1) := by decide +kernel
theorem dL_law_494 : decode cL_law 494 = .ok (.aload_n 0, 1) := by decide +kernel
theorem dL_law_495 : decode cL_law 495 = .ok (.iload_n 3, 1) := by decide +kernel
theorem dL_law_496 : decode cL_law 496 = .ok (.iconst 1, 1) := by decide +kernel
theorem dL_law_497 : decode cL_law 497 = .ok (.iadd, 1) := by decide +kernel
theorem dL_law_498 : decode cL_law 498 = .ok (.iaload, 1) := by decide +kernel
theorem dL_law_499 : decode cL_law 499 = .ok (.aload_n 0, 1) := by decide +kernel
theorem dL_law_500 : decode cL_law 500 = .ok (.iload_n 3, 1) := by decide +kernel
theorem dL_law_501 : decode cL_law 501 = .ok (.iconst 2, 1) := by decide +kernel
theorem dL_law_502 : decode cL_law 502 = .ok (.iadd, 1) := by decide +kernel
theorem dL_law_503 : decode cL_law 503 = .ok (.iaload, 1) := by decide +kernel
theorem dL_law_504 : decode cL_law 504 = .ok (.invokevirtual 64, 3) := by decide +kernel
theorem dL_law_507 : decode cL_law 507 = .ok (.if_icmp .eq 542, 3) := by decide +kernel
theorem dL_law_510 : decode cL_law 510 = .ok (.iconst 0, 1) := by decide +kernel
theorem dL_law_511 : decode cL_law 511 = .ok (.ireturn, 1) := by decide +kernel
theorem dL_law_512 : decode cL_law 512 = .ok (.aload_n 1, 1) := by decide +kernel
theorem dL_law_513 : decode cL_law 513 = .ok (.aload_n 0, 1) := by decide +kernel
theorem dL_law_514 : decode cL_law 514 = .ok (.iload_n 3, 1) := by decide +kernel
theorem dL_law_515 : decode cL_law 515 = .ok (.iconst 1, 1) := by decide +kernel
theorem dL_law_516 : decode cL_law 516 = .ok (.iadd, 1) := by decide +kernel
theorem dL_law_517 : decode cL_law 517 = .ok (.iaload, 1) := by decide +kernel
theorem dL_law_518 : decode cL_law 518 = .ok (.aload_n 0, 1) := by decide +kernel
theorem dL_law_519 : decode cL_law 519 = .ok (.iload_n 3, 1) := by decide +kernel
theorem dL_law_520 : decode cL_law 520 = .ok (.iconst 2, 1) := by decide +kernel
theorem dL_law_521 : decode cL_law 521 = .ok (.iadd, 1) := by decide +kernel
theorem dL_law_522 : decode cL_law 522 = .ok (.iaload, 1) := by decide +kernel
theorem dL_law_523 : decode cL_law 523 = .ok (.invokevirtual 65, 3) := by decide +kernel
theorem dL_law_526 : decode cL_law 526 = .ok (.aload_n 2, 1) := by decide +kernel
theorem dL_law_527 : decode cL_law 527 = .ok (.aload_n 0, 1) := by decide +kernel
theorem dL_law_528 : decode cL_law 528 = .ok (.iload_n 3, 1) := by decide +kernel
theorem dL_law_529 : decode cL_law 529 = .ok (.iconst 1, 1) := by decide +kernel
theorem dL_law_530 : decode cL_law 530 = .ok (.iadd, 1) := by decide +kernel
theorem dL_law_531 : decode cL_law 531 = .ok (.iaload, 1) := by decide +kernel
theorem dL_law_532 : decode cL_law 532 = .ok (.aload_n 0, 1) := by decide +kernel
theorem dL_law_533 : decode cL_law 533 = .ok (.iload_n 3, 1) := by decide +kernel
theorem dL_law_534 : decode cL_law 534 = .ok (.iconst 2, 1) := by decide +kernel
theorem dL_law_535 : decode cL_law 535 = .ok (.iadd, 1) := by decide +kernel
theorem dL_law_536 : decode cL_law 536 = .ok (.iaload, 1) := by decide +kernel
theorem dL_law_537 : decode cL_law 537 = .ok (.invokevirtual 68, 3) := by decide +kernel
theorem dL_law_540 : decode cL_law 540 = .ok (.if_icmp .eq 509, 3) := by decide +kernel
theorem dL_law_543 : decode cL_law 543 = .ok (.iconst 0, 1) := by decide +kernel
theorem dL_law_544 : decode cL_law 544 = .ok (.ireturn, 1) := by decide +kernel
theorem dL_law_545 : decode cL_law 545 = .ok (.aload_n 1, 1) := by decide +kernel
theorem dL_law_546 : decode cL_law 546 = .ok (.aload_n 0, 1) := by decide +kernel
theorem dL_law_547 : decode cL_law 547 = .ok (.iload_n 3, 1) := by decide +kernel
theorem dL_law_548 : decode cL_law 548 = .ok (.iconst 1, 1) := by decide +kernel
theorem dL_law_549 : decode cL_law 549 = .ok (.iadd, 1) := by decide +kernel
theorem dL_law_550 : decode cL_law 550 = .ok (.iaload, 1) := by decide +kernel
theorem dL_law_551 : decode cL_law 551 = .ok (.invokevirtual 69, 3) := by decide +kernel
theorem dL_law_554 : decode cL_law 554 = .ok (.aload_n 2, 1) := by decide +kernel
theorem dL_law_555 : decode cL_law 555 = .ok (.aload_n 0, 1) := by decide +kernel
theorem dL_law_556 : decode cL_law 556 = .ok (.iload_n 3, 1) := by decide +kernel
theorem dL_law_557 : decode cL_law 557 = .ok (.iconst 1, 1) := by decide +kernel
theorem dL_law_558 : decode cL_law 558 = .ok (.iadd, 1) := by decide +kernel
theorem dL_law_559 : decode cL_law 559 = .ok (.iaload, 1) := by decide +kernel
theorem dL_law_560 : decode cL_law 560 = .ok (.invokevirtual 72, 3) := by decide +kernel
theorem dL_law_563 : decode cL_law 563 = .ok (.if_icmp .eq 486, 3) := by decide +kernel
theorem dL_law_566 : decode cL_law 566 = .ok (.iconst 0, 1) := by decide +kernel
theorem dL_law_567 : decode cL_law 567 = .ok (.ireturn, 1) := by decide +kernel
theorem dL_law_568 : decode cL_law 568 = .ok (.aload_n 1, 1) := by decide +kernel
theorem dL_law_569 : decode cL_law 569 = .ok (.aload_n 0, 1) := by decide +kernel
theorem dL_law_570 : decode cL_law 570 = .ok (.iload_n 3, 1) := by decide +kernel
theorem dL_law_571 : decode cL_law 571 = .ok (.iconst 1, 1) := by decide +kernel
theorem dL_law_572 : decode cL_law 572 = .ok (.iadd, 1) := by decide +kernel
theorem dL_law_573 : decode cL_law 573 = .ok (.iaload, 1) := by decide +kernel
theorem dL_law_574 : decode cL_law 574 = .ok (.invokevirtual 73, 3) := by decide +kernel
theorem dL_law_577 : decode cL_law 577 = .ok (.aload_n 2, 1) := by decide +kernel
theorem dL_law_578 : decode cL_law 578 = .ok (.aload_n 0, 1) := by decide +kernel
theorem dL_law_579 : decode cL_law 579 = .ok (.iload_n 3, 1) := by decide +kernel
theorem dL_law_580 : decode cL_law 580 = .ok (.iconst 1, 1) := by decide +kernel
theorem dL_law_581 : decode cL_law 581 = .ok (.iadd, 1) := by decide +kernel
theorem dL_law_582 : decode cL_law 582 = .ok (.iaload, 1) := by decide +kernel
theorem dL_law_583 : decode cL_law 583 = .ok (.invokevirtual 77, 3) := by decide +kernel
theorem dL_law_586 : decode cL_law 586 = .ok (.lcmp, 1) := by decide +kernel
theorem dL_law_587 : decode cL_law 587 = .ok (.ifCond .eq 462, 3) := by decide +kernel
theorem dL_law_590 : decode cL_law 590 = .ok (.iconst 0, 1) := by decide +kernel
theorem dL_law_591 : decode cL_law 591 = .ok (.ireturn, 1) := by decide +kernel
theorem dL_law_592 : decode cL_law 592 = .ok (.aload_n 1, 1) := by decide +kernel
theorem dL_law_593 : decode cL_law 593 = .ok (.aload_n 0, 1) := by decide +kernel
theorem dL_law_594 : decode cL_law 594 = .ok (.iload_n 3, 1) := by decide +kernel
theorem dL_law_595 : decode cL_law 595 = .ok (.iconst 1, 1) := by decide +kernel
theorem dL_law_596 : decode cL_law 596 = .ok (.iadd, 1) := by decide +kernel
theorem dL_law_597 : decode cL_law 597 = .ok (.iaload, 1) := by decide +kernel
theorem dL_law_598 : decode cL_law 598 = .ok (.aload_n 0, 1) := by decide +kernel
theorem dL_law_599 : decode cL_law 599 = .ok (.iload_n 3, 1) := by decide +kernel
theorem dL_law_600 : decode cL_law 600 = .ok (.iconst 2, 1) := by decide +kernel
theorem dL_law_601 : decode cL_law 601 = .ok (.iadd, 1) := by decide +kernel
theorem dL_law_602 : decode cL_law 602 = .ok (.iaload, 1) := by decide +kernel
theorem dL_law_603 : decode cL_law 603 = .ok (.aload_n 0, 1) := by decide +kernel
theorem dL_law_604 : decode cL_law 604 = .ok (.iload_n 3, 1) := by decide +kernel
theorem dL_law_605 : decode cL_law 605 = .ok (.iconst 3, 1) := by decide +kernel
theorem dL_law_606 : decode cL_law 606 = .ok (.iadd, 1) := by decide +kernel
theorem dL_law_607 : decode cL_law 607 = .ok (.iaload, 1) := by decide +kernel
theorem dL_law_608 : decode cL_law 608 = .ok (.invokevirtual 78, 3) := by decide +kernel
theorem dL_law_611 : decode cL_law 611 = .ok (.aload_n 2, 1) := by decide +kernel
theorem dL_law_612 : decode cL_law 612 = .ok (.aload_n 0, 1) := by decide +kernel
theorem dL_law_613 : decode cL_law 613 = .ok (.iload_n 3, 1) := by decide +kernel
theorem dL_law_614 : decode cL_law 614 = .ok (.iconst 1, 1) := by decide +kernel
theorem dL_law_615 : decode cL_law 615 = .ok (.iadd, 1) := by decide +kernel
theorem dL_law_616 : decode cL_law 616 = .ok (.iaload, 1) := by decide +kernel
theorem dL_law_617 : decode cL_law 617 = .ok (.aload_n 0, 1) := by decide +kernel
theorem dL_law_618 : decode cL_law 618 = .ok (.iload_n 3, 1) := by decide +kernel
theorem dL_law_619 : decode cL_law 619 = .ok (.iconst 2, 1) := by decide +kernel
theorem dL_law_620 : decode cL_law 620 = .ok (.iadd, 1) := by decide +kernel
theorem dL_law_621 : decode cL_law 621 = .ok (.iaload, 1) := by decide +kernel
theorem dL_law_622 : decode cL_law 622 = .ok (.aload_n 0, 1) := by decide +kernel
theorem dL_law_623 : decode cL_law 623 = .ok (.iload_n 3, 1) := by decide +kernel
theorem dL_law_624 : decode cL_law 624 = .ok (.iconst 3, 1) := by decide +kernel
theorem dL_law_625 : decode cL_law 625 = .ok (.iadd, 1) := by decide +kernel
theorem dL_law_626 : decode cL_law 626 = .ok (.iaload, 1) := by decide +kernel
theorem dL_law_627 : decode cL_law 627 = .ok (.invokevirtual 81, 3) := by decide +kernel
theorem dL_law_630 : decode cL_law 630 = .ok (.if_icmp .eq 419, 3) := by decide +kernel
theorem dL_law_633 : decode cL_law 633 = .ok (.iconst 0, 1) := by decide +kernel
theorem dL_law_634 : decode cL_law 634 = .ok (.ireturn, 1) := by decide +kernel
theorem dL_law_635 : decode cL_law 635 = .ok (.aload_n 1, 1) := by decide +kernel
theorem dL_law_636 : decode cL_law 636 = .ok (.aload_n 0, 1) := by decide +kernel
theorem dL_law_637 : decode cL_law 637 = .ok (.iload_n 3, 1) := by decide +kernel
theorem dL_law_638 : decode cL_law 638 = .ok (.iconst 1, 1) := by decide +kernel
theorem dL_law_639 : decode cL_law 639 = .ok (.iadd, 1) := by decide +kernel
theorem dL_law_640 : decode cL_law 640 = .ok (.iaload, 1) := by decide +kernel
theorem dL_law_641 : decode cL_law 641 = .ok (.aload_n 0, 1) := by decide +kernel
theorem dL_law_642 : decode cL_law 642 = .ok (.iload_n 3, 1) := by decide +kernel
theorem dL_law_643 : decode cL_law 643 = .ok (.iconst 2, 1) := by decide +kernel
theorem dL_law_644 : decode cL_law 644 = .ok (.iadd, 1) := by decide +kernel
theorem dL_law_645 : decode cL_law 645 = .ok (.iaload, 1) := by decide +kernel
theorem dL_law_646 : decode cL_law 646 = .ok (.aload_n 0, 1) := by decide +kernel
theorem dL_law_647 : decode cL_law 647 = .ok (.iload_n 3, 1) := by decide +kernel
theorem dL_law_648 : decode cL_law 648 = .ok (.iconst 3, 1) := by decide +kernel
theorem dL_law_649 : decode cL_law 649 = .ok (.iadd, 1) := by decide +kernel
theorem dL_law_650 : decode cL_law 650 = .ok (.iaload, 1) := by decide +kernel
theorem dL_law_651 : decode cL_law 651 = .ok (.invokevirtual 82, 3) := by decide +kernel
theorem dL_law_654 : decode cL_law 654 = .ok (.aload_n 2, 1) := by decide +kernel
theorem dL_law_655 : decode cL_law 655 = .ok (.aload_n 0, 1) := by decide +kernel
theorem dL_law_656 : decode cL_law 656 = .ok (.iload_n 3, 1) := by decide +kernel
theorem dL_law_657 : decode cL_law 657 = .ok (.iconst 1, 1) := by decide +kernel
theorem dL_law_658 : decode cL_law 658 = .ok (.iadd, 1) := by decide +kernel
theorem dL_law_659 : decode cL_law 659 = .ok (.iaload, 1) := by decide +kernel
theorem dL_law_660 : decode cL_law 660 = .ok (.aload_n 0, 1) := by decide +kernel
theorem dL_law_661 : decode cL_law 661 = .ok (.iload_n 3, 1) := by decide +kernel
theorem dL_law_662 : decode cL_law 662 = .ok (.iconst 2, 1) := by decide +kernel
theorem dL_law_663 : decode cL_law 663 = .ok (.iadd, 1) := by decide +kernel
theorem dL_law_664 : decode cL_law 664 = .ok (.iaload, 1) := by decide +kernel
theorem dL_law_665 : decode cL_law 665 = .ok (.aload_n 0, 1) := by decide +kernel
theorem dL_law_666 : decode cL_law 666 = .ok (.iload_n 3, 1) := by decide +kernel
theorem dL_law_667 : decode cL_law 667 = .ok (.iconst 3, 1) := by decide +kernel
theorem dL_law_668 : decode cL_law 668 = .ok (.iadd, 1) := by decide +kernel
theorem dL_law_669 : decode cL_law 669 = .ok (.iaload, 1) := by decide +kernel
theorem dL_law_670 : decode cL_law 670 = .ok (.invokevirtual 85, 3) := by decide +kernel
theorem dL_law_673 : decode cL_law 673 = .ok (.if_icmp .eq 376, 3) := by decide +kernel
theorem dL_law_676 : decode cL_law 676 = .ok (.iconst 0, 1) := by decide +kernel
theorem dL_law_677 : decode cL_law 677 = .ok (.ireturn, 1) := by decide +kernel
theorem dL_law_678 : decode cL_law 678 = .ok (.aload_n 1, 1) := by decide +kernel
theorem dL_law_679 : decode cL_law 679 = .ok (.aload_n 0, 1) := by decide +kernel
theorem dL_law_680 : decode cL_law 680 = .ok (.iload_n 3, 1) := by decide +kernel
theorem dL_law_681 : decode cL_law 681 = .ok (.iconst 1, 1) := by decide +kernel
theorem dL_law_682 : decode cL_law 682 = .ok (.iadd, 1) := by decide +kernel
theorem dL_law_683 : decode cL_law 683 = .ok (.iaload, 1) := by decide +kernel
theorem dL_law_684 : decode cL_law 684 = .ok (.aload_n 0, 1) := by decide +kernel
theorem dL_law_685 : decode cL_law 685 = .ok (.iload_n 3, 1) := by decide +kernel
theorem dL_law_686 : decode cL_law 686 = .ok (.iconst 2, 1) := by decide +kernel
theorem dL_law_687 : decode cL_law 687 = .ok (.iadd, 1) := by decide +kernel
theorem dL_law_688 : decode cL_law 688 = .ok (.iaload, 1) := by decide +kernel
theorem dL_law_689 : decode cL_law 689 = .ok (.invokevirtual 86, 3) := by decide +kernel
theorem dL_law_692 : decode cL_law 692 = .ok (.aload_n 2, 1) := by decide +kernel
theorem dL_law_693 : decode cL_law 693 = .ok (.aload_n 0, 1) := by decide +kernel
theorem dL_law_694 : decode cL_law 694 = .ok (.iload_n 3, 1) := by decide +kernel
theorem dL_law_695 : decode cL_law 695 = .ok (.iconst 1, 1) := by decide +kernel
theorem dL_law_696 : decode cL_law 696 = .ok (.iadd, 1) := by decide +kernel
theorem dL_law_697 : decode cL_law 697 = .ok (.iaload, 1) := by decide +kernel
theorem dL_law_698 : decode cL_law 698 = .ok (.aload_n 0, 1) := by decide +kernel
theorem dL_law_699 : decode cL_law 699 = .ok (.iload_n 3, 1) := by decide +kernel
theorem dL_law_700 : decode cL_law 700 = .ok (.iconst 2, 1) := by decide +kernel
theorem dL_law_701 : decode cL_law 701 = .ok (.iadd, 1) := by decide +kernel
theorem dL_law_702 : decode cL_law 702 = .ok (.iaload, 1) := by decide +kernel
theorem dL_law_703 : decode cL_law 703 = .ok (.invokevirtual 89, 3) := by decide +kernel
theorem dL_law_706 : decode cL_law 706 = .ok (.if_icmp .eq 343, 3) := by decide +kernel
theorem dL_law_709 : decode cL_law 709 = .ok (.iconst 0, 1) := by decide +kernel
theorem dL_law_710 : decode cL_law 710 = .ok (.ireturn, 1) := by decide +kernel
theorem dL_law_711 : decode cL_law 711 = .ok (.aload_n 1, 1) := by decide +kernel
theorem dL_law_712 : decode cL_law 712 = .ok (.aload_n 0, 1) := by decide +kernel
theorem dL_law_713 : decode cL_law 713 = .ok (.iload_n 3, 1) := by decide +kernel
theorem dL_law_714 : decode cL_law 714 = .ok (.iconst 1, 1) := by decide +kernel
theorem dL_law_715 : decode cL_law 715 = .ok (.iadd, 1) := by decide +kernel
theorem dL_law_716 : decode cL_law 716 = .ok (.iaload, 1) := by decide +kernel
theorem dL_law_717 : decode cL_law 717 = .ok (.aload_n 0, 1) := by decide +kernel
theorem dL_law_718 : decode cL_law 718 = .ok (.iload_n 3, 1) := by decide +kernel
theorem dL_law_719 : decode cL_law 719 = .ok (.iconst 2, 1) := by decide +kernel
theorem dL_law_720 : decode cL_law 720 = .ok (.iadd, 1) := by decide +kernel
theorem dL_law_721 : decode cL_law 721 = .ok (.iaload, 1) := by decide +kernel
theorem dL_law_722 : decode cL_law 722 = .ok (.aload_n 0, 1) := by decide +kernel
theorem dL_law_723 : decode cL_law 723 = .ok (.iload_n 3, 1) := by decide +kernel
theorem dL_law_724 : decode cL_law 724 = .ok (.iconst 3, 1) := by decide +kernel
theorem dL_law_725 : decode cL_law 725 = .ok (.iadd, 1) := by decide +kernel
theorem dL_law_726 : decode cL_law 726 = .ok (.iaload, 1) := by decide +kernel
theorem dL_law_727 : decode cL_law 727 = .ok (.aload_n 0, 1) := by decide +kernel
theorem dL_law_728 : decode cL_law 728 = .ok (.iload_n 3, 1) := by decide +kernel
theorem dL_law_729 : decode cL_law 729 = .ok (.iconst 4, 1) := by decide +kernel
theorem dL_law_730 : decode cL_law 730 = .ok (.iadd, 1) := by decide +kernel
theorem dL_law_731 : decode cL_law 731 = .ok (.iaload, 1) := by decide +kernel
theorem dL_law_732 : decode cL_law 732 = .ok (.invokevirtual 90, 3) := by decide +kernel
theorem dL_law_735 : decode cL_law 735 = .ok (.aload_n 2, 1) := by decide +kernel
theorem dL_law_736 : decode cL_law 736 = .ok (.aload_n 0, 1) := by decide +kernel
theorem dL_law_737 : decode cL_law 737 = .ok (.iload_n 3, 1) := by decide +kernel
theorem dL_law_738 : decode cL_law 738 = .ok (.iconst 1, 1) := by decide +kernel
theorem dL_law_739 : decode cL_law 739 = .ok (.iadd, 1) := by decide +kernel
theorem dL_law_740 : decode cL_law 740 = .ok (.iaload, 1) := by decide +kernel
theorem dL_law_741 : decode cL_law 741 = .ok (.aload_n 0, 1) := by decide +kernel
theorem dL_law_742 : decode cL_law 742 = .ok (.iload_n 3, 1) := by decide +kernel
theorem dL_law_743 : decode cL_law 743 = .ok (.iconst 2, 1) := by decide +kernel
theorem dL_law_744 : decode cL_law 744 = .ok (.iadd, 1) := by decide +kernel
theorem dL_law_745 : decode cL_law 745 = .ok (.iaload, 1) := by decide +kernel
theorem dL_law_746 : decode cL_law 746 = .ok (.aload_n 0, 1) := by decide +kernel
theorem dL_law_747 : decode cL_law 747 = .ok (.iload_n 3, 1) := by decide +kernel
theorem dL_law_748 : decode cL_law 748 = .ok (.iconst 3, 1) := by decide +kernel
theorem dL_law_749 : decode cL_law 749 = .ok (.iadd, 1) := by decide +kernel
theorem dL_law_750 : decode cL_law 750 = .ok (.iaload, 1) := by decide +kernel
theorem dL_law_751 : decode cL_law 751 = .ok (.aload_n 0, 1) := by decide +kernel
theorem dL_law_752 : decode cL_law 752 = .ok (.iload_n 3, 1) := by decide +kernel
theorem dL_law_753 : decode cL_law 753 = .ok (.iconst 4, 1) := by decide +kernel
theorem dL_law_754 : decode cL_law 754 = .ok (.iadd, 1) := by decide +kernel
theorem dL_law_755 : decode cL_law 755 = .ok (.iaload, 1) := by decide +kernel
theorem dL_law_756 : decode cL_law 756 = .ok (.invokevirtual 94, 3) := by decide +kernel
theorem dL_law_759 : decode cL_law 759 = .ok (.lcmp, 1) := by decide +kernel
theorem dL_law_760 : decode cL_law 760 = .ok (.ifCond .eq 289, 3) := by decide +kernel
theorem dL_law_763 : decode cL_law 763 = .ok (.iconst 0, 1) := by decide +kernel
theorem dL_law_764 : decode cL_law 764 = .ok (.ireturn, 1) := by decide +kernel
theorem dL_law_765 : decode cL_law 765 = .ok (.aload_n 1, 1) := by decide +kernel
theorem dL_law_766 : decode cL_law 766 = .ok (.invokevirtual 95, 3) := by decide +kernel
theorem dL_law_769 : decode cL_law 769 = .ok (.aload_n 2, 1) := by decide +kernel
theorem dL_law_770 : decode cL_law 770 = .ok (.invokevirtual 98, 3) := by decide +kernel
theorem dL_law_773 : decode cL_law 773 = .ok (.if_icmp .eq 276, 3) := by decide +kernel
theorem dL_law_776 : decode cL_law 776 = .ok (.iconst 0, 1) := by decide +kernel
theorem dL_law_777 : decode cL_law 777 = .ok (.ireturn, 1) := by decide +kernel
theorem dL_law_778 : decode cL_law 778 = .ok (.aload_n 1, 1) := by decide +kernel
theorem dL_law_779 : decode cL_law 779 = .ok (.invokevirtual 99, 3) := by decide +kernel
theorem dL_law_782 : decode cL_law 782 = .ok (.aload_n 2, 1) := by decide +kernel
theorem dL_law_783 : decode cL_law 783 = .ok (.invokevirtual 102, 3) := by decide +kernel
theorem dL_law_786 : decode cL_law 786 = .ok (.if_icmp .eq 263, 3) := by decide +kernel
theorem dL_law_789 : decode cL_law 789 = .ok (.iconst 0, 1) := by decide +kernel
theorem dL_law_790 : decode cL_law 790 = .ok (.ireturn, 1) := by decide +kernel
theorem dL_law_791 : decode cL_law 791 = .ok (.aload_n 1, 1) := by decide +kernel
theorem dL_law_792 : decode cL_law 792 = .ok (.aload_n 0, 1) := by decide +kernel
theorem dL_law_793 : decode cL_law 793 = .ok (.iload_n 3, 1) := by decide +kernel
theorem dL_law_794 : decode cL_law 794 = .ok (.iconst 1, 1) := by decide +kernel
theorem dL_law_795 : decode cL_law 795 = .ok (.iadd, 1) := by decide +kernel
theorem dL_law_796 : decode cL_law 796 = .ok (.iaload, 1) := by decide +kernel
theorem dL_law_797 : decode cL_law 797 = .ok (.invokevirtual 103, 3) := by decide +kernel
theorem dL_law_800 : decode cL_law 800 = .ok (.aload_n 2, 1) := by decide +kernel
theorem dL_law_801 : decode cL_law 801 = .ok (.aload_n 0, 1) := by decide +kernel
theorem dL_law_802 : decode cL_law 802 = .ok (.iload_n 3, 1) := by decide +kernel
theorem dL_law_803 : decode cL_law 803 = .ok (.iconst 1, 1) := by decide +kernel
theorem dL_law_804 : decode cL_law 804 = .ok (.iadd, 1) := by decide +kernel
theorem dL_law_805 : decode cL_law 805 = .ok (.iaload, 1) := by decide +kernel
theorem dL_law_806 : decode cL_law 806 = .ok (.invokevirtual 106, 3) := by decide +kernel
theorem dL_law_809 : decode cL_law 809 = .ok (.if_icmp .eq 240, 3) := by decide +kernel
theorem dL_law_812 : decode cL_law 812 = .ok (.iconst 0, 1) := by decide +kernel
theorem dL_law_813 : decode cL_law 813 = .ok (.ireturn, 1) := by decide +kernel
theorem dL_law_814 : decode cL_law 814 = .ok (.aload_n 1, 1) := by decide +kernel
theorem dL_law_815 : decode cL_law 815 = .ok (.aload_n 0, 1) := by decide +kernel
theorem dL_law_816 : decode cL_law 816 = .ok (.iload_n 3, 1) := by decide +kernel
theorem dL_law_817 : decode cL_law 817 = .ok (.iconst 1, 1) := by decide +kernel
theorem dL_law_818 : decode cL_law 818 = .ok (.iadd, 1) := by decide +kernel
theorem dL_law_819 : decode cL_law 819 = .ok (.iaload, 1) := by decide +kernel
theorem dL_law_820 : decode cL_law 820 = .ok (.aload_n 0, 1) := by decide +kernel
theorem dL_law_821 : decode cL_law 821 = .ok (.iload_n 3, 1) := by decide +kernel
theorem dL_law_822 : decode cL_law 822 = .ok (.iconst 2, 1) := by decide +kernel
theorem dL_law_823 : decode cL_law 823 = .ok (.iadd, 1) := by decide +kernel
theorem dL_law_824 : decode cL_law 824 = .ok (.iaload, 1) := by decide +kernel
theorem dL_law_825 : decode cL_law 825 = .ok (.aload_n 0, 1) := by decide +kernel
theorem dL_law_826 : decode cL_law 826 = .ok (.iload_n 3, 1) := by decide +kernel
theorem dL_law_827 : decode cL_law 827 = .ok (.iconst 3, 1) := by decide +kernel
theorem dL_law_828 : decode cL_law 828 = .ok (.iadd, 1) := by decide +kernel
theorem dL_law_829 : decode cL_law 829 = .ok (.iaload, 1) := by decide +kernel
theorem dL_law_830 : decode cL_law 830 = .ok (.invokevirtual 107, 3) := by decide +kernel
theorem dL_law_833 : decode cL_law 833 = .ok (.aload_n 2, 1) := by decide +kernel
theorem dL_law_834 : decode cL_law 834 = .ok (.aload_n 0, 1) := by decide +kernel
theorem dL_law_835 : decode cL_law 835 = .ok (.iload_n 3, 1) := by decide +kernel
theorem dL_law_836 : decode cL_law 836 = .ok (.iconst 1, 1) := by decide +kernel
theorem dL_law_837 : decode cL_law 837 = .ok (.iadd, 1) := by decide +kernel
theorem dL_law_838 : decode cL_law 838 = .ok (.iaload, 1) := by decide +kernel
theorem dL_law_839 : decode cL_law 839 = .ok (.aload_n 0, 1) := by decide +kernel
theorem dL_law_840 : decode cL_law 840 = .ok (.iload_n 3, 1) := by decide +kernel
theorem dL_law_841 : decode cL_law 841 = .ok (.iconst 2, 1) := by decide +kernel
theorem dL_law_842 : decode cL_law 842 = .ok (.iadd, 1) := by decide +kernel
theorem dL_law_843 : decode cL_law 843 = .ok (.iaload, 1) := by decide +kernel
theorem dL_law_844 : decode cL_law 844 = .ok (.aload_n 0, 1) := by decide +kernel
theorem dL_law_845 : decode cL_law 845 = .ok (.iload_n 3, 1) := by decide +kernel
theorem dL_law_846 : decode cL_law 846 = .ok (.iconst 3, 1) := by decide +kernel
theorem dL_law_847 : decode cL_law 847 = .ok (.iadd, 1) := by decide +kernel
theorem dL_law_848 : decode cL_law 848 = .ok (.iaload, 1) := by decide +kernel
theorem dL_law_849 : decode cL_law 849 = .ok (.invokevirtual 110, 3) := by decide +kernel
theorem dL_law_852 : decode cL_law 852 = .ok (.if_icmp .eq 197, 3) := by decide +kernel
theorem dL_law_855 : decode cL_law 855 = .ok (.iconst 0, 1) := by decide +kernel
theorem dL_law_856 : decode cL_law 856 = .ok (.ireturn, 1) := by decide +kernel
theorem dL_law_857 : decode cL_law 857 = .ok (.aload_n 1, 1) := by decide +kernel
theorem dL_law_858 : decode cL_law 858 = .ok (.aload_n 0, 1) := by decide +kernel
theorem dL_law_859 : decode cL_law 859 = .ok (.iload_n 3, 1) := by decide +kernel
theorem dL_law_860 : decode cL_law 860 = .ok (.iconst 1, 1) := by decide +kernel
theorem dL_law_861 : decode cL_law 861 = .ok (.iadd, 1) := by decide +kernel
theorem dL_law_862 : decode cL_law 862 = .ok (.iaload, 1) := by decide +kernel
theorem dL_law_863 : decode cL_law 863 = .ok (.aload_n 0, 1) := by decide +kernel
theorem dL_law_864 : decode cL_law 864 = .ok (.iload_n 3, 1) := by decide +kernel
theorem dL_law_865 : decode cL_law 865 = .ok (.iconst 2, 1) := by decide +kernel
theorem dL_law_866 : decode cL_law 866 = .ok (.iadd, 1) := by decide +kernel
theorem dL_law_867 : decode cL_law 867 = .ok (.iaload, 1) := by decide +kernel
theorem dL_law_868 : decode cL_law 868 = .ok (.aload_n 0, 1) := by decide +kernel
theorem dL_law_869 : decode cL_law 869 = .ok (.iload_n 3, 1) := by decide +kernel
theorem dL_law_870 : decode cL_law 870 = .ok (.iconst 3, 1) := by decide +kernel
theorem dL_law_871 : decode cL_law 871 = .ok (.iadd, 1) := by decide +kernel
theorem dL_law_872 : decode cL_law 872 = .ok (.iaload, 1) := by decide +kernel
theorem dL_law_873 : decode cL_law 873 = .ok (.invokevirtual 111, 3) := by decide +kernel
theorem dL_law_876 : decode cL_law 876 = .ok (.aload_n 2, 1) := by decide +kernel
theorem dL_law_877 : decode cL_law 877 = .ok (.aload_n 0, 1) := by decide +kernel
theorem dL_law_878 : decode cL_law 878 = .ok (.iload_n 3, 1) := by decide +kernel
theorem dL_law_879 : decode cL_law 879 = .ok (.iconst 1, 1) := by decide +kernel
theorem dL_law_880 : decode cL_law 880 = .ok (.iadd, 1) := by decide +kernel
theorem dL_law_881 : decode cL_law 881 = .ok (.iaload, 1) := by decide +kernel
theorem dL_law_882 : decode cL_law 882 = .ok (.aload_n 0, 1) := by decide +kernel
theorem dL_law_883 : decode cL_law 883 = .ok (.iload_n 3, 1) := by decide +kernel
theorem dL_law_884 : decode cL_law 884 = .ok (.iconst 2, 1) := by decide +kernel
theorem dL_law_885 : decode cL_law 885 = .ok (.iadd, 1) := by decide +kernel
theorem dL_law_886 : decode cL_law 886 = .ok (.iaload, 1) := by decide +kernel
theorem dL_law_887 : decode cL_law 887 = .ok (.aload_n 0, 1) := by decide +kernel
theorem dL_law_888 : decode cL_law 888 = .ok (.iload_n 3, 1) := by decide +kernel
theorem dL_law_889 : decode cL_law 889 = .ok (.iconst 3, 1) := by decide +kernel
theorem dL_law_890 : decode cL_law 890 = .ok (.iadd, 1) := by decide +kernel
theorem dL_law_891 : decode cL_law 891 = .ok (.iaload, 1) := by decide +kernel
theorem dL_law_892 : decode cL_law 892 = .ok (.invokevirtual 114, 3) := by decide +kernel
theorem dL_law_895 : decode cL_law 895 = .ok (.if_icmp .eq 154, 3) := by decide +kernel
theorem dL_law_898 : decode cL_law 898 = .ok (.iconst 0, 1) := by decide +kernel
theorem dL_law_899 : decode cL_law 899 = .ok (.ireturn, 1) := by decide +kernel
theorem dL_law_900 : decode cL_law 900 = .ok (.aload_n 1, 1) := by decide +kernel
theorem dL_law_901 : decode cL_law 901 = .ok (.aload_n 0, 1) := by decide +kernel
theorem dL_law_902 : decode cL_law 902 = .ok (.iload_n 3, 1) := by decide +kernel
theorem dL_law_903 : decode cL_law 903 = .ok (.iconst 1, 1) := by decide +kernel
theorem dL_law_904 : decode cL_law 904 = .ok (.iadd, 1) := by decide +kernel
theorem dL_law_905 : decode cL_law 905 = .ok (.iaload, 1) := by decide +kernel
theorem dL_law_906 : decode cL_law 906 = .ok (.aload_n 0, 1) := by decide +kernel
theorem dL_law_907 : decode cL_law 907 = .ok (.iload_n 3, 1) := by decide +kernel
theorem dL_law_908 : decode cL_law 908 = .ok (.iconst 2, 1) := by decide +kernel
theorem dL_law_909 : decode cL_law 909 = .ok (.iadd, 1) := by decide +kernel
theorem dL_law_910 : decode cL_law 910 = .ok (.iaload, 1) := by decide +kernel
theorem dL_law_911 : decode cL_law 911 = .ok (.aload_n 0, 1) := by decide +kernel
theorem dL_law_912 : decode cL_law 912 = .ok (.iload_n 3, 1) := by decide +kernel
theorem dL_law_913 : decode cL_law 913 = .ok (.iconst 3, 1) := by decide +kernel
theorem dL_law_914 : decode cL_law 914 = .ok (.iadd, 1) := by decide +kernel
theorem dL_law_915 : decode cL_law 915 = .ok (.iaload, 1) := by decide +kernel
theorem dL_law_916 : decode cL_law 916 = .ok (.aload_n 0, 1) := by decide +kernel
theorem dL_law_917 : decode cL_law 917 = .ok (.iload_n 3, 1) := by decide +kernel
theorem dL_law_918 : decode cL_law 918 = .ok (.iconst 4, 1) := by decide +kernel
theorem dL_law_919 : decode cL_law 919 = .ok (.iadd, 1) := by decide +kernel
theorem dL_law_920 : decode cL_law 920 = .ok (.iaload, 1) := by decide +kernel
theorem dL_law_921 : decode cL_law 921 = .ok (.aload_n 0, 1) := by decide +kernel
theorem dL_law_922 : decode cL_law 922 = .ok (.iload_n 3, 1) := by decide +kernel
theorem dL_law_923 : decode cL_law 923 = .ok (.iconst 5, 1) := by decide +kernel
theorem dL_law_924 : decode cL_law 924 = .ok (.iadd, 1) := by decide +kernel
theorem dL_law_925 : decode cL_law 925 = .ok (.iaload, 1) := by decide +kernel
theorem dL_law_926 : decode cL_law 926 = .ok (.invokevirtual 115, 3) := by decide +kernel
theorem dL_law_929 : decode cL_law 929 = .ok (.aload_n 2, 1) := by decide +kernel
theorem dL_law_930 : decode cL_law 930 = .ok (.aload_n 0, 1) := by decide +kernel
theorem dL_law_931 : decode cL_law 931 = .ok (.iload_n 3, 1) := by decide +kernel
theorem dL_law_932 : decode cL_law 932 = .ok (.iconst 1, 1) := by decide +kernel
theorem dL_law_933 : decode cL_law 933 = .ok (.iadd, 1) := by decide +kernel
theorem dL_law_934 : decode cL_law 934 = .ok (.iaload, 1) := by decide +kernel
theorem dL_law_935 : decode cL_law 935 = .ok (.aload_n 0, 1) := by decide +kernel
theorem dL_law_936 : decode cL_law 936 = .ok (.iload_n 3, 1) := by decide +kernel
theorem dL_law_937 : decode cL_law 937 = .ok (.iconst 2, 1) := by decide +kernel
theorem dL_law_938 : decode cL_law 938 = .ok (.iadd, 1) := by decide +kernel
theorem dL_law_939 : decode cL_law 939 = .ok (.iaload, 1) := by decide +kernel
theorem dL_law_940 : decode cL_law 940 = .ok (.aload_n 0, 1) := by decide +kernel
theorem dL_law_941 : decode cL_law 941 = .ok (.iload_n 3, 1) := by decide +kernel
theorem dL_law_942 : decode cL_law 942 = .ok (.iconst 3, 1) := by decide +kernel
theorem dL_law_943 : decode cL_law 943 = .ok (.iadd, 1) := by decide +kernel
theorem dL_law_944 : decode cL_law 944 = .ok (.iaload, 1) := by decide +kernel
theorem dL_law_945 : decode cL_law 945 = .ok (.aload_n 0, 1) := by decide +kernel
theorem dL_law_946 : decode cL_law 946 = .ok (.iload_n 3, 1) := by decide +kernel
theorem dL_law_947 : decode cL_law 947 = .ok (.iconst 4, 1) := by decide +kernel
theorem dL_law_948 : decode cL_law 948 = .ok (.iadd, 1) := by decide +kernel
theorem dL_law_949 : decode cL_law 949 = .ok (.iaload, 1) := by decide +kernel
theorem dL_law_950 : decode cL_law 950 = .ok (.aload_n 0, 1) := by decide +kernel
theorem dL_law_951 : decode cL_law 951 = .ok (.iload_n 3, 1) := by decide +kernel
theorem dL_law_952 : decode cL_law 952 = .ok (.iconst 5, 1) := by decide +kernel
theorem dL_law_953 : decode cL_law 953 = .ok (.iadd, 1) := by decide +kernel
theorem dL_law_954 : decode cL_law 954 = .ok (.iaload, 1) := by decide +kernel
theorem dL_law_955 : decode cL_law 955 = .ok (.invokevirtual 119, 3) := by decide +kernel
theorem dL_law_958 : decode cL_law 958 = .ok (.if_icmp .eq 91, 3) := by decide +kernel
theorem dL_law_961 : decode cL_law 961 = .ok (.iconst 0, 1) := by decide +kernel
theorem dL_law_962 : decode cL_law 962 = .ok (.ireturn, 1) := by decide +kernel
theorem dL_law_963 : decode cL_law 963 = .ok (.aload_n 1, 1) := by decide +kernel
theorem dL_law_964 : decode cL_law 964 = .ok (.aload_n 0, 1) := by decide +kernel
theorem dL_law_965 : decode cL_law 965 = .ok (.iload_n 3, 1) := by decide +kernel
theorem dL_law_966 : decode cL_law 966 = .ok (.iconst 1, 1) := by decide +kernel
theorem dL_law_967 : decode cL_law 967 = .ok (.iadd, 1) := by decide +kernel
theorem dL_law_968 : decode cL_law 968 = .ok (.iaload, 1) := by decide +kernel
theorem dL_law_969 : decode cL_law 969 = .ok (.aload_n 0, 1) := by decide +kernel
theorem dL_law_970 : decode cL_law 970 = .ok (.iload_n 3, 1) := by decide +kernel
theorem dL_law_971 : decode cL_law 971 = .ok (.iconst 2, 1) := by decide +kernel
theorem dL_law_972 : decode cL_law 972 = .ok (.iadd, 1) := by decide +kernel
theorem dL_law_973 : decode cL_law 973 = .ok (.iaload, 1) := by decide +kernel
theorem dL_law_974 : decode cL_law 974 = .ok (.aload_n 0, 1) := by decide +kernel
theorem dL_law_975 : decode cL_law 975 = .ok (.iload_n 3, 1) := by decide +kernel
theorem dL_law_976 : decode cL_law 976 = .ok (.iconst 3, 1) := by decide +kernel
theorem dL_law_977 : decode cL_law 977 = .ok (.iadd, 1) := by decide +kernel
theorem dL_law_978 : decode cL_law 978 = .ok (.iaload, 1) := by decide +kernel
theorem dL_law_979 : decode cL_law 979 = .ok (.aload_n 0, 1) := by decide +kernel
theorem dL_law_980 : decode cL_law 980 = .ok (.iload_n 3, 1) := by decide +kernel
theorem dL_law_981 : decode cL_law 981 = .ok (.iconst 4, 1) := by decide +kernel
theorem dL_law_982 : decode cL_law 982 = .ok (.iadd, 1) := by decide +kernel
theorem dL_law_983 : decode cL_law 983 = .ok (.iaload, 1) := by decide +kernel
theorem dL_law_984 : decode cL_law 984 = .ok (.invokevirtual 120, 3) := by decide +kernel
theorem dL_law_987 : decode cL_law 987 = .ok (.aload_n 2, 1) := by decide +kernel
theorem dL_law_988 : decode cL_law 988 = .ok (.aload_n 0, 1) := by decide +kernel
theorem dL_law_989 : decode cL_law 989 = .ok (.iload_n 3, 1) := by decide +kernel
theorem dL_law_990 : decode cL_law 990 = .ok (.iconst 1, 1) := by decide +kernel
theorem dL_law_991 : decode cL_law 991 = .ok (.iadd, 1) := by decide +kernel
theorem dL_law_992 : decode cL_law 992 = .ok (.iaload, 1) := by decide +kernel
theorem dL_law_993 : decode cL_law 993 = .ok (.aload_n 0, 1) := by decide +kernel
theorem dL_law_994 : decode cL_law 994 = .ok (.iload_n 3, 1) := by decide +kernel
theorem dL_law_995 : decode cL_law 995 = .ok (.iconst 2, 1) := by decide +kernel
theorem dL_law_996 : decode cL_law 996 = .ok (.iadd, 1) := by decide +kernel
theorem dL_law_997 : decode cL_law 997 = .ok (.iaload, 1) := by decide +kernel
theorem dL_law_998 : decode cL_law 998 = .ok (.aload_n 0, 1) := by decide +kernel
theorem dL_law_999 : decode cL_law 999 = .ok (.iload_n 3, 1) := by decide +kernel
theorem dL_law_1000 : decode cL_law 1000 = .ok (.iconst 3, 1) := by decide +kernel
theorem dL_law_1001 : decode cL_law 1001 = .ok (.iadd, 1) := by decide +kernel
theorem dL_law_1002 : decode cL_law 1002 = .ok (.iaload, 1) := by decide +kernel
theorem dL_law_1003 : decode cL_law 1003 = .ok (.aload_n 0, 1) := by decide +kernel
theorem dL_law_1004 : decode cL_law 1004 = .ok (.iload_n 3, 1) := by decide +kernel
theorem dL_law_1005 : decode cL_law 1005 = .ok (.iconst 4, 1) := by decide +kernel
theorem dL_law_1006 : decode cL_law 1006 = .ok (.iadd, 1) := by decide +kernel
theorem dL_law_1007 : decode cL_law 1007 = .ok (.iaload, 1) := by decide +kernel
theorem dL_law_1008 : decode cL_law 1008 = .ok (.invokevirtual 124, 3) := by decide +kernel
theorem dL_law_1011 : decode cL_law 1011 = .ok (.if_icmp .eq 38, 3) := by decide +kernel
theorem dL_law_1014 : decode cL_law 1014 = .ok (.iconst 0, 1) := by decide +kernel
theorem dL_law_1015 : decode cL_law 1015 = .ok (.ireturn, 1) := by decide +kernel
theorem dL_law_1016 : decode cL_law 1016 = .ok (.aload_n 1, 1) := by decide +kernel
theorem dL_law_1017 : decode cL_law 1017 = .ok (.aload_n 0, 1) := by decide +kernel
theorem dL_law_1018 : decode cL_law 1018 = .ok (.iload_n 3, 1) := by decide +kernel
theorem dL_law_1019 : decode cL_law 1019 = .ok (.iconst 1, 1) := by decide +kernel
theorem dL_law_1020 : decode cL_law 1020 = .ok (.iadd, 1) := by decide +kernel
theorem dL_law_1021 : decode cL_law 1021 = .ok (.iaload, 1) := by decide +kernel
theorem dL_law_1022 : decode cL_law 1022 = .ok (.aload_n 0, 1) := by decide +kernel
theorem dL_law_1023 : decode cL_law 1023 = .ok (.iload_n 3, 1) := by decide +kernel
theorem dL_law_1024 : decode cL_law 1024 = .ok (.iconst 2, 1) := by decide +kernel
theorem dL_law_1025 : decode cL_law 1025 = .ok (.iadd, 1) := by decide +kernel
theorem dL_law_1026 : decode cL_law 1026 = .ok (.iaload, 1) := by decide +kernel
theorem dL_law_1027 : decode cL_law 1027 = .ok (.invokevirtual 125, 3) := by decide +kernel
theorem dL_law_1030 : decode cL_law 1030 = .ok (.aload_n 2, 1) := by decide +kernel
theorem dL_law_1031 : decode cL_law 1031 = .ok (.aload_n 0, 1) := by decide +kernel
theorem dL_law_1032 : decode cL_law 1032 = .ok (.iload_n 3, 1) := by decide +kernel
theorem dL_law_1033 : decode cL_law 1033 = .ok (.iconst 1, 1) := by decide +kernel
theorem dL_law_1034 : decode cL_law 1034 = .ok (.iadd, 1) := by decide +kernel
theorem dL_law_1035 : decode cL_law 1035 = .ok (.iaload, 1) := by decide +kernel
theorem dL_law_1036 : decode cL_law 1036 = .ok (.aload_n 0, 1) := by decide +kernel
theorem dL_law_1037 : decode cL_law 1037 = .ok (.iload_n 3, 1) := by decide +kernel
theorem dL_law_1038 : decode cL_law 1038 = .ok (.iconst 2, 1) := by decide +kernel
theorem dL_law_1039 : decode cL_law 1039 = .ok (.iadd, 1) := by decide +kernel
theorem dL_law_1040 : decode cL_law 1040 = .ok (.iaload, 1) := by decide +kernel
theorem dL_law_1041 : decode cL_law 1041 = .ok (.invokevirtual 128, 3) := by decide +kernel
theorem dL_law_1044 : decode cL_law 1044 = .ok (.if_icmp .eq 5, 3) := by decide +kernel
theorem dL_law_1047 : decode cL_law 1047 = .ok (.iconst 0, 1) := by decide +kernel
theorem dL_law_1048 : decode cL_law 1048 = .ok (.ireturn, 1) := by decide +kernel
theorem dL_law_1049 : decode cL_law 1049 = .ok (.iinc 3 6, 3) := by decide +kernel
theorem dL_law_1052 : decode cL_law 1052 = .ok (.goto (-1034), 3) := by decide +kernel
theorem dL_law_1055 : decode cL_law 1055 = .ok (.iconst 1, 1) := by decide +kernel
theorem dL_law_1056 : decode cL_law 1056 = .ok (.ireturn, 1) := by decide +kernel
