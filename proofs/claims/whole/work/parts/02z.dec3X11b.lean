/-! printed: decode rows -/
theorem dX11_noted_36 : decode cX11_noted 36 = .ok (.ireturn, 1) := by decide +kernel
theorem dX11_isOfYears_0 : decode cX11_isOfYears 0 = .ok (.aload_n 0, 1) := by decide +kernel
theorem dX11_isOfYears_1 : decode cX11_isOfYears 1 = .ok (.iload_n 1, 1) := by decide +kernel
theorem dX11_isOfYears_2 : decode cX11_isOfYears 2 = .ok (.iconst 2, 1) := by decide +kernel
theorem dX11_isOfYears_3 : decode cX11_isOfYears 3 = .ok (.invokevirtual 226, 3) := by decide +kernel
theorem dX11_isOfYears_6 : decode cX11_isOfYears 6 = .ok (.iload_n 2, 1) := by decide +kernel
theorem dX11_isOfYears_7 : decode cX11_isOfYears 7 = .ok (.iload_n 3, 1) := by decide +kernel
theorem dX11_isOfYears_8 : decode cX11_isOfYears 8 = .ok (.invokestatic 90, 3) := by decide +kernel
theorem dX11_isOfYears_11 : decode cX11_isOfYears 11 = .ok (.ireturn, 1) := by decide +kernel
theorem dX11_marginOf_0 : decode cX11_marginOf 0 = .ok (.aload_n 0, 1) := by decide +kernel
theorem dX11_marginOf_1 : decode cX11_marginOf 1 = .ok (.iload_n 1, 1) := by decide +kernel
theorem dX11_marginOf_2 : decode cX11_marginOf 2 = .ok (.iconst 3, 1) := by decide +kernel
theorem dX11_marginOf_3 : decode cX11_marginOf 3 = .ok (.invokevirtual 226, 3) := by decide +kernel
theorem dX11_marginOf_6 : decode cX11_marginOf 6 = .ok (.aload_n 0, 1) := by decide +kernel
theorem dX11_marginOf_7 : decode cX11_marginOf 7 = .ok (.iload_n 1, 1) := by decide +kernel
theorem dX11_marginOf_8 : decode cX11_marginOf 8 = .ok (.iconst 4, 1) := by decide +kernel
theorem dX11_marginOf_9 : decode cX11_marginOf 9 = .ok (.invokevirtual 226, 3) := by decide +kernel
theorem dX11_marginOf_12 : decode cX11_marginOf 12 = .ok (.isub, 1) := by decide +kernel
theorem dX11_marginOf_13 : decode cX11_marginOf 13 = .ok (.ireturn, 1) := by decide +kernel
theorem dX11_sum_0 : decode cX11_sum 0 = .ok (.iload_n 3, 1) := by decide +kernel
theorem dX11_sum_1 : decode cX11_sum 1 = .ok (.iconst 0, 1) := by decide +kernel
theorem dX11_sum_2 : decode cX11_sum 2 = .ok (.iconst 5, 1) := by decide +kernel
theorem dX11_sum_3 : decode cX11_sum 3 = .ok (.invokestatic 90, 3) := by decide +kernel
theorem dX11_sum_6 : decode cX11_sum 6 = .ok (.ifCond .ne 5, 3) := by decide +kernel
theorem dX11_sum_9 : decode cX11_sum 9 = .ok (.iconst (-1), 1) := by decide +kernel
theorem dX11_sum_10 : decode cX11_sum 10 = .ok (.ireturn, 1) := by decide +kernel
theorem dX11_sum_11 : decode cX11_sum 11 = .ok (.iconst 0, 1) := by decide +kernel
theorem dX11_sum_12 : decode cX11_sum 12 = .ok (.istore 4, 2) := by decide +kernel
theorem dX11_sum_14 : decode cX11_sum 14 = .ok (.iconst 0, 1) := by decide +kernel
theorem dX11_sum_15 : decode cX11_sum 15 = .ok (.istore 5, 2) := by decide +kernel
theorem dX11_sum_17 : decode cX11_sum 17 = .ok (.iload 5, 2) := by decide +kernel
theorem dX11_sum_19 : decode cX11_sum 19 = .ok (.aload_n 0, 1) := by decide +kernel
theorem dX11_sum_20 : decode cX11_sum 20 = .ok (.getfield 7, 3) := by decide +kernel
theorem dX11_sum_23 : decode cX11_sum 23 = .ok (.iconst 3, 1) := by decide +kernel
theorem dX11_sum_24 : decode cX11_sum 24 = .ok (.iaload, 1) := by decide +kernel
theorem dX11_sum_25 : decode cX11_sum 25 = .ok (.if_icmp .ge 107, 3) := by decide +kernel
theorem dX11_sum_28 : decode cX11_sum 28 = .ok (.aload_n 0, 1) := by decide +kernel
theorem dX11_sum_29 : decode cX11_sum 29 = .ok (.iload 5, 2) := by decide +kernel
theorem dX11_sum_31 : decode cX11_sum 31 = .ok (.iload_n 1, 1) := by decide +kernel
theorem dX11_sum_32 : decode cX11_sum 32 = .ok (.iload_n 2, 1) := by decide +kernel
theorem dX11_sum_33 : decode cX11_sum 33 = .ok (.invokevirtual 229, 3) := by decide +kernel
theorem dX11_sum_36 : decode cX11_sum 36 = .ok (.ifCond .ne 6, 3) := by decide +kernel
theorem dX11_sum_39 : decode cX11_sum 39 = .ok (.goto 87, 3) := by decide +kernel
theorem dX11_sum_42 : decode cX11_sum 42 = .ok (.aload_n 0, 1) := by decide +kernel
theorem dX11_sum_43 : decode cX11_sum 43 = .ok (.iload 5, 2) := by decide +kernel
theorem dX11_sum_45 : decode cX11_sum 45 = .ok (.invokevirtual 232, 3) := by decide +kernel
theorem dX11_sum_48 : decode cX11_sum 48 = .ok (.istore 6, 2) := by decide +kernel
theorem dX11_sum_50 : decode cX11_sum 50 = .ok (.iload 4, 2) := by decide +kernel
theorem dX11_sum_52 : decode cX11_sum 52 = .ok (.iload_n 3, 1) := by decide +kernel
theorem dX11_sum_53 : decode cX11_sum 53 = .ok (.ifCond .ne 7, 3) := by decide +kernel
theorem dX11_sum_56 : decode cX11_sum 56 = .ok (.iconst 1, 1) := by decide +kernel
theorem dX11_sum_57 : decode cX11_sum 57 = .ok (.goto 66, 3) := by decide +kernel
theorem dX11_sum_60 : decode cX11_sum 60 = .ok (.iload_n 3, 1) := by decide +kernel
theorem dX11_sum_61 : decode cX11_sum 61 = .ok (.iconst 1, 1) := by decide +kernel
theorem dX11_sum_62 : decode cX11_sum 62 = .ok (.if_icmp .ne 16, 3) := by decide +kernel
theorem dX11_sum_65 : decode cX11_sum 65 = .ok (.iload 6, 2) := by decide +kernel
theorem dX11_sum_67 : decode cX11_sum 67 = .ok (.ifCond .le 7, 3) := by decide +kernel
theorem dX11_sum_70 : decode cX11_sum 70 = .ok (.iconst 1, 1) := by decide +kernel
theorem dX11_sum_71 : decode cX11_sum 71 = .ok (.goto 52, 3) := by decide +kernel
theorem dX11_sum_74 : decode cX11_sum 74 = .ok (.iconst 0, 1) := by decide +kernel
theorem dX11_sum_75 : decode cX11_sum 75 = .ok (.goto 48, 3) := by decide +kernel
theorem dX11_sum_78 : decode cX11_sum 78 = .ok (.iload_n 3, 1) := by decide +kernel
theorem dX11_sum_79 : decode cX11_sum 79 = .ok (.iconst 2, 1) := by decide +kernel
theorem dX11_sum_80 : decode cX11_sum 80 = .ok (.if_icmp .ne 16, 3) := by decide +kernel
theorem dX11_sum_83 : decode cX11_sum 83 = .ok (.iload 6, 2) := by decide +kernel
theorem dX11_sum_85 : decode cX11_sum 85 = .ok (.ifCond .ne 7, 3) := by decide +kernel
theorem dX11_sum_88 : decode cX11_sum 88 = .ok (.iconst 1, 1) := by decide +kernel
theorem dX11_sum_89 : decode cX11_sum 89 = .ok (.goto 34, 3) := by decide +kernel
theorem dX11_sum_92 : decode cX11_sum 92 = .ok (.iconst 0, 1) := by decide +kernel
theorem dX11_sum_93 : decode cX11_sum 93 = .ok (.goto 30, 3) := by decide +kernel
theorem dX11_sum_96 : decode cX11_sum 96 = .ok (.iload_n 3, 1) := by decide +kernel
theorem dX11_sum_97 : decode cX11_sum 97 = .ok (.iconst 3, 1) := by decide +kernel
theorem dX11_sum_98 : decode cX11_sum 98 = .ok (.if_icmp .ne 16, 3) := by decide +kernel
theorem dX11_sum_101 : decode cX11_sum 101 = .ok (.iload 6, 2) := by decide +kernel
theorem dX11_sum_103 : decode cX11_sum 103 = .ok (.ifCond .ge 7, 3) := by decide +kernel
theorem dX11_sum_106 : decode cX11_sum 106 = .ok (.iconst 1, 1) := by decide +kernel
theorem dX11_sum_107 : decode cX11_sum 107 = .ok (.goto 16, 3) := by decide +kernel
theorem dX11_sum_110 : decode cX11_sum 110 = .ok (.iconst 0, 1) := by decide +kernel
theorem dX11_sum_111 : decode cX11_sum 111 = .ok (.goto 12, 3) := by decide +kernel
theorem dX11_sum_114 : decode cX11_sum 114 = .ok (.aload_n 0, 1) := by decide +kernel
theorem dX11_sum_115 : decode cX11_sum 115 = .ok (.iload 5, 2) := by decide +kernel
theorem dX11_sum_117 : decode cX11_sum 117 = .ok (.iload_n 3, 1) := by decide +kernel
theorem dX11_sum_118 : decode cX11_sum 118 = .ok (.iconst 1, 1) := by decide +kernel
theorem dX11_sum_119 : decode cX11_sum 119 = .ok (.isub, 1) := by decide +kernel
theorem dX11_sum_120 : decode cX11_sum 120 = .ok (.invokevirtual 226, 3) := by decide +kernel
theorem dX11_sum_123 : decode cX11_sum 123 = .ok (.iadd, 1) := by decide +kernel
theorem dX11_sum_124 : decode cX11_sum 124 = .ok (.istore 4, 2) := by decide +kernel
theorem dX11_sum_126 : decode cX11_sum 126 = .ok (.iinc 5 1, 3) := by decide +kernel
theorem dX11_sum_129 : decode cX11_sum 129 = .ok (.goto (-112), 3) := by decide +kernel
theorem dX11_sum_132 : decode cX11_sum 132 = .ok (.iload 4, 2) := by decide +kernel
theorem dX11_sum_134 : decode cX11_sum 134 = .ok (.ireturn, 1) := by decide +kernel
theorem dX11_isBy_0 : decode cX11_isBy 0 = .ok (.aload_n 0, 1) := by decide +kernel
theorem dX11_isBy_1 : decode cX11_isBy 1 = .ok (.iload_n 1, 1) := by decide +kernel
theorem dX11_isBy_2 : decode cX11_isBy 2 = .ok (.iconst 0, 1) := by decide +kernel
theorem dX11_isBy_3 : decode cX11_isBy 3 = .ok (.invokevirtual 226, 3) := by decide +kernel
theorem dX11_isBy_6 : decode cX11_isBy 6 = .ok (.iload_n 2, 1) := by decide +kernel
theorem dX11_isBy_7 : decode cX11_isBy 7 = .ok (.if_icmp .eq 13, 3) := by decide +kernel
theorem dX11_isBy_10 : decode cX11_isBy 10 = .ok (.aload_n 0, 1) := by decide +kernel
theorem dX11_isBy_11 : decode cX11_isBy 11 = .ok (.iload_n 1, 1) := by decide +kernel
theorem dX11_isBy_12 : decode cX11_isBy 12 = .ok (.iconst 1, 1) := by decide +kernel
theorem dX11_isBy_13 : decode cX11_isBy 13 = .ok (.invokevirtual 226, 3) := by decide +kernel
theorem dX11_isBy_16 : decode cX11_isBy 16 = .ok (.iload_n 2, 1) := by decide +kernel
theorem dX11_isBy_17 : decode cX11_isBy 17 = .ok (.if_icmp .ne 7, 3) := by decide +kernel
theorem dX11_isBy_20 : decode cX11_isBy 20 = .ok (.iconst 1, 1) := by decide +kernel
theorem dX11_isBy_21 : decode cX11_isBy 21 = .ok (.goto 4, 3) := by decide +kernel
theorem dX11_isBy_24 : decode cX11_isBy 24 = .ok (.iconst 0, 1) := by decide +kernel
theorem dX11_isBy_25 : decode cX11_isBy 25 = .ok (.ireturn, 1) := by decide +kernel
theorem dX11_madeOf_0 : decode cX11_madeOf 0 = .ok (.iconst 0, 1) := by decide +kernel
theorem dX11_madeOf_1 : decode cX11_madeOf 1 = .ok (.istore 5, 2) := by decide +kernel
theorem dX11_madeOf_3 : decode cX11_madeOf 3 = .ok (.iconst 0, 1) := by decide +kernel
theorem dX11_madeOf_4 : decode cX11_madeOf 4 = .ok (.istore 6, 2) := by decide +kernel
theorem dX11_madeOf_6 : decode cX11_madeOf 6 = .ok (.iload 6, 2) := by decide +kernel
theorem dX11_madeOf_8 : decode cX11_madeOf 8 = .ok (.aload_n 0, 1) := by decide +kernel
theorem dX11_madeOf_9 : decode cX11_madeOf 9 = .ok (.getfield 7, 3) := by decide +kernel
theorem dX11_madeOf_12 : decode cX11_madeOf 12 = .ok (.iconst 3, 1) := by decide +kernel
theorem dX11_madeOf_13 : decode cX11_madeOf 13 = .ok (.iaload, 1) := by decide +kernel
theorem dX11_madeOf_14 : decode cX11_madeOf 14 = .ok (.if_icmp .ge 137, 3) := by decide +kernel
theorem dX11_madeOf_17 : decode cX11_madeOf 17 = .ok (.aload_n 0, 1) := by decide +kernel
theorem dX11_madeOf_18 : decode cX11_madeOf 18 = .ok (.iload 6, 2) := by decide +kernel
theorem dX11_madeOf_20 : decode cX11_madeOf 20 = .ok (.iload_n 1, 1) := by decide +kernel
theorem dX11_madeOf_21 : decode cX11_madeOf 21 = .ok (.iload_n 2, 1) := by decide +kernel
theorem dX11_madeOf_22 : decode cX11_madeOf 22 = .ok (.invokevirtual 229, 3) := by decide +kernel
theorem dX11_madeOf_25 : decode cX11_madeOf 25 = .ok (.ifCond .eq 120, 3) := by decide +kernel
theorem dX11_madeOf_28 : decode cX11_madeOf 28 = .ok (.aload_n 0, 1) := by decide +kernel
theorem dX11_madeOf_29 : decode cX11_madeOf 29 = .ok (.iload 6, 2) := by decide +kernel
theorem dX11_madeOf_31 : decode cX11_madeOf 31 = .ok (.iload_n 3, 1) := by decide +kernel
theorem dX11_madeOf_32 : decode cX11_madeOf 32 = .ok (.invokevirtual 235, 3) := by decide +kernel
theorem dX11_madeOf_35 : decode cX11_madeOf 35 = .ok (.ifCond .ne 6, 3) := by decide +kernel
theorem dX11_madeOf_38 : decode cX11_madeOf 38 = .ok (.goto 107, 3) := by decide +kernel
theorem dX11_madeOf_41 : decode cX11_madeOf 41 = .ok (.aload_n 0, 1) := by decide +kernel
theorem dX11_madeOf_42 : decode cX11_madeOf 42 = .ok (.iload 6, 2) := by decide +kernel
theorem dX11_madeOf_44 : decode cX11_madeOf 44 = .ok (.iconst 0, 1) := by decide +kernel
theorem dX11_madeOf_45 : decode cX11_madeOf 45 = .ok (.invokevirtual 226, 3) := by decide +kernel
theorem dX11_madeOf_48 : decode cX11_madeOf 48 = .ok (.iload_n 3, 1) := by decide +kernel
theorem dX11_madeOf_49 : decode cX11_madeOf 49 = .ok (.if_icmp .ne 12, 3) := by decide +kernel
theorem dX11_madeOf_52 : decode cX11_madeOf 52 = .ok (.aload_n 0, 1) := by decide +kernel
theorem dX11_madeOf_53 : decode cX11_madeOf 53 = .ok (.iload 6, 2) := by decide +kernel
theorem dX11_madeOf_55 : decode cX11_madeOf 55 = .ok (.invokevirtual 232, 3) := by decide +kernel
theorem dX11_madeOf_58 : decode cX11_madeOf 58 = .ok (.goto 10, 3) := by decide +kernel
theorem dX11_madeOf_61 : decode cX11_madeOf 61 = .ok (.aload_n 0, 1) := by decide +kernel
theorem dX11_madeOf_62 : decode cX11_madeOf 62 = .ok (.iload 6, 2) := by decide +kernel
theorem dX11_madeOf_64 : decode cX11_madeOf 64 = .ok (.invokevirtual 232, 3) := by decide +kernel
theorem dX11_madeOf_67 : decode cX11_madeOf 67 = .ok (.ineg, 1) := by decide +kernel
theorem dX11_madeOf_68 : decode cX11_madeOf 68 = .ok (.istore 7, 2) := by decide +kernel
theorem dX11_madeOf_70 : decode cX11_madeOf 70 = .ok (.iload 5, 2) := by decide +kernel
theorem dX11_madeOf_72 : decode cX11_madeOf 72 = .ok (.iload 4, 2) := by decide +kernel
theorem dX11_madeOf_74 : decode cX11_madeOf 74 = .ok (.ifCond .ne 25, 3) := by decide +kernel
theorem dX11_madeOf_77 : decode cX11_madeOf 77 = .ok (.iload 7, 2) := by decide +kernel
theorem dX11_madeOf_79 : decode cX11_madeOf 79 = .ok (.ifCond .le 7, 3) := by decide +kernel
theorem dX11_madeOf_82 : decode cX11_madeOf 82 = .ok (.iconst 3, 1) := by decide +kernel
theorem dX11_madeOf_83 : decode cX11_madeOf 83 = .ok (.goto 59, 3) := by decide +kernel
theorem dX11_madeOf_86 : decode cX11_madeOf 86 = .ok (.iload 7, 2) := by decide +kernel
theorem dX11_madeOf_88 : decode cX11_madeOf 88 = .ok (.ifCond .ne 7, 3) := by decide +kernel
theorem dX11_madeOf_91 : decode cX11_madeOf 91 = .ok (.iconst 1, 1) := by decide +kernel
theorem dX11_madeOf_92 : decode cX11_madeOf 92 = .ok (.goto 50, 3) := by decide +kernel
theorem dX11_madeOf_95 : decode cX11_madeOf 95 = .ok (.iconst 0, 1) := by decide +kernel
theorem dX11_madeOf_96 : decode cX11_madeOf 96 = .ok (.goto 46, 3) := by decide +kernel
theorem dX11_madeOf_99 : decode cX11_madeOf 99 = .ok (.iload 4, 2) := by decide +kernel
theorem dX11_madeOf_101 : decode cX11_madeOf 101 = .ok (.iconst 1, 1) := by decide +kernel
theorem dX11_madeOf_102 : decode cX11_madeOf 102 = .ok (.if_icmp .ne 8, 3) := by decide +kernel
theorem dX11_madeOf_105 : decode cX11_madeOf 105 = .ok (.iload 7, 2) := by decide +kernel
theorem dX11_madeOf_107 : decode cX11_madeOf 107 = .ok (.goto 35, 3) := by decide +kernel
theorem dX11_madeOf_110 : decode cX11_madeOf 110 = .ok (.iload 4, 2) := by decide +kernel
theorem dX11_madeOf_112 : decode cX11_madeOf 112 = .ok (.iconst 2, 1) := by decide +kernel
theorem dX11_madeOf_113 : decode cX11_madeOf 113 = .ok (.if_icmp .ne 28, 3) := by decide +kernel
theorem dX11_madeOf_116 : decode cX11_madeOf 116 = .ok (.aload_n 0, 1) := by decide +kernel
theorem dX11_madeOf_117 : decode cX11_madeOf 117 = .ok (.iload 6, 2) := by decide +kernel
theorem dX11_madeOf_119 : decode cX11_madeOf 119 = .ok (.aload_n 0, 1) := by decide +kernel
theorem dX11_madeOf_120 : decode cX11_madeOf 120 = .ok (.iload 6, 2) := by decide +kernel
theorem dX11_madeOf_122 : decode cX11_madeOf 122 = .ok (.iconst 0, 1) := by decide +kernel
theorem dX11_madeOf_123 : decode cX11_madeOf 123 = .ok (.invokevirtual 226, 3) := by decide +kernel
theorem dX11_madeOf_126 : decode cX11_madeOf 126 = .ok (.iload_n 3, 1) := by decide +kernel
theorem dX11_madeOf_127 : decode cX11_madeOf 127 = .ok (.if_icmp .ne 7, 3) := by decide +kernel
theorem dX11_madeOf_130 : decode cX11_madeOf 130 = .ok (.iconst 3, 1) := by decide +kernel
theorem dX11_madeOf_131 : decode cX11_madeOf 131 = .ok (.goto 4, 3) := by decide +kernel
theorem dX11_madeOf_134 : decode cX11_madeOf 134 = .ok (.iconst 4, 1) := by decide +kernel
theorem dX11_madeOf_135 : decode cX11_madeOf 135 = .ok (.invokevirtual 226, 3) := by decide +kernel
theorem dX11_madeOf_138 : decode cX11_madeOf 138 = .ok (.goto 4, 3) := by decide +kernel
theorem dX11_madeOf_141 : decode cX11_madeOf 141 = .ok (.iconst 1, 1) := by decide +kernel
theorem dX11_madeOf_142 : decode cX11_madeOf 142 = .ok (.iadd, 1) := by decide +kernel
theorem dX11_madeOf_143 : decode cX11_madeOf 143 = .ok (.istore 5, 2) := by decide +kernel
theorem dX11_madeOf_145 : decode cX11_madeOf 145 = .ok (.iinc 6 1, 3) := by decide +kernel
theorem dX11_madeOf_148 : decode cX11_madeOf 148 = .ok (.goto (-142), 3) := by decide +kernel
theorem dX11_madeOf_151 : decode cX11_madeOf 151 = .ok (.iload 5, 2) := by decide +kernel
theorem dX11_madeOf_153 : decode cX11_madeOf 153 = .ok (.ireturn, 1) := by decide +kernel
theorem dX11_isAhead_0 : decode cX11_isAhead 0 = .ok (.iconst 0, 1) := by decide +kernel
theorem dX11_isAhead_1 : decode cX11_isAhead 1 = .ok (.istore 5, 2) := by decide +kernel
theorem dX11_isAhead_3 : decode cX11_isAhead 3 = .ok (.iconst 0, 1) := by decide +kernel
theorem dX11_isAhead_4 : decode cX11_isAhead 4 = .ok (.istore 6, 2) := by decide +kernel
theorem dX11_isAhead_6 : decode cX11_isAhead 6 = .ok (.iload 6, 2) := by decide +kernel
theorem dX11_isAhead_8 : decode cX11_isAhead 8 = .ok (.iconst 3, 1) := by decide +kernel
theorem dX11_isAhead_9 : decode cX11_isAhead 9 = .ok (.if_icmp .ge 36, 3) := by decide +kernel
theorem dX11_isAhead_12 : decode cX11_isAhead 12 = .ok (.iload 5, 2) := by decide +kernel
theorem dX11_isAhead_14 : decode cX11_isAhead 14 = .ok (.ifCond .ne 31, 3) := by decide +kernel
theorem dX11_isAhead_17 : decode cX11_isAhead 17 = .ok (.aload_n 0, 1) := by decide +kernel
theorem dX11_isAhead_18 : decode cX11_isAhead 18 = .ok (.iload_n 1, 1) := by decide +kernel
theorem dX11_isAhead_19 : decode cX11_isAhead 19 = .ok (.iload_n 2, 1) := by decide +kernel
theorem dX11_isAhead_20 : decode cX11_isAhead 20 = .ok (.iload_n 3, 1) := by decide +kernel
theorem dX11_isAhead_21 : decode cX11_isAhead 21 = .ok (.iload 6, 2) := by decide +kernel
theorem dX11_isAhead_23 : decode cX11_isAhead 23 = .ok (.invokevirtual 238, 3) := by decide +kernel
theorem dX11_isAhead_26 : decode cX11_isAhead 26 = .ok (.aload_n 0, 1) := by decide +kernel
theorem dX11_isAhead_27 : decode cX11_isAhead 27 = .ok (.iload_n 1, 1) := by decide +kernel
theorem dX11_isAhead_28 : decode cX11_isAhead 28 = .ok (.iload_n 2, 1) := by decide +kernel
theorem dX11_isAhead_29 : decode cX11_isAhead 29 = .ok (.iload 4, 2) := by decide +kernel
theorem dX11_isAhead_31 : decode cX11_isAhead 31 = .ok (.iload 6, 2) := by decide +kernel
theorem dX11_isAhead_33 : decode cX11_isAhead 33 = .ok (.invokevirtual 238, 3) := by decide +kernel
theorem dX11_isAhead_36 : decode cX11_isAhead 36 = .ok (.isub, 1) := by decide +kernel
theorem dX11_isAhead_37 : decode cX11_isAhead 37 = .ok (.istore 5, 2) := by decide +kernel
theorem dX11_isAhead_39 : decode cX11_isAhead 39 = .ok (.iinc 6 1, 3) := by decide +kernel
theorem dX11_isAhead_42 : decode cX11_isAhead 42 = .ok (.goto (-36), 3) := by decide +kernel
theorem dX11_isAhead_45 : decode cX11_isAhead 45 = .ok (.iload 5, 2) := by decide +kernel
theorem dX11_isAhead_47 : decode cX11_isAhead 47 = .ok (.ifCond .gt 14, 3) := by decide +kernel
theorem dX11_isAhead_50 : decode cX11_isAhead 50 = .ok (.iload 5, 2) := by decide +kernel
theorem dX11_isAhead_52 : decode cX11_isAhead 52 = .ok (.ifCond .ne 13, 3) := by decide +kernel
theorem dX11_isAhead_55 : decode cX11_isAhead 55 = .ok (.iload_n 3, 1) := by decide +kernel
theorem dX11_isAhead_56 : decode cX11_isAhead 56 = .ok (.iload 4, 2) := by decide +kernel
theorem dX11_isAhead_58 : decode cX11_isAhead 58 = .ok (.if_icmp .ge 7, 3) := by decide +kernel
theorem dX11_isAhead_61 : decode cX11_isAhead 61 = .ok (.iconst 1, 1) := by decide +kernel
theorem dX11_isAhead_62 : decode cX11_isAhead 62 = .ok (.goto 4, 3) := by decide +kernel
theorem dX11_isAhead_65 : decode cX11_isAhead 65 = .ok (.iconst 0, 1) := by decide +kernel
theorem dX11_isAhead_66 : decode cX11_isAhead 66 = .ok (.ireturn, 1) := by decide +kernel
theorem dX11_table_0 : decode cX11_table 0 = .ok (.iconst 0, 1) := by decide +kernel
theorem dX11_table_1 : decode cX11_table 1 = .ok (.istore 4, 2) := by decide +kernel
theorem dX11_table_3 : decode cX11_table 3 = .ok (.iload 4, 2) := by decide +kernel
theorem dX11_table_5 : decode cX11_table 5 = .ok (.bipush 8, 2) := by decide +kernel
theorem dX11_table_7 : decode cX11_table 7 = .ok (.if_icmp .ge 94, 3) := by decide +kernel
theorem dX11_table_10 : decode cX11_table 10 = .ok (.aload_n 0, 1) := by decide +kernel
theorem dX11_table_11 : decode cX11_table 11 = .ok (.iload_n 1, 1) := by decide +kernel
theorem dX11_table_12 : decode cX11_table 12 = .ok (.iload_n 2, 1) := by decide +kernel
theorem dX11_table_13 : decode cX11_table 13 = .ok (.iload 4, 2) := by decide +kernel
theorem dX11_table_15 : decode cX11_table 15 = .ok (.iconst 3, 1) := by decide +kernel
theorem dX11_table_16 : decode cX11_table 16 = .ok (.invokevirtual 238, 3) := by decide +kernel
theorem dX11_table_19 : decode cX11_table 19 = .ok (.ifCond .ne 6, 3) := by decide +kernel
theorem dX11_table_22 : decode cX11_table 22 = .ok (.goto 73, 3) := by decide +kernel
theorem dX11_table_25 : decode cX11_table 25 = .ok (.iconst 0, 1) := by decide +kernel
theorem dX11_table_26 : decode cX11_table 26 = .ok (.istore 5, 2) := by decide +kernel
theorem dX11_table_28 : decode cX11_table 28 = .ok (.iconst 0, 1) := by decide +kernel
theorem dX11_table_29 : decode cX11_table 29 = .ok (.istore 6, 2) := by decide +kernel
theorem dX11_table_31 : decode cX11_table 31 = .ok (.iload 6, 2) := by decide +kernel
theorem dX11_table_33 : decode cX11_table 33 = .ok (.bipush 8, 2) := by decide +kernel
theorem dX11_table_35 : decode cX11_table 35 = .ok (.if_icmp .ge 51, 3) := by decide +kernel
theorem dX11_table_38 : decode cX11_table 38 = .ok (.iload 5, 2) := by decide +kernel
theorem dX11_table_40 : decode cX11_table 40 = .ok (.iload 6, 2) := by decide +kernel
theorem dX11_table_42 : decode cX11_table 42 = .ok (.iload 4, 2) := by decide +kernel
theorem dX11_table_44 : decode cX11_table 44 = .ok (.if_icmp .eq 32, 3) := by decide +kernel
theorem dX11_table_47 : decode cX11_table 47 = .ok (.aload_n 0, 1) := by decide +kernel
theorem dX11_table_48 : decode cX11_table 48 = .ok (.iload_n 1, 1) := by decide +kernel
theorem dX11_table_49 : decode cX11_table 49 = .ok (.iload_n 2, 1) := by decide +kernel
theorem dX11_table_50 : decode cX11_table 50 = .ok (.iload 6, 2) := by decide +kernel
theorem dX11_table_52 : decode cX11_table 52 = .ok (.iconst 3, 1) := by decide +kernel
theorem dX11_table_53 : decode cX11_table 53 = .ok (.invokevirtual 238, 3) := by decide +kernel
theorem dX11_table_56 : decode cX11_table 56 = .ok (.ifCond .le 20, 3) := by decide +kernel
theorem dX11_table_59 : decode cX11_table 59 = .ok (.aload_n 0, 1) := by decide +kernel
theorem dX11_table_60 : decode cX11_table 60 = .ok (.iload_n 1, 1) := by decide +kernel
theorem dX11_table_61 : decode cX11_table 61 = .ok (.iload_n 2, 1) := by decide +kernel
theorem dX11_table_62 : decode cX11_table 62 = .ok (.iload 6, 2) := by decide +kernel
theorem dX11_table_64 : decode cX11_table 64 = .ok (.iload 4, 2) := by decide +kernel
theorem dX11_table_66 : decode cX11_table 66 = .ok (.invokevirtual 241, 3) := by decide +kernel
theorem dX11_table_69 : decode cX11_table 69 = .ok (.ifCond .eq 7, 3) := by decide +kernel
theorem dX11_table_72 : decode cX11_table 72 = .ok (.iconst 1, 1) := by decide +kernel
theorem dX11_table_73 : decode cX11_table 73 = .ok (.goto 4, 3) := by decide +kernel
theorem dX11_table_76 : decode cX11_table 76 = .ok (.iconst 0, 1) := by decide +kernel
theorem dX11_table_77 : decode cX11_table 77 = .ok (.iadd, 1) := by decide +kernel
theorem dX11_table_78 : decode cX11_table 78 = .ok (.istore 5, 2) := by decide +kernel
theorem dX11_table_80 : decode cX11_table 80 = .ok (.iinc 6 1, 3) := by decide +kernel
theorem dX11_table_83 : decode cX11_table 83 = .ok (.goto (-52), 3) := by decide +kernel
theorem dX11_table_86 : decode cX11_table 86 = .ok (.iload 5, 2) := by decide +kernel
theorem dX11_table_88 : decode cX11_table 88 = .ok (.iload_n 3, 1) := by decide +kernel
theorem dX11_table_89 : decode cX11_table 89 = .ok (.if_icmp .ne 6, 3) := by decide +kernel
theorem dX11_table_92 : decode cX11_table 92 = .ok (.iload 4, 2) := by decide +kernel
theorem dX11_table_94 : decode cX11_table 94 = .ok (.ireturn, 1) := by decide +kernel
theorem dX11_table_95 : decode cX11_table 95 = .ok (.iinc 4 1, 3) := by decide +kernel
theorem dX11_table_98 : decode cX11_table 98 = .ok (.goto (-95), 3) := by decide +kernel
theorem dX11_table_101 : decode cX11_table 101 = .ok (.iconst (-1), 1) := by decide +kernel
theorem dX11_table_102 : decode cX11_table 102 = .ok (.ireturn, 1) := by decide +kernel
theorem dX11_points_0 : decode cX11_points 0 = .ok (.iload_n 3, 1) := by decide +kernel
theorem dX11_points_1 : decode cX11_points 1 = .ok (.iconst 0, 1) := by decide +kernel
theorem dX11_points_2 : decode cX11_points 2 = .ok (.bipush 7, 2) := by decide +kernel
theorem dX11_points_4 : decode cX11_points 4 = .ok (.invokestatic 90, 3) := by decide +kernel
theorem dX11_points_7 : decode cX11_points 7 = .ok (.ifCond .eq 14, 3) := by decide +kernel
theorem dX11_points_10 : decode cX11_points 10 = .ok (.aload_n 0, 1) := by decide +kernel
theorem dX11_points_11 : decode cX11_points 11 = .ok (.iload_n 1, 1) := by decide +kernel
theorem dX11_points_12 : decode cX11_points 12 = .ok (.iload_n 2, 1) := by decide +kernel
theorem dX11_points_13 : decode cX11_points 13 = .ok (.iload_n 3, 1) := by decide +kernel
theorem dX11_points_14 : decode cX11_points 14 = .ok (.iconst 0, 1) := by decide +kernel
theorem dX11_points_15 : decode cX11_points 15 = .ok (.invokevirtual 238, 3) := by decide +kernel
theorem dX11_points_18 : decode cX11_points 18 = .ok (.goto 4, 3) := by decide +kernel
theorem dX11_points_21 : decode cX11_points 21 = .ok (.iconst (-1), 1) := by decide +kernel
theorem dX11_points_22 : decode cX11_points 22 = .ok (.ireturn, 1) := by decide +kernel
theorem dX11_common_0 : decode cX11_common 0 = .ok (.lload_n 0, 1) := by decide +kernel
theorem dX11_common_1 : decode cX11_common 1 = .ok (.lconst 0, 1) := by decide +kernel
theorem dX11_common_2 : decode cX11_common 2 = .ok (.lcmp, 1) := by decide +kernel
theorem dX11_common_3 : decode cX11_common 3 = .ok (.ifCond .ge 8, 3) := by decide +kernel
theorem dX11_common_6 : decode cX11_common 6 = .ok (.lload_n 0, 1) := by decide +kernel
theorem dX11_common_7 : decode cX11_common 7 = .ok (.lneg, 1) := by decide +kernel
theorem dX11_common_8 : decode cX11_common 8 = .ok (.goto 4, 3) := by decide +kernel
theorem dX11_common_11 : decode cX11_common 11 = .ok (.lload_n 0, 1) := by decide +kernel
theorem dX11_common_12 : decode cX11_common 12 = .ok (.lstore 4, 2) := by decide +kernel
theorem dX11_common_14 : decode cX11_common 14 = .ok (.lload_n 2, 1) := by decide +kernel
theorem dX11_common_15 : decode cX11_common 15 = .ok (.lconst 0, 1) := by decide +kernel
theorem dX11_common_16 : decode cX11_common 16 = .ok (.lcmp, 1) := by decide +kernel
theorem dX11_common_17 : decode cX11_common 17 = .ok (.ifCond .ge 8, 3) := by decide +kernel
theorem dX11_common_20 : decode cX11_common 20 = .ok (.lload_n 2, 1) := by decide +kernel
theorem dX11_common_21 : decode cX11_common 21 = .ok (.lneg, 1) := by decide +kernel
theorem dX11_common_22 : decode cX11_common 22 = .ok (.goto 4, 3) := by decide +kernel
theorem dX11_common_25 : decode cX11_common 25 = .ok (.lload_n 2, 1) := by decide +kernel
theorem dX11_common_26 : decode cX11_common 26 = .ok (.lstore 6, 2) := by decide +kernel
theorem dX11_common_28 : decode cX11_common 28 = .ok (.lload 6, 2) := by decide +kernel
theorem dX11_common_30 : decode cX11_common 30 = .ok (.lconst 0, 1) := by decide +kernel
theorem dX11_common_31 : decode cX11_common 31 = .ok (.lcmp, 1) := by decide +kernel
theorem dX11_common_32 : decode cX11_common 32 = .ok (.ifCond .eq 21, 3) := by decide +kernel
theorem dX11_common_35 : decode cX11_common 35 = .ok (.lload 4, 2) := by decide +kernel
theorem dX11_common_37 : decode cX11_common 37 = .ok (.lload 6, 2) := by decide +kernel
theorem dX11_common_39 : decode cX11_common 39 = .ok (.lrem, 1) := by decide +kernel
theorem dX11_common_40 : decode cX11_common 40 = .ok (.lstore 8, 2) := by decide +kernel
theorem dX11_common_42 : decode cX11_common 42 = .ok (.lload 6, 2) := by decide +kernel
theorem dX11_common_44 : decode cX11_common 44 = .ok (.lstore 4, 2) := by decide +kernel
theorem dX11_common_46 : decode cX11_common 46 = .ok (.lload 8, 2) := by decide +kernel
theorem dX11_common_48 : decode cX11_common 48 = .ok (.lstore 6, 2) := by decide +kernel
theorem dX11_common_50 : decode cX11_common 50 = .ok (.goto (-22), 3) := by decide +kernel
theorem dX11_common_53 : decode cX11_common 53 = .ok (.lload 4, 2) := by decide +kernel
theorem dX11_common_55 : decode cX11_common 55 = .ok (.lreturn, 1) := by decide +kernel
theorem dX11_least_0 : decode cX11_least 0 = .ok (.lload_n 0, 1) := by decide +kernel
theorem dX11_least_1 : decode cX11_least 1 = .ok (.lload_n 2, 1) := by decide +kernel
theorem dX11_least_2 : decode cX11_least 2 = .ok (.invokestatic 244, 3) := by decide +kernel
theorem dX11_least_5 : decode cX11_least 5 = .ok (.lstore 5, 2) := by decide +kernel
theorem dX11_least_7 : decode cX11_least 7 = .ok (.lload_n 2, 1) := by decide +kernel
theorem dX11_least_8 : decode cX11_least 8 = .ok (.lconst 0, 1) := by decide +kernel
theorem dX11_least_9 : decode cX11_least 9 = .ok (.lcmp, 1) := by decide +kernel
theorem dX11_least_10 : decode cX11_least 10 = .ok (.ifCond .ge 9, 3) := by decide +kernel
theorem dX11_least_13 : decode cX11_least 13 = .ok (.lload 5, 2) := by decide +kernel
theorem dX11_least_15 : decode cX11_least 15 = .ok (.lneg, 1) := by decide +kernel
theorem dX11_least_16 : decode cX11_least 16 = .ok (.goto 5, 3) := by decide +kernel
theorem dX11_least_19 : decode cX11_least 19 = .ok (.lload 5, 2) := by decide +kernel
theorem dX11_least_21 : decode cX11_least 21 = .ok (.lstore 5, 2) := by decide +kernel
theorem dX11_least_23 : decode cX11_least 23 = .ok (.iload 4, 2) := by decide +kernel
theorem dX11_least_25 : decode cX11_least 25 = .ok (.ifCond .eq 10, 3) := by decide +kernel
theorem dX11_least_28 : decode cX11_least 28 = .ok (.lload_n 2, 1) := by decide +kernel
theorem dX11_least_29 : decode cX11_least 29 = .ok (.lload 5, 2) := by decide +kernel
theorem dX11_least_31 : decode cX11_least 31 = .ok (.ldiv, 1) := by decide +kernel
theorem dX11_least_32 : decode cX11_least 32 = .ok (.goto 7, 3) := by decide +kernel
theorem dX11_least_35 : decode cX11_least 35 = .ok (.lload_n 0, 1) := by decide +kernel
theorem dX11_least_36 : decode cX11_least 36 = .ok (.lload 5, 2) := by decide +kernel
theorem dX11_least_38 : decode cX11_least 38 = .ok (.ldiv, 1) := by decide +kernel
theorem dX11_least_39 : decode cX11_least 39 = .ok (.lreturn, 1) := by decide +kernel
theorem dX11_adds_0 : decode cX11_adds 0 = .ok (.aload_n 0, 1) := by decide +kernel
theorem dX11_adds_1 : decode cX11_adds 1 = .ok (.dup, 1) := by decide +kernel
theorem dX11_adds_2 : decode cX11_adds 2 = .ok (.getfield 248, 3) := by decide +kernel
theorem dX11_adds_5 : decode cX11_adds 5 = .ok (.iload_n 1, 1) := by decide +kernel
theorem dX11_adds_6 : decode cX11_adds 6 = .ok (.ifCond .eq 7, 3) := by decide +kernel
theorem dX11_adds_9 : decode cX11_adds 9 = .ok (.iconst 1, 1) := by decide +kernel
theorem dX11_adds_10 : decode cX11_adds 10 = .ok (.goto 4, 3) := by decide +kernel
theorem dX11_adds_13 : decode cX11_adds 13 = .ok (.iconst 0, 1) := by decide +kernel
theorem dX11_adds_14 : decode cX11_adds 14 = .ok (.iadd, 1) := by decide +kernel
theorem dX11_adds_15 : decode cX11_adds 15 = .ok (.putfield 248, 3) := by decide +kernel
theorem dX11_adds_18 : decode cX11_adds 18 = .ok (.aload_n 0, 1) := by decide +kernel
theorem dX11_adds_19 : decode cX11_adds 19 = .ok (.dup, 1) := by decide +kernel
theorem dX11_adds_20 : decode cX11_adds 20 = .ok (.getfield 251, 3) := by decide +kernel
theorem dX11_adds_23 : decode cX11_adds 23 = .ok (.iload_n 1, 1) := by decide +kernel
theorem dX11_adds_24 : decode cX11_adds 24 = .ok (.ifCond .eq 7, 3) := by decide +kernel
theorem dX11_adds_27 : decode cX11_adds 27 = .ok (.iconst 0, 1) := by decide +kernel
theorem dX11_adds_28 : decode cX11_adds 28 = .ok (.goto 4, 3) := by decide +kernel
theorem dX11_adds_31 : decode cX11_adds 31 = .ok (.iconst 1, 1) := by decide +kernel
theorem dX11_adds_32 : decode cX11_adds 32 = .ok (.iadd, 1) := by decide +kernel
theorem dX11_adds_33 : decode cX11_adds 33 = .ok (.putfield 251, 3) := by decide +kernel
theorem dX11_adds_36 : decode cX11_adds 36 = .ok (.aload_n 0, 1) := by decide +kernel
theorem dX11_adds_37 : decode cX11_adds 37 = .ok (.dup, 1) := by decide +kernel
theorem dX11_adds_38 : decode cX11_adds 38 = .ok (.getfield 254, 3) := by decide +kernel
theorem dX11_adds_41 : decode cX11_adds 41 = .ok (.iload_n 1, 1) := by decide +kernel
theorem dX11_adds_42 : decode cX11_adds 42 = .ok (.ifCond .eq 7, 3) := by decide +kernel
theorem dX11_adds_45 : decode cX11_adds 45 = .ok (.iload_n 2, 1) := by decide +kernel
theorem dX11_adds_46 : decode cX11_adds 46 = .ok (.goto 4, 3) := by decide +kernel
theorem dX11_adds_49 : decode cX11_adds 49 = .ok (.iconst 0, 1) := by decide +kernel
theorem dX11_adds_50 : decode cX11_adds 50 = .ok (.iadd, 1) := by decide +kernel
theorem dX11_adds_51 : decode cX11_adds 51 = .ok (.putfield 254, 3) := by decide +kernel
theorem dX11_adds_54 : decode cX11_adds 54 = .ok (.aload_n 0, 1) := by decide +kernel
theorem dX11_adds_55 : decode cX11_adds 55 = .ok (.dup, 1) := by decide +kernel
theorem dX11_adds_56 : decode cX11_adds 56 = .ok (.getfield 257, 3) := by decide +kernel
theorem dX11_adds_59 : decode cX11_adds 59 = .ok (.iload_n 1, 1) := by decide +kernel
theorem dX11_adds_60 : decode cX11_adds 60 = .ok (.ifCond .eq 7, 3) := by decide +kernel
theorem dX11_adds_63 : decode cX11_adds 63 = .ok (.iconst 0, 1) := by decide +kernel
theorem dX11_adds_64 : decode cX11_adds 64 = .ok (.goto 4, 3) := by decide +kernel
theorem dX11_adds_67 : decode cX11_adds 67 = .ok (.iload_n 2, 1) := by decide +kernel
theorem dX11_adds_68 : decode cX11_adds 68 = .ok (.iadd, 1) := by decide +kernel
theorem dX11_adds_69 : decode cX11_adds 69 = .ok (.putfield 257, 3) := by decide +kernel
theorem dX11_adds_72 : decode cX11_adds 72 = .ok (.return_, 1) := by decide +kernel
theorem dX11_nothing_0 : decode cX11_nothing 0 = .ok (.aload_n 0, 1) := by decide +kernel
theorem dX11_nothing_1 : decode cX11_nothing 1 = .ok (.iconst 0, 1) := by decide +kernel
theorem dX11_nothing_2 : decode cX11_nothing 2 = .ok (.putfield 248, 3) := by decide +kernel
theorem dX11_nothing_5 : decode cX11_nothing 5 = .ok (.aload_n 0, 1) := by decide +kernel
theorem dX11_nothing_6 : decode cX11_nothing 6 = .ok (.iconst 0, 1) := by decide +kernel
theorem dX11_nothing_7 : decode cX11_nothing 7 = .ok (.putfield 251, 3) := by decide +kernel
theorem dX11_nothing_10 : decode cX11_nothing 10 = .ok (.aload_n 0, 1) := by decide +kernel
theorem dX11_nothing_11 : decode cX11_nothing 11 = .ok (.iconst 0, 1) := by decide +kernel
theorem dX11_nothing_12 : decode cX11_nothing 12 = .ok (.putfield 254, 3) := by decide +kernel
theorem dX11_nothing_15 : decode cX11_nothing 15 = .ok (.aload_n 0, 1) := by decide +kernel
theorem dX11_nothing_16 : decode cX11_nothing 16 = .ok (.iconst 0, 1) := by decide +kernel
theorem dX11_nothing_17 : decode cX11_nothing 17 = .ok (.putfield 257, 3) := by decide +kernel
theorem dX11_nothing_20 : decode cX11_nothing 20 = .ok (.return_, 1) := by decide +kernel
theorem dX11_apart_0 : decode cX11_apart 0 = .ok (.aload_n 0, 1) := by decide +kernel
theorem dX11_apart_1 : decode cX11_apart 1 = .ok (.getfield 248, 3) := by decide +kernel
theorem dX11_apart_4 : decode cX11_apart 4 = .ok (.ifCond .eq 10, 3) := by decide +kernel
theorem dX11_apart_7 : decode cX11_apart 7 = .ok (.aload_n 0, 1) := by decide +kernel
theorem dX11_apart_8 : decode cX11_apart 8 = .ok (.getfield 251, 3) := by decide +kernel
theorem dX11_apart_11 : decode cX11_apart 11 = .ok (.ifCond .ne 9, 3) := by decide +kernel
theorem dX11_apart_14 : decode cX11_apart 14 = .ok (.ldc_w 260, 3) := by decide +kernel
theorem dX11_apart_17 : decode cX11_apart 17 = .ok (.goto 42, 3) := by decide +kernel
theorem dX11_apart_20 : decode cX11_apart 20 = .ok (.aload_n 0, 1) := by decide +kernel
theorem dX11_apart_21 : decode cX11_apart 21 = .ok (.getfield 254, 3) := by decide +kernel
theorem dX11_apart_24 : decode cX11_apart 24 = .ok (.i2l, 1) := by decide +kernel
theorem dX11_apart_25 : decode cX11_apart 25 = .ok (.aload_n 0, 1) := by decide +kernel
theorem dX11_apart_26 : decode cX11_apart 26 = .ok (.getfield 251, 3) := by decide +kernel
theorem dX11_apart_29 : decode cX11_apart 29 = .ok (.i2l, 1) := by decide +kernel
theorem dX11_apart_30 : decode cX11_apart 30 = .ok (.lmul, 1) := by decide +kernel
theorem dX11_apart_31 : decode cX11_apart 31 = .ok (.aload_n 0, 1) := by decide +kernel
theorem dX11_apart_32 : decode cX11_apart 32 = .ok (.getfield 257, 3) := by decide +kernel
theorem dX11_apart_35 : decode cX11_apart 35 = .ok (.i2l, 1) := by decide +kernel
theorem dX11_apart_36 : decode cX11_apart 36 = .ok (.aload_n 0, 1) := by decide +kernel
theorem dX11_apart_37 : decode cX11_apart 37 = .ok (.getfield 248, 3) := by decide +kernel
theorem dX11_apart_40 : decode cX11_apart 40 = .ok (.i2l, 1) := by decide +kernel
theorem dX11_apart_41 : decode cX11_apart 41 = .ok (.lmul, 1) := by decide +kernel
theorem dX11_apart_42 : decode cX11_apart 42 = .ok (.lsub, 1) := by decide +kernel
theorem dX11_apart_43 : decode cX11_apart 43 = .ok (.aload_n 0, 1) := by decide +kernel
theorem dX11_apart_44 : decode cX11_apart 44 = .ok (.getfield 248, 3) := by decide +kernel
theorem dX11_apart_47 : decode cX11_apart 47 = .ok (.i2l, 1) := by decide +kernel
theorem dX11_apart_48 : decode cX11_apart 48 = .ok (.aload_n 0, 1) := by decide +kernel
theorem dX11_apart_49 : decode cX11_apart 49 = .ok (.getfield 251, 3) := by decide +kernel
theorem dX11_apart_52 : decode cX11_apart 52 = .ok (.i2l, 1) := by decide +kernel
theorem dX11_apart_53 : decode cX11_apart 53 = .ok (.lmul, 1) := by decide +kernel
theorem dX11_apart_54 : decode cX11_apart 54 = .ok (.iload_n 1, 1) := by decide +kernel
theorem dX11_apart_55 : decode cX11_apart 55 = .ok (.invokestatic 261, 3) := by decide +kernel
theorem dX11_apart_58 : decode cX11_apart 58 = .ok (.l2i, 1) := by decide +kernel
theorem dX11_apart_59 : decode cX11_apart 59 = .ok (.ireturn, 1) := by decide +kernel
theorem dX11_alone_0 : decode cX11_alone 0 = .ok (.aload_n 0, 1) := by decide +kernel
theorem dX11_alone_1 : decode cX11_alone 1 = .ok (.invokevirtual 265, 3) := by decide +kernel
theorem dX11_alone_4 : decode cX11_alone 4 = .ok (.iconst 0, 1) := by decide +kernel
theorem dX11_alone_5 : decode cX11_alone 5 = .ok (.istore 4, 2) := by decide +kernel
theorem dX11_alone_7 : decode cX11_alone 7 = .ok (.iload 4, 2) := by decide +kernel
theorem dX11_alone_9 : decode cX11_alone 9 = .ok (.aload_n 0, 1) := by decide +kernel
theorem dX11_alone_10 : decode cX11_alone 10 = .ok (.getfield 7, 3) := by decide +kernel
theorem dX11_alone_13 : decode cX11_alone 13 = .ok (.iconst 3, 1) := by decide +kernel
theorem dX11_alone_14 : decode cX11_alone 14 = .ok (.iaload, 1) := by decide +kernel
theorem dX11_alone_15 : decode cX11_alone 15 = .ok (.if_icmp .ge 31, 3) := by decide +kernel
theorem dX11_alone_18 : decode cX11_alone 18 = .ok (.aload_n 0, 1) := by decide +kernel
theorem dX11_alone_19 : decode cX11_alone 19 = .ok (.iload 4, 2) := by decide +kernel
theorem dX11_alone_21 : decode cX11_alone 21 = .ok (.iload_n 1, 1) := by decide +kernel
theorem dX11_alone_22 : decode cX11_alone 22 = .ok (.iload_n 2, 1) := by decide +kernel
theorem dX11_alone_23 : decode cX11_alone 23 = .ok (.invokevirtual 229, 3) := by decide +kernel
theorem dX11_alone_26 : decode cX11_alone 26 = .ok (.ifCond .eq 14, 3) := by decide +kernel
theorem dX11_alone_29 : decode cX11_alone 29 = .ok (.aload_n 0, 1) := by decide +kernel
theorem dX11_alone_30 : decode cX11_alone 30 = .ok (.iconst 1, 1) := by decide +kernel
theorem dX11_alone_31 : decode cX11_alone 31 = .ok (.aload_n 0, 1) := by decide +kernel
theorem dX11_alone_32 : decode cX11_alone 32 = .ok (.iload 4, 2) := by decide +kernel
theorem dX11_alone_34 : decode cX11_alone 34 = .ok (.invokevirtual 232, 3) := by decide +kernel
theorem dX11_alone_37 : decode cX11_alone 37 = .ok (.invokevirtual 268, 3) := by decide +kernel
theorem dX11_alone_40 : decode cX11_alone 40 = .ok (.iinc 4 1, 3) := by decide +kernel
theorem dX11_alone_43 : decode cX11_alone 43 = .ok (.goto (-36), 3) := by decide +kernel
theorem dX11_alone_46 : decode cX11_alone 46 = .ok (.aload_n 0, 1) := by decide +kernel
theorem dX11_alone_47 : decode cX11_alone 47 = .ok (.getfield 248, 3) := by decide +kernel
theorem dX11_alone_50 : decode cX11_alone 50 = .ok (.ifCond .ne 9, 3) := by decide +kernel
theorem dX11_alone_53 : decode cX11_alone 53 = .ok (.ldc_w 260, 3) := by decide +kernel
theorem dX11_alone_56 : decode cX11_alone 56 = .ok (.goto 18, 3) := by decide +kernel
theorem dX11_alone_59 : decode cX11_alone 59 = .ok (.aload_n 0, 1) := by decide +kernel
theorem dX11_alone_60 : decode cX11_alone 60 = .ok (.getfield 254, 3) := by decide +kernel
theorem dX11_alone_63 : decode cX11_alone 63 = .ok (.i2l, 1) := by decide +kernel
theorem dX11_alone_64 : decode cX11_alone 64 = .ok (.aload_n 0, 1) := by decide +kernel
theorem dX11_alone_65 : decode cX11_alone 65 = .ok (.getfield 248, 3) := by decide +kernel
theorem dX11_alone_68 : decode cX11_alone 68 = .ok (.i2l, 1) := by decide +kernel
theorem dX11_alone_69 : decode cX11_alone 69 = .ok (.iload_n 3, 1) := by decide +kernel
theorem dX11_alone_70 : decode cX11_alone 70 = .ok (.invokestatic 261, 3) := by decide +kernel
theorem dX11_alone_73 : decode cX11_alone 73 = .ok (.l2i, 1) := by decide +kernel
theorem dX11_alone_74 : decode cX11_alone 74 = .ok (.ireturn, 1) := by decide +kernel
theorem dX11_people_0 : decode cX11_people 0 = .ok (.iload_n 3, 1) := by decide +kernel
theorem dX11_people_1 : decode cX11_people 1 = .ok (.iconst 0, 1) := by decide +kernel
theorem dX11_people_2 : decode cX11_people 2 = .ok (.sipush 1000, 3) := by decide +kernel
theorem dX11_people_5 : decode cX11_people 5 = .ok (.invokestatic 90, 3) := by decide +kernel
theorem dX11_people_8 : decode cX11_people 8 = .ok (.ifCond .ne 7, 3) := by decide +kernel
theorem dX11_people_11 : decode cX11_people 11 = .ok (.ldc_w 260, 3) := by decide +kernel
theorem dX11_people_14 : decode cX11_people 14 = .ok (.ireturn, 1) := by decide +kernel
theorem dX11_people_15 : decode cX11_people 15 = .ok (.aload_n 0, 1) := by decide +kernel
theorem dX11_people_16 : decode cX11_people 16 = .ok (.invokevirtual 265, 3) := by decide +kernel
theorem dX11_people_19 : decode cX11_people 19 = .ok (.iconst 0, 1) := by decide +kernel
theorem dX11_people_20 : decode cX11_people 20 = .ok (.istore 5, 2) := by decide +kernel
theorem dX11_people_22 : decode cX11_people 22 = .ok (.iload 5, 2) := by decide +kernel
theorem dX11_people_24 : decode cX11_people 24 = .ok (.aload_n 0, 1) := by decide +kernel
theorem dX11_people_25 : decode cX11_people 25 = .ok (.getfield 7, 3) := by decide +kernel
theorem dX11_people_28 : decode cX11_people 28 = .ok (.iconst 3, 1) := by decide +kernel
theorem dX11_people_29 : decode cX11_people 29 = .ok (.iaload, 1) := by decide +kernel
theorem dX11_people_30 : decode cX11_people 30 = .ok (.if_icmp .ge 47, 3) := by decide +kernel
theorem dX11_people_33 : decode cX11_people 33 = .ok (.aload_n 0, 1) := by decide +kernel
theorem dX11_people_34 : decode cX11_people 34 = .ok (.iload 5, 2) := by decide +kernel
theorem dX11_people_36 : decode cX11_people 36 = .ok (.iload_n 1, 1) := by decide +kernel
theorem dX11_people_37 : decode cX11_people 37 = .ok (.iload_n 2, 1) := by decide +kernel
theorem dX11_people_38 : decode cX11_people 38 = .ok (.invokevirtual 229, 3) := by decide +kernel
theorem dX11_people_41 : decode cX11_people 41 = .ok (.ifCond .eq 30, 3) := by decide +kernel
theorem dX11_people_44 : decode cX11_people 44 = .ok (.aload_n 0, 1) := by decide +kernel
theorem dX11_people_45 : decode cX11_people 45 = .ok (.aload_n 0, 1) := by decide +kernel
theorem dX11_people_46 : decode cX11_people 46 = .ok (.iload 5, 2) := by decide +kernel
theorem dX11_people_48 : decode cX11_people 48 = .ok (.bipush 8, 2) := by decide +kernel
theorem dX11_people_50 : decode cX11_people 50 = .ok (.invokevirtual 226, 3) := by decide +kernel
theorem dX11_people_53 : decode cX11_people 53 = .ok (.iload_n 3, 1) := by decide +kernel
theorem dX11_people_54 : decode cX11_people 54 = .ok (.if_icmp .lt 7, 3) := by decide +kernel
theorem dX11_people_57 : decode cX11_people 57 = .ok (.iconst 1, 1) := by decide +kernel
theorem dX11_people_58 : decode cX11_people 58 = .ok (.goto 4, 3) := by decide +kernel
theorem dX11_people_61 : decode cX11_people 61 = .ok (.iconst 0, 1) := by decide +kernel
theorem dX11_people_62 : decode cX11_people 62 = .ok (.aload_n 0, 1) := by decide +kernel
theorem dX11_people_63 : decode cX11_people 63 = .ok (.iload 5, 2) := by decide +kernel
theorem dX11_people_65 : decode cX11_people 65 = .ok (.invokevirtual 232, 3) := by decide +kernel
theorem dX11_people_68 : decode cX11_people 68 = .ok (.invokevirtual 268, 3) := by decide +kernel
theorem dX11_people_71 : decode cX11_people 71 = .ok (.iinc 5 1, 3) := by decide +kernel
theorem dX11_people_74 : decode cX11_people 74 = .ok (.goto (-52), 3) := by decide +kernel
theorem dX11_people_77 : decode cX11_people 77 = .ok (.aload_n 0, 1) := by decide +kernel
theorem dX11_people_78 : decode cX11_people 78 = .ok (.iload 4, 2) := by decide +kernel
theorem dX11_people_80 : decode cX11_people 80 = .ok (.invokevirtual 272, 3) := by decide +kernel
theorem dX11_people_83 : decode cX11_people 83 = .ok (.ireturn, 1) := by decide +kernel
theorem dX11_longer_0 : decode cX11_longer 0 = .ok (.aload_n 0, 1) := by decide +kernel
theorem dX11_longer_1 : decode cX11_longer 1 = .ok (.invokevirtual 265, 3) := by decide +kernel
theorem dX11_longer_4 : decode cX11_longer 4 = .ok (.iconst 0, 1) := by decide +kernel
theorem dX11_longer_5 : decode cX11_longer 5 = .ok (.istore 5, 2) := by decide +kernel
theorem dX11_longer_7 : decode cX11_longer 7 = .ok (.iload 5, 2) := by decide +kernel
theorem dX11_longer_9 : decode cX11_longer 9 = .ok (.aload_n 0, 1) := by decide +kernel
theorem dX11_longer_10 : decode cX11_longer 10 = .ok (.getfield 7, 3) := by decide +kernel
theorem dX11_longer_13 : decode cX11_longer 13 = .ok (.iconst 3, 1) := by decide +kernel
theorem dX11_longer_14 : decode cX11_longer 14 = .ok (.iaload, 1) := by decide +kernel
theorem dX11_longer_15 : decode cX11_longer 15 = .ok (.if_icmp .ge 75, 3) := by decide +kernel
theorem dX11_longer_18 : decode cX11_longer 18 = .ok (.aload_n 0, 1) := by decide +kernel
theorem dX11_longer_19 : decode cX11_longer 19 = .ok (.iload 5, 2) := by decide +kernel
theorem dX11_longer_21 : decode cX11_longer 21 = .ok (.invokevirtual 232, 3) := by decide +kernel
theorem dX11_longer_24 : decode cX11_longer 24 = .ok (.istore 6, 2) := by decide +kernel
theorem dX11_longer_26 : decode cX11_longer 26 = .ok (.aload_n 0, 1) := by decide +kernel
theorem dX11_longer_27 : decode cX11_longer 27 = .ok (.iload 5, 2) := by decide +kernel
theorem dX11_longer_29 : decode cX11_longer 29 = .ok (.iload_n 1, 1) := by decide +kernel
theorem dX11_longer_30 : decode cX11_longer 30 = .ok (.iload_n 2, 1) := by decide +kernel
theorem dX11_longer_31 : decode cX11_longer 31 = .ok (.invokevirtual 229, 3) := by decide +kernel
theorem dX11_longer_34 : decode cX11_longer 34 = .ok (.ifCond .eq 50, 3) := by decide +kernel
theorem dX11_longer_37 : decode cX11_longer 37 = .ok (.aload_n 0, 1) := by decide +kernel
theorem dX11_longer_38 : decode cX11_longer 38 = .ok (.iload 5, 2) := by decide +kernel
theorem dX11_longer_40 : decode cX11_longer 40 = .ok (.bipush 9, 2) := by decide +kernel
theorem dX11_longer_42 : decode cX11_longer 42 = .ok (.invokevirtual 226, 3) := by decide +kernel
theorem dX11_longer_45 : decode cX11_longer 45 = .ok (.iload_n 3, 1) := by decide +kernel
theorem dX11_longer_46 : decode cX11_longer 46 = .ok (.if_icmp .ne 38, 3) := by decide +kernel
theorem dX11_longer_49 : decode cX11_longer 49 = .ok (.iload 6, 2) := by decide +kernel
theorem dX11_longer_51 : decode cX11_longer 51 = .ok (.iconst 1, 1) := by decide +kernel
theorem dX11_longer_52 : decode cX11_longer 52 = .ok (.if_icmp .eq 9, 3) := by decide +kernel
theorem dX11_longer_55 : decode cX11_longer 55 = .ok (.iload 6, 2) := by decide +kernel
theorem dX11_longer_57 : decode cX11_longer 57 = .ok (.iconst (-1), 1) := by decide +kernel
theorem dX11_longer_58 : decode cX11_longer 58 = .ok (.if_icmp .ne 26, 3) := by decide +kernel
theorem dX11_longer_61 : decode cX11_longer 61 = .ok (.aload_n 0, 1) := by decide +kernel
theorem dX11_longer_62 : decode cX11_longer 62 = .ok (.iload 6, 2) := by decide +kernel
theorem dX11_longer_64 : decode cX11_longer 64 = .ok (.iconst (-1), 1) := by decide +kernel
theorem dX11_longer_65 : decode cX11_longer 65 = .ok (.if_icmp .ne 7, 3) := by decide +kernel
theorem dX11_longer_68 : decode cX11_longer 68 = .ok (.iconst 1, 1) := by decide +kernel
theorem dX11_longer_69 : decode cX11_longer 69 = .ok (.goto 4, 3) := by decide +kernel
theorem dX11_longer_72 : decode cX11_longer 72 = .ok (.iconst 0, 1) := by decide +kernel
theorem dX11_longer_73 : decode cX11_longer 73 = .ok (.aload_n 0, 1) := by decide +kernel
theorem dX11_longer_74 : decode cX11_longer 74 = .ok (.iload 5, 2) := by decide +kernel
theorem dX11_longer_76 : decode cX11_longer 76 = .ok (.bipush 7, 2) := by decide +kernel
theorem dX11_longer_78 : decode cX11_longer 78 = .ok (.invokevirtual 226, 3) := by decide +kernel
theorem dX11_longer_81 : decode cX11_longer 81 = .ok (.invokevirtual 268, 3) := by decide +kernel
theorem dX11_longer_84 : decode cX11_longer 84 = .ok (.iinc 5 1, 3) := by decide +kernel
theorem dX11_longer_87 : decode cX11_longer 87 = .ok (.goto (-80), 3) := by decide +kernel
theorem dX11_longer_90 : decode cX11_longer 90 = .ok (.aload_n 0, 1) := by decide +kernel
theorem dX11_longer_91 : decode cX11_longer 91 = .ok (.iload 4, 2) := by decide +kernel
theorem dX11_longer_93 : decode cX11_longer 93 = .ok (.invokevirtual 272, 3) := by decide +kernel
theorem dX11_longer_96 : decode cX11_longer 96 = .ok (.ireturn, 1) := by decide +kernel
theorem dX11_slope_0 : decode cX11_slope 0 = .ok (.lconst 0, 1) := by decide +kernel
theorem dX11_slope_1 : decode cX11_slope 1 = .ok (.lstore 4, 2) := by decide +kernel
theorem dX11_slope_3 : decode cX11_slope 3 = .ok (.lconst 0, 1) := by decide +kernel
theorem dX11_slope_4 : decode cX11_slope 4 = .ok (.lstore 6, 2) := by decide +kernel
theorem dX11_slope_6 : decode cX11_slope 6 = .ok (.lconst 0, 1) := by decide +kernel
theorem dX11_slope_7 : decode cX11_slope 7 = .ok (.lstore 8, 2) := by decide +kernel
theorem dX11_slope_9 : decode cX11_slope 9 = .ok (.lconst 0, 1) := by decide +kernel
theorem dX11_slope_10 : decode cX11_slope 10 = .ok (.lstore 10, 2) := by decide +kernel
theorem dX11_slope_12 : decode cX11_slope 12 = .ok (.lconst 0, 1) := by decide +kernel
theorem dX11_slope_13 : decode cX11_slope 13 = .ok (.lstore 12, 2) := by decide +kernel
theorem dX11_slope_15 : decode cX11_slope 15 = .ok (.iconst 0, 1) := by decide +kernel
theorem dX11_slope_16 : decode cX11_slope 16 = .ok (.istore 14, 2) := by decide +kernel
theorem dX11_slope_18 : decode cX11_slope 18 = .ok (.iload 14, 2) := by decide +kernel
theorem dX11_slope_20 : decode cX11_slope 20 = .ok (.aload_n 0, 1) := by decide +kernel
theorem dX11_slope_21 : decode cX11_slope 21 = .ok (.getfield 7, 3) := by decide +kernel
theorem dX11_slope_24 : decode cX11_slope 24 = .ok (.iconst 3, 1) := by decide +kernel
theorem dX11_slope_25 : decode cX11_slope 25 = .ok (.iaload, 1) := by decide +kernel
theorem dX11_slope_26 : decode cX11_slope 26 = .ok (.if_icmp .ge 83, 3) := by decide +kernel
theorem dX11_slope_29 : decode cX11_slope 29 = .ok (.aload_n 0, 1) := by decide +kernel
theorem dX11_slope_30 : decode cX11_slope 30 = .ok (.iload 14, 2) := by decide +kernel
theorem dX11_slope_32 : decode cX11_slope 32 = .ok (.iload_n 1, 1) := by decide +kernel
theorem dX11_slope_33 : decode cX11_slope 33 = .ok (.iload_n 2, 1) := by decide +kernel
theorem dX11_slope_34 : decode cX11_slope 34 = .ok (.invokevirtual 229, 3) := by decide +kernel
theorem dX11_slope_37 : decode cX11_slope 37 = .ok (.ifCond .ne 6, 3) := by decide +kernel
theorem dX11_slope_40 : decode cX11_slope 40 = .ok (.goto 63, 3) := by decide +kernel
theorem dX11_slope_43 : decode cX11_slope 43 = .ok (.aload_n 0, 1) := by decide +kernel
theorem dX11_slope_44 : decode cX11_slope 44 = .ok (.iload 14, 2) := by decide +kernel
theorem dX11_slope_46 : decode cX11_slope 46 = .ok (.iconst 2, 1) := by decide +kernel
theorem dX11_slope_47 : decode cX11_slope 47 = .ok (.invokevirtual 226, 3) := by decide +kernel
theorem dX11_slope_50 : decode cX11_slope 50 = .ok (.i2l, 1) := by decide +kernel
theorem dX11_slope_51 : decode cX11_slope 51 = .ok (.lstore 15, 2) := by decide +kernel
theorem dX11_slope_53 : decode cX11_slope 53 = .ok (.lload 4, 2) := by decide +kernel
theorem dX11_slope_55 : decode cX11_slope 55 = .ok (.lconst 1, 1) := by decide +kernel
theorem dX11_slope_56 : decode cX11_slope 56 = .ok (.ladd, 1) := by decide +kernel
theorem dX11_slope_57 : decode cX11_slope 57 = .ok (.lstore 4, 2) := by decide +kernel
theorem dX11_slope_59 : decode cX11_slope 59 = .ok (.lload 6, 2) := by decide +kernel
theorem dX11_slope_61 : decode cX11_slope 61 = .ok (.lload 15, 2) := by decide +kernel
theorem dX11_slope_63 : decode cX11_slope 63 = .ok (.ladd, 1) := by decide +kernel
theorem dX11_slope_64 : decode cX11_slope 64 = .ok (.lstore 6, 2) := by decide +kernel
theorem dX11_slope_66 : decode cX11_slope 66 = .ok (.lload 8, 2) := by decide +kernel
theorem dX11_slope_68 : decode cX11_slope 68 = .ok (.aload_n 0, 1) := by decide +kernel
theorem dX11_slope_69 : decode cX11_slope 69 = .ok (.iload 14, 2) := by decide +kernel
theorem dX11_slope_71 : decode cX11_slope 71 = .ok (.invokevirtual 232, 3) := by decide +kernel
theorem dX11_slope_74 : decode cX11_slope 74 = .ok (.i2l, 1) := by decide +kernel
theorem dX11_slope_75 : decode cX11_slope 75 = .ok (.ladd, 1) := by decide +kernel
theorem dX11_slope_76 : decode cX11_slope 76 = .ok (.lstore 8, 2) := by decide +kernel
theorem dX11_slope_78 : decode cX11_slope 78 = .ok (.lload 10, 2) := by decide +kernel
theorem dX11_slope_80 : decode cX11_slope 80 = .ok (.lload 15, 2) := by decide +kernel
theorem dX11_slope_82 : decode cX11_slope 82 = .ok (.lload 15, 2) := by decide +kernel
theorem dX11_slope_84 : decode cX11_slope 84 = .ok (.lmul, 1) := by decide +kernel
theorem dX11_slope_85 : decode cX11_slope 85 = .ok (.ladd, 1) := by decide +kernel
theorem dX11_slope_86 : decode cX11_slope 86 = .ok (.lstore 10, 2) := by decide +kernel
theorem dX11_slope_88 : decode cX11_slope 88 = .ok (.lload 12, 2) := by decide +kernel
theorem dX11_slope_90 : decode cX11_slope 90 = .ok (.lload 15, 2) := by decide +kernel
theorem dX11_slope_92 : decode cX11_slope 92 = .ok (.aload_n 0, 1) := by decide +kernel
theorem dX11_slope_93 : decode cX11_slope 93 = .ok (.iload 14, 2) := by decide +kernel
theorem dX11_slope_95 : decode cX11_slope 95 = .ok (.invokevirtual 232, 3) := by decide +kernel
theorem dX11_slope_98 : decode cX11_slope 98 = .ok (.i2l, 1) := by decide +kernel
theorem dX11_slope_99 : decode cX11_slope 99 = .ok (.lmul, 1) := by decide +kernel
theorem dX11_slope_100 : decode cX11_slope 100 = .ok (.ladd, 1) := by decide +kernel
theorem dX11_slope_101 : decode cX11_slope 101 = .ok (.lstore 12, 2) := by decide +kernel
theorem dX11_slope_103 : decode cX11_slope 103 = .ok (.iinc 14 1, 3) := by decide +kernel
theorem dX11_slope_106 : decode cX11_slope 106 = .ok (.goto (-88), 3) := by decide +kernel
theorem dX11_slope_109 : decode cX11_slope 109 = .ok (.lload 4, 2) := by decide +kernel
theorem dX11_slope_111 : decode cX11_slope 111 = .ok (.lload 10, 2) := by decide +kernel
theorem dX11_slope_113 : decode cX11_slope 113 = .ok (.lmul, 1) := by decide +kernel
theorem dX11_slope_114 : decode cX11_slope 114 = .ok (.lload 6, 2) := by decide +kernel
theorem dX11_slope_116 : decode cX11_slope 116 = .ok (.lload 6, 2) := by decide +kernel
theorem dX11_slope_118 : decode cX11_slope 118 = .ok (.lmul, 1) := by decide +kernel
theorem dX11_slope_119 : decode cX11_slope 119 = .ok (.lsub, 1) := by decide +kernel
theorem dX11_slope_120 : decode cX11_slope 120 = .ok (.lstore 14, 2) := by decide +kernel
theorem dX11_slope_122 : decode cX11_slope 122 = .ok (.lload 14, 2) := by decide +kernel
theorem dX11_slope_124 : decode cX11_slope 124 = .ok (.lconst 0, 1) := by decide +kernel
theorem dX11_slope_125 : decode cX11_slope 125 = .ok (.lcmp, 1) := by decide +kernel
theorem dX11_slope_126 : decode cX11_slope 126 = .ok (.ifCond .ne 9, 3) := by decide +kernel
theorem dX11_slope_129 : decode cX11_slope 129 = .ok (.ldc_w 260, 3) := by decide +kernel
theorem dX11_slope_132 : decode cX11_slope 132 = .ok (.goto 21, 3) := by decide +kernel
theorem dX11_slope_135 : decode cX11_slope 135 = .ok (.lload 4, 2) := by decide +kernel
theorem dX11_slope_137 : decode cX11_slope 137 = .ok (.lload 12, 2) := by decide +kernel
theorem dX11_slope_139 : decode cX11_slope 139 = .ok (.lmul, 1) := by decide +kernel
theorem dX11_slope_140 : decode cX11_slope 140 = .ok (.lload 6, 2) := by decide +kernel
theorem dX11_slope_142 : decode cX11_slope 142 = .ok (.lload 8, 2) := by decide +kernel
theorem dX11_slope_144 : decode cX11_slope 144 = .ok (.lmul, 1) := by decide +kernel
theorem dX11_slope_145 : decode cX11_slope 145 = .ok (.lsub, 1) := by decide +kernel
theorem dX11_slope_146 : decode cX11_slope 146 = .ok (.lload 14, 2) := by decide +kernel
theorem dX11_slope_148 : decode cX11_slope 148 = .ok (.iload_n 3, 1) := by decide +kernel
theorem dX11_slope_149 : decode cX11_slope 149 = .ok (.invokestatic 261, 3) := by decide +kernel
theorem dX11_slope_152 : decode cX11_slope 152 = .ok (.l2i, 1) := by decide +kernel
theorem dX11_slope_153 : decode cX11_slope 153 = .ok (.ireturn, 1) := by decide +kernel
theorem dX11_meets_0 : decode cX11_meets 0 = .ok (.aload_n 0, 1) := by decide +kernel
theorem dX11_meets_1 : decode cX11_meets 1 = .ok (.iconst 1, 1) := by decide +kernel
theorem dX11_meets_2 : decode cX11_meets 2 = .ok (.putfield 276, 3) := by decide +kernel
theorem dX11_meets_5 : decode cX11_meets 5 = .ok (.aload_n 0, 1) := by decide +kernel
theorem dX11_meets_6 : decode cX11_meets 6 = .ok (.iconst (-1), 1) := by decide +kernel
theorem dX11_meets_7 : decode cX11_meets 7 = .ok (.putfield 279, 3) := by decide +kernel
theorem dX11_meets_10 : decode cX11_meets 10 = .ok (.iconst 0, 1) := by decide +kernel
theorem dX11_meets_11 : decode cX11_meets 11 = .ok (.istore_n 3, 1) := by decide +kernel
theorem dX11_meets_12 : decode cX11_meets 12 = .ok (.iload_n 3, 1) := by decide +kernel
theorem dX11_meets_13 : decode cX11_meets 13 = .ok (.bipush 8, 2) := by decide +kernel
theorem dX11_meets_15 : decode cX11_meets 15 = .ok (.if_icmp .ge 65, 3) := by decide +kernel
theorem dX11_meets_18 : decode cX11_meets 18 = .ok (.aload_n 0, 1) := by decide +kernel
theorem dX11_meets_19 : decode cX11_meets 19 = .ok (.getfield 31, 3) := by decide +kernel
theorem dX11_meets_22 : decode cX11_meets 22 = .ok (.iload_n 3, 1) := by decide +kernel
theorem dX11_meets_23 : decode cX11_meets 23 = .ok (.iconst (-1), 1) := by decide +kernel
theorem dX11_meets_24 : decode cX11_meets 24 = .ok (.iastore, 1) := by decide +kernel
theorem dX11_meets_25 : decode cX11_meets 25 = .ok (.aload_n 0, 1) := by decide +kernel
theorem dX11_meets_26 : decode cX11_meets 26 = .ok (.iload_n 1, 1) := by decide +kernel
theorem dX11_meets_27 : decode cX11_meets 27 = .ok (.iload_n 2, 1) := by decide +kernel
theorem dX11_meets_28 : decode cX11_meets 28 = .ok (.iload_n 3, 1) := by decide +kernel
theorem dX11_meets_29 : decode cX11_meets 29 = .ok (.iconst 3, 1) := by decide +kernel
theorem dX11_meets_30 : decode cX11_meets 30 = .ok (.invokevirtual 238, 3) := by decide +kernel
theorem dX11_meets_33 : decode cX11_meets 33 = .ok (.ifCond .ne 6, 3) := by decide +kernel
theorem dX11_meets_36 : decode cX11_meets 36 = .ok (.goto 38, 3) := by decide +kernel
theorem dX11_meets_39 : decode cX11_meets 39 = .ok (.aload_n 0, 1) := by decide +kernel
theorem dX11_meets_40 : decode cX11_meets 40 = .ok (.getfield 279, 3) := by decide +kernel
theorem dX11_meets_43 : decode cX11_meets 43 = .ok (.ifCond .ge 11, 3) := by decide +kernel
theorem dX11_meets_46 : decode cX11_meets 46 = .ok (.aload_n 0, 1) := by decide +kernel
theorem dX11_meets_47 : decode cX11_meets 47 = .ok (.iload_n 3, 1) := by decide +kernel
theorem dX11_meets_48 : decode cX11_meets 48 = .ok (.putfield 279, 3) := by decide +kernel
theorem dX11_meets_51 : decode cX11_meets 51 = .ok (.goto 23, 3) := by decide +kernel
theorem dX11_meets_54 : decode cX11_meets 54 = .ok (.aload_n 0, 1) := by decide +kernel
theorem dX11_meets_55 : decode cX11_meets 55 = .ok (.getfield 31, 3) := by decide +kernel
theorem dX11_meets_58 : decode cX11_meets 58 = .ok (.iload_n 3, 1) := by decide +kernel
theorem dX11_meets_59 : decode cX11_meets 59 = .ok (.aload_n 0, 1) := by decide +kernel
theorem dX11_meets_60 : decode cX11_meets 60 = .ok (.getfield 276, 3) := by decide +kernel
theorem dX11_meets_63 : decode cX11_meets 63 = .ok (.iastore, 1) := by decide +kernel
theorem dX11_meets_64 : decode cX11_meets 64 = .ok (.aload_n 0, 1) := by decide +kernel
theorem dX11_meets_65 : decode cX11_meets 65 = .ok (.dup, 1) := by decide +kernel
theorem dX11_meets_66 : decode cX11_meets 66 = .ok (.getfield 276, 3) := by decide +kernel
theorem dX11_meets_69 : decode cX11_meets 69 = .ok (.iconst 1, 1) := by decide +kernel
theorem dX11_meets_70 : decode cX11_meets 70 = .ok (.iadd, 1) := by decide +kernel
theorem dX11_meets_71 : decode cX11_meets 71 = .ok (.putfield 276, 3) := by decide +kernel
theorem dX11_meets_74 : decode cX11_meets 74 = .ok (.iinc 3 1, 3) := by decide +kernel
theorem dX11_meets_77 : decode cX11_meets 77 = .ok (.goto (-65), 3) := by decide +kernel
theorem dX11_meets_80 : decode cX11_meets 80 = .ok (.return_, 1) := by decide +kernel
theorem dX11_countsIn_0 : decode cX11_countsIn 0 = .ok (.iload_n 2, 1) := by decide +kernel
theorem dX11_countsIn_1 : decode cX11_countsIn 1 = .ok (.ifCond .ne 5, 3) := by decide +kernel
theorem dX11_countsIn_4 : decode cX11_countsIn 4 = .ok (.iconst 1, 1) := by decide +kernel
theorem dX11_countsIn_5 : decode cX11_countsIn 5 = .ok (.ireturn, 1) := by decide +kernel
theorem dX11_countsIn_6 : decode cX11_countsIn 6 = .ok (.aload_n 0, 1) := by decide +kernel
theorem dX11_countsIn_7 : decode cX11_countsIn 7 = .ok (.getfield 31, 3) := by decide +kernel
theorem dX11_countsIn_10 : decode cX11_countsIn 10 = .ok (.aload_n 0, 1) := by decide +kernel
theorem dX11_countsIn_11 : decode cX11_countsIn 11 = .ok (.iload_n 1, 1) := by decide +kernel
theorem dX11_countsIn_12 : decode cX11_countsIn 12 = .ok (.iconst 0, 1) := by decide +kernel
theorem dX11_countsIn_13 : decode cX11_countsIn 13 = .ok (.invokevirtual 226, 3) := by decide +kernel
theorem dX11_countsIn_16 : decode cX11_countsIn 16 = .ok (.iaload, 1) := by decide +kernel
theorem dX11_countsIn_17 : decode cX11_countsIn 17 = .ok (.iload_n 2, 1) := by decide +kernel
theorem dX11_countsIn_18 : decode cX11_countsIn 18 = .ok (.if_icmp .ne 7, 3) := by decide +kernel
theorem dX11_countsIn_21 : decode cX11_countsIn 21 = .ok (.iconst 1, 1) := by decide +kernel
theorem dX11_countsIn_22 : decode cX11_countsIn 22 = .ok (.goto 4, 3) := by decide +kernel
theorem dX11_countsIn_25 : decode cX11_countsIn 25 = .ok (.iconst 0, 1) := by decide +kernel
theorem dX11_countsIn_26 : decode cX11_countsIn 26 = .ok (.aload_n 0, 1) := by decide +kernel
theorem dX11_countsIn_27 : decode cX11_countsIn 27 = .ok (.getfield 31, 3) := by decide +kernel
theorem dX11_countsIn_30 : decode cX11_countsIn 30 = .ok (.aload_n 0, 1) := by decide +kernel
theorem dX11_countsIn_31 : decode cX11_countsIn 31 = .ok (.iload_n 1, 1) := by decide +kernel
theorem dX11_countsIn_32 : decode cX11_countsIn 32 = .ok (.iconst 1, 1) := by decide +kernel
theorem dX11_countsIn_33 : decode cX11_countsIn 33 = .ok (.invokevirtual 226, 3) := by decide +kernel
theorem dX11_countsIn_36 : decode cX11_countsIn 36 = .ok (.iaload, 1) := by decide +kernel
theorem dX11_countsIn_37 : decode cX11_countsIn 37 = .ok (.iload_n 2, 1) := by decide +kernel
theorem dX11_countsIn_38 : decode cX11_countsIn 38 = .ok (.if_icmp .ne 7, 3) := by decide +kernel
theorem dX11_countsIn_41 : decode cX11_countsIn 41 = .ok (.iconst 1, 1) := by decide +kernel
theorem dX11_countsIn_42 : decode cX11_countsIn 42 = .ok (.goto 4, 3) := by decide +kernel
theorem dX11_countsIn_45 : decode cX11_countsIn 45 = .ok (.iconst 0, 1) := by decide +kernel
theorem dX11_countsIn_46 : decode cX11_countsIn 46 = .ok (.isub, 1) := by decide +kernel
theorem dX11_countsIn_47 : decode cX11_countsIn 47 = .ok (.ireturn, 1) := by decide +kernel
theorem dX11_squares_0 : decode cX11_squares 0 = .ok (.iconst 0, 1) := by decide +kernel
theorem dX11_squares_1 : decode cX11_squares 1 = .ok (.istore_n 3, 1) := by decide +kernel
theorem dX11_squares_2 : decode cX11_squares 2 = .ok (.iload_n 3, 1) := by decide +kernel
theorem dX11_squares_3 : decode cX11_squares 3 = .ok (.bipush 42, 2) := by decide +kernel
theorem dX11_squares_5 : decode cX11_squares 5 = .ok (.if_icmp .ge 16, 3) := by decide +kernel
theorem dX11_squares_8 : decode cX11_squares 8 = .ok (.aload_n 0, 1) := by decide +kernel
theorem dX11_squares_9 : decode cX11_squares 9 = .ok (.getfield 27, 3) := by decide +kernel
theorem dX11_squares_12 : decode cX11_squares 12 = .ok (.iload_n 3, 1) := by decide +kernel
theorem dX11_squares_13 : decode cX11_squares 13 = .ok (.lconst 0, 1) := by decide +kernel
theorem dX11_squares_14 : decode cX11_squares 14 = .ok (.lastore, 1) := by decide +kernel
theorem dX11_squares_15 : decode cX11_squares 15 = .ok (.iinc 3 1, 3) := by decide +kernel
theorem dX11_squares_18 : decode cX11_squares 18 = .ok (.goto (-16), 3) := by decide +kernel
theorem dX11_squares_21 : decode cX11_squares 21 = .ok (.iconst 0, 1) := by decide +kernel
theorem dX11_squares_22 : decode cX11_squares 22 = .ok (.istore_n 3, 1) := by decide +kernel
theorem dX11_squares_23 : decode cX11_squares 23 = .ok (.iload_n 3, 1) := by decide +kernel
theorem dX11_squares_24 : decode cX11_squares 24 = .ok (.aload_n 0, 1) := by decide +kernel
theorem dX11_squares_25 : decode cX11_squares 25 = .ok (.getfield 7, 3) := by decide +kernel
theorem dX11_squares_28 : decode cX11_squares 28 = .ok (.iconst 3, 1) := by decide +kernel
theorem dX11_squares_29 : decode cX11_squares 29 = .ok (.iaload, 1) := by decide +kernel
theorem dX11_squares_30 : decode cX11_squares 30 = .ok (.if_icmp .ge 120, 3) := by decide +kernel
theorem dX11_squares_33 : decode cX11_squares 33 = .ok (.aload_n 0, 1) := by decide +kernel
theorem dX11_squares_34 : decode cX11_squares 34 = .ok (.iload_n 3, 1) := by decide +kernel
theorem dX11_squares_35 : decode cX11_squares 35 = .ok (.iload_n 1, 1) := by decide +kernel
theorem dX11_squares_36 : decode cX11_squares 36 = .ok (.iload_n 2, 1) := by decide +kernel
theorem dX11_squares_37 : decode cX11_squares 37 = .ok (.invokevirtual 229, 3) := by decide +kernel
theorem dX11_squares_40 : decode cX11_squares 40 = .ok (.ifCond .ne 6, 3) := by decide +kernel
theorem dX11_squares_43 : decode cX11_squares 43 = .ok (.goto 101, 3) := by decide +kernel
theorem dX11_squares_46 : decode cX11_squares 46 = .ok (.iconst 0, 1) := by decide +kernel
theorem dX11_squares_47 : decode cX11_squares 47 = .ok (.istore 4, 2) := by decide +kernel
theorem dX11_squares_49 : decode cX11_squares 49 = .ok (.iload 4, 2) := by decide +kernel
theorem dX11_squares_51 : decode cX11_squares 51 = .ok (.aload_n 0, 1) := by decide +kernel
theorem dX11_squares_52 : decode cX11_squares 52 = .ok (.getfield 276, 3) := by decide +kernel
theorem dX11_squares_55 : decode cX11_squares 55 = .ok (.if_icmp .ge 89, 3) := by decide +kernel
theorem dX11_squares_58 : decode cX11_squares 58 = .ok (.iconst 0, 1) := by decide +kernel
theorem dX11_squares_59 : decode cX11_squares 59 = .ok (.istore 5, 2) := by decide +kernel
theorem dX11_squares_61 : decode cX11_squares 61 = .ok (.iload 5, 2) := by decide +kernel
theorem dX11_squares_63 : decode cX11_squares 63 = .ok (.aload_n 0, 1) := by decide +kernel
theorem dX11_squares_64 : decode cX11_squares 64 = .ok (.getfield 276, 3) := by decide +kernel
theorem dX11_squares_67 : decode cX11_squares 67 = .ok (.if_icmp .ge 41, 3) := by decide +kernel
theorem dX11_squares_70 : decode cX11_squares 70 = .ok (.aload_n 0, 1) := by decide +kernel
theorem dX11_squares_71 : decode cX11_squares 71 = .ok (.getfield 27, 3) := by decide +kernel
theorem dX11_squares_74 : decode cX11_squares 74 = .ok (.bipush 7, 2) := by decide +kernel
theorem dX11_squares_76 : decode cX11_squares 76 = .ok (.iload 4, 2) := by decide +kernel
theorem dX11_squares_78 : decode cX11_squares 78 = .ok (.imul, 1) := by decide +kernel
theorem dX11_squares_79 : decode cX11_squares 79 = .ok (.iload 5, 2) := by decide +kernel
theorem dX11_squares_81 : decode cX11_squares 81 = .ok (.iadd, 1) := by decide +kernel
theorem dX11_squares_82 : decode cX11_squares 82 = .ok (.dup2, 1) := by decide +kernel
theorem dX11_squares_83 : decode cX11_squares 83 = .ok (.laload, 1) := by decide +kernel
theorem dX11_squares_84 : decode cX11_squares 84 = .ok (.aload_n 0, 1) := by decide +kernel
theorem dX11_squares_85 : decode cX11_squares 85 = .ok (.iload_n 3, 1) := by decide +kernel
theorem dX11_squares_86 : decode cX11_squares 86 = .ok (.iload 4, 2) := by decide +kernel
theorem dX11_squares_88 : decode cX11_squares 88 = .ok (.invokevirtual 282, 3) := by decide +kernel
theorem dX11_squares_91 : decode cX11_squares 91 = .ok (.aload_n 0, 1) := by decide +kernel
theorem dX11_squares_92 : decode cX11_squares 92 = .ok (.iload_n 3, 1) := by decide +kernel
theorem dX11_squares_93 : decode cX11_squares 93 = .ok (.iload 5, 2) := by decide +kernel
theorem dX11_squares_95 : decode cX11_squares 95 = .ok (.invokevirtual 282, 3) := by decide +kernel
theorem dX11_squares_98 : decode cX11_squares 98 = .ok (.imul, 1) := by decide +kernel
theorem dX11_squares_99 : decode cX11_squares 99 = .ok (.i2l, 1) := by decide +kernel
theorem dX11_squares_100 : decode cX11_squares 100 = .ok (.ladd, 1) := by decide +kernel
theorem dX11_squares_101 : decode cX11_squares 101 = .ok (.lastore, 1) := by decide +kernel
theorem dX11_squares_102 : decode cX11_squares 102 = .ok (.iinc 5 1, 3) := by decide +kernel
theorem dX11_squares_105 : decode cX11_squares 105 = .ok (.goto (-44), 3) := by decide +kernel
theorem dX11_squares_108 : decode cX11_squares 108 = .ok (.aload_n 0, 1) := by decide +kernel
theorem dX11_squares_109 : decode cX11_squares 109 = .ok (.getfield 27, 3) := by decide +kernel
theorem dX11_squares_112 : decode cX11_squares 112 = .ok (.bipush 7, 2) := by decide +kernel
theorem dX11_squares_114 : decode cX11_squares 114 = .ok (.iload 4, 2) := by decide +kernel
theorem dX11_squares_116 : decode cX11_squares 116 = .ok (.imul, 1) := by decide +kernel
theorem dX11_squares_117 : decode cX11_squares 117 = .ok (.bipush 6, 2) := by decide +kernel
theorem dX11_squares_119 : decode cX11_squares 119 = .ok (.iadd, 1) := by decide +kernel
theorem dX11_squares_120 : decode cX11_squares 120 = .ok (.dup2, 1) := by decide +kernel
theorem dX11_squares_121 : decode cX11_squares 121 = .ok (.laload, 1) := by decide +kernel
theorem dX11_squares_122 : decode cX11_squares 122 = .ok (.aload_n 0, 1) := by decide +kernel
theorem dX11_squares_123 : decode cX11_squares 123 = .ok (.iload_n 3, 1) := by decide +kernel
theorem dX11_squares_124 : decode cX11_squares 124 = .ok (.iload 4, 2) := by decide +kernel
theorem dX11_squares_126 : decode cX11_squares 126 = .ok (.invokevirtual 282, 3) := by decide +kernel
theorem dX11_squares_129 : decode cX11_squares 129 = .ok (.aload_n 0, 1) := by decide +kernel
theorem dX11_squares_130 : decode cX11_squares 130 = .ok (.iload_n 3, 1) := by decide +kernel
theorem dX11_squares_131 : decode cX11_squares 131 = .ok (.invokevirtual 232, 3) := by decide +kernel
theorem dX11_squares_134 : decode cX11_squares 134 = .ok (.imul, 1) := by decide +kernel
theorem dX11_squares_135 : decode cX11_squares 135 = .ok (.i2l, 1) := by decide +kernel
theorem dX11_squares_136 : decode cX11_squares 136 = .ok (.ladd, 1) := by decide +kernel
theorem dX11_squares_137 : decode cX11_squares 137 = .ok (.lastore, 1) := by decide +kernel
theorem dX11_squares_138 : decode cX11_squares 138 = .ok (.iinc 4 1, 3) := by decide +kernel
theorem dX11_squares_141 : decode cX11_squares 141 = .ok (.goto (-92), 3) := by decide +kernel
theorem dX11_squares_144 : decode cX11_squares 144 = .ok (.iinc 3 1, 3) := by decide +kernel
theorem dX11_squares_147 : decode cX11_squares 147 = .ok (.goto (-124), 3) := by decide +kernel
theorem dX11_squares_150 : decode cX11_squares 150 = .ok (.return_, 1) := by decide +kernel
theorem dX11_clears_0 : decode cX11_clears 0 = .ok (.lconst 1, 1) := by decide +kernel
theorem dX11_clears_1 : decode cX11_clears 1 = .ok (.lstore_n 1, 1) := by decide +kernel
theorem dX11_clears_2 : decode cX11_clears 2 = .ok (.iconst 0, 1) := by decide +kernel
theorem dX11_clears_3 : decode cX11_clears 3 = .ok (.istore_n 3, 1) := by decide +kernel
theorem dX11_clears_4 : decode cX11_clears 4 = .ok (.iload_n 3, 1) := by decide +kernel
theorem dX11_clears_5 : decode cX11_clears 5 = .ok (.aload_n 0, 1) := by decide +kernel
theorem dX11_clears_6 : decode cX11_clears 6 = .ok (.getfield 276, 3) := by decide +kernel
theorem dX11_clears_9 : decode cX11_clears 9 = .ok (.if_icmp .ge 249, 3) := by decide +kernel
theorem dX11_clears_12 : decode cX11_clears 12 = .ok (.iload_n 3, 1) := by decide +kernel
theorem dX11_clears_13 : decode cX11_clears 13 = .ok (.istore 4, 2) := by decide +kernel
theorem dX11_clears_15 : decode cX11_clears 15 = .ok (.iload 4, 2) := by decide +kernel
theorem dX11_clears_17 : decode cX11_clears 17 = .ok (.aload_n 0, 1) := by decide +kernel
theorem dX11_clears_18 : decode cX11_clears 18 = .ok (.getfield 276, 3) := by decide +kernel
theorem dX11_clears_21 : decode cX11_clears 21 = .ok (.if_icmp .ge 26, 3) := by decide +kernel
theorem dX11_clears_24 : decode cX11_clears 24 = .ok (.aload_n 0, 1) := by decide +kernel
theorem dX11_clears_25 : decode cX11_clears 25 = .ok (.getfield 27, 3) := by decide +kernel
theorem dX11_clears_28 : decode cX11_clears 28 = .ok (.bipush 7, 2) := by decide +kernel
theorem dX11_clears_30 : decode cX11_clears 30 = .ok (.iload 4, 2) := by decide +kernel
theorem dX11_clears_32 : decode cX11_clears 32 = .ok (.imul, 1) := by decide +kernel
theorem dX11_clears_33 : decode cX11_clears 33 = .ok (.iload_n 3, 1) := by decide +kernel
theorem dX11_clears_34 : decode cX11_clears 34 = .ok (.iadd, 1) := by decide +kernel
theorem dX11_clears_35 : decode cX11_clears 35 = .ok (.laload, 1) := by decide +kernel
theorem dX11_clears_36 : decode cX11_clears 36 = .ok (.lconst 0, 1) := by decide +kernel
theorem dX11_clears_37 : decode cX11_clears 37 = .ok (.lcmp, 1) := by decide +kernel
theorem dX11_clears_38 : decode cX11_clears 38 = .ok (.ifCond .ne 9, 3) := by decide +kernel
theorem dX11_clears_41 : decode cX11_clears 41 = .ok (.iinc 4 1, 3) := by decide +kernel
theorem dX11_clears_44 : decode cX11_clears 44 = .ok (.goto (-29), 3) := by decide +kernel
theorem dX11_clears_47 : decode cX11_clears 47 = .ok (.iload 4, 2) := by decide +kernel
theorem dX11_clears_49 : decode cX11_clears 49 = .ok (.aload_n 0, 1) := by decide +kernel
theorem dX11_clears_50 : decode cX11_clears 50 = .ok (.getfield 276, 3) := by decide +kernel
theorem dX11_clears_53 : decode cX11_clears 53 = .ok (.if_icmp .ne 5, 3) := by decide +kernel
theorem dX11_clears_56 : decode cX11_clears 56 = .ok (.lconst 0, 1) := by decide +kernel
theorem dX11_clears_57 : decode cX11_clears 57 = .ok (.lreturn, 1) := by decide +kernel
theorem dX11_clears_58 : decode cX11_clears 58 = .ok (.iconst 0, 1) := by decide +kernel
theorem dX11_clears_59 : decode cX11_clears 59 = .ok (.istore 5, 2) := by decide +kernel
theorem dX11_clears_61 : decode cX11_clears 61 = .ok (.iload 5, 2) := by decide +kernel
theorem dX11_clears_63 : decode cX11_clears 63 = .ok (.bipush 7, 2) := by decide +kernel
theorem dX11_clears_65 : decode cX11_clears 65 = .ok (.if_icmp .ge 70, 3) := by decide +kernel
theorem dX11_clears_68 : decode cX11_clears 68 = .ok (.iload 4, 2) := by decide +kernel
theorem dX11_clears_70 : decode cX11_clears 70 = .ok (.iload_n 3, 1) := by decide +kernel
theorem dX11_clears_71 : decode cX11_clears 71 = .ok (.if_icmp .eq 64, 3) := by decide +kernel
theorem dX11_clears_74 : decode cX11_clears 74 = .ok (.aload_n 0, 1) := by decide +kernel
theorem dX11_clears_75 : decode cX11_clears 75 = .ok (.getfield 27, 3) := by decide +kernel
theorem dX11_clears_78 : decode cX11_clears 78 = .ok (.bipush 7, 2) := by decide +kernel
theorem dX11_clears_80 : decode cX11_clears 80 = .ok (.iload_n 3, 1) := by decide +kernel
theorem dX11_clears_81 : decode cX11_clears 81 = .ok (.imul, 1) := by decide +kernel
theorem dX11_clears_82 : decode cX11_clears 82 = .ok (.iload 5, 2) := by decide +kernel
theorem dX11_clears_84 : decode cX11_clears 84 = .ok (.iadd, 1) := by decide +kernel
theorem dX11_clears_85 : decode cX11_clears 85 = .ok (.laload, 1) := by decide +kernel
theorem dX11_clears_86 : decode cX11_clears 86 = .ok (.lstore 6, 2) := by decide +kernel
theorem dX11_clears_88 : decode cX11_clears 88 = .ok (.aload_n 0, 1) := by decide +kernel
theorem dX11_clears_89 : decode cX11_clears 89 = .ok (.getfield 27, 3) := by decide +kernel
theorem dX11_clears_92 : decode cX11_clears 92 = .ok (.bipush 7, 2) := by decide +kernel
theorem dX11_clears_94 : decode cX11_clears 94 = .ok (.iload_n 3, 1) := by decide +kernel
theorem dX11_clears_95 : decode cX11_clears 95 = .ok (.imul, 1) := by decide +kernel
theorem dX11_clears_96 : decode cX11_clears 96 = .ok (.iload 5, 2) := by decide +kernel
theorem dX11_clears_98 : decode cX11_clears 98 = .ok (.iadd, 1) := by decide +kernel
theorem dX11_clears_99 : decode cX11_clears 99 = .ok (.aload_n 0, 1) := by decide +kernel
theorem dX11_clears_100 : decode cX11_clears 100 = .ok (.getfield 27, 3) := by decide +kernel
theorem dX11_clears_103 : decode cX11_clears 103 = .ok (.bipush 7, 2) := by decide +kernel
theorem dX11_clears_105 : decode cX11_clears 105 = .ok (.iload 4, 2) := by decide +kernel
theorem dX11_clears_107 : decode cX11_clears 107 = .ok (.imul, 1) := by decide +kernel
theorem dX11_clears_108 : decode cX11_clears 108 = .ok (.iload 5, 2) := by decide +kernel
theorem dX11_clears_110 : decode cX11_clears 110 = .ok (.iadd, 1) := by decide +kernel
theorem dX11_clears_111 : decode cX11_clears 111 = .ok (.laload, 1) := by decide +kernel
theorem dX11_clears_112 : decode cX11_clears 112 = .ok (.lastore, 1) := by decide +kernel
theorem dX11_clears_113 : decode cX11_clears 113 = .ok (.aload_n 0, 1) := by decide +kernel
theorem dX11_clears_114 : decode cX11_clears 114 = .ok (.getfield 27, 3) := by decide +kernel
theorem dX11_clears_117 : decode cX11_clears 117 = .ok (.bipush 7, 2) := by decide +kernel
theorem dX11_clears_119 : decode cX11_clears 119 = .ok (.iload 4, 2) := by decide +kernel
theorem dX11_clears_121 : decode cX11_clears 121 = .ok (.imul, 1) := by decide +kernel
theorem dX11_clears_122 : decode cX11_clears 122 = .ok (.iload 5, 2) := by decide +kernel
theorem dX11_clears_124 : decode cX11_clears 124 = .ok (.iadd, 1) := by decide +kernel
theorem dX11_clears_125 : decode cX11_clears 125 = .ok (.lload 6, 2) := by decide +kernel
theorem dX11_clears_127 : decode cX11_clears 127 = .ok (.lneg, 1) := by decide +kernel
theorem dX11_clears_128 : decode cX11_clears 128 = .ok (.lastore, 1) := by decide +kernel
theorem dX11_clears_129 : decode cX11_clears 129 = .ok (.iinc 5 1, 3) := by decide +kernel
theorem dX11_clears_132 : decode cX11_clears 132 = .ok (.goto (-71), 3) := by decide +kernel
theorem dX11_clears_135 : decode cX11_clears 135 = .ok (.aload_n 0, 1) := by decide +kernel
theorem dX11_clears_136 : decode cX11_clears 136 = .ok (.getfield 27, 3) := by decide +kernel
theorem dX11_clears_139 : decode cX11_clears 139 = .ok (.bipush 7, 2) := by decide +kernel
theorem dX11_clears_141 : decode cX11_clears 141 = .ok (.iload_n 3, 1) := by decide +kernel
theorem dX11_clears_142 : decode cX11_clears 142 = .ok (.imul, 1) := by decide +kernel
theorem dX11_clears_143 : decode cX11_clears 143 = .ok (.iload_n 3, 1) := by decide +kernel
theorem dX11_clears_144 : decode cX11_clears 144 = .ok (.iadd, 1) := by decide +kernel
theorem dX11_clears_145 : decode cX11_clears 145 = .ok (.laload, 1) := by decide +kernel
theorem dX11_clears_146 : decode cX11_clears 146 = .ok (.lstore 5, 2) := by decide +kernel
theorem dX11_clears_148 : decode cX11_clears 148 = .ok (.iconst 0, 1) := by decide +kernel
theorem dX11_clears_149 : decode cX11_clears 149 = .ok (.istore 7, 2) := by decide +kernel
theorem dX11_clears_151 : decode cX11_clears 151 = .ok (.iload 7, 2) := by decide +kernel
theorem dX11_clears_153 : decode cX11_clears 153 = .ok (.aload_n 0, 1) := by decide +kernel
theorem dX11_clears_154 : decode cX11_clears 154 = .ok (.getfield 276, 3) := by decide +kernel
theorem dX11_clears_157 : decode cX11_clears 157 = .ok (.if_icmp .ge 92, 3) := by decide +kernel
theorem dX11_clears_160 : decode cX11_clears 160 = .ok (.aload_n 0, 1) := by decide +kernel
theorem dX11_clears_161 : decode cX11_clears 161 = .ok (.getfield 27, 3) := by decide +kernel
theorem dX11_clears_164 : decode cX11_clears 164 = .ok (.bipush 7, 2) := by decide +kernel
theorem dX11_clears_166 : decode cX11_clears 166 = .ok (.iload 7, 2) := by decide +kernel
theorem dX11_clears_168 : decode cX11_clears 168 = .ok (.imul, 1) := by decide +kernel
theorem dX11_clears_169 : decode cX11_clears 169 = .ok (.iload_n 3, 1) := by decide +kernel
theorem dX11_clears_170 : decode cX11_clears 170 = .ok (.iadd, 1) := by decide +kernel
theorem dX11_clears_171 : decode cX11_clears 171 = .ok (.laload, 1) := by decide +kernel
theorem dX11_clears_172 : decode cX11_clears 172 = .ok (.lstore 8, 2) := by decide +kernel
theorem dX11_clears_174 : decode cX11_clears 174 = .ok (.iconst 0, 1) := by decide +kernel
theorem dX11_clears_175 : decode cX11_clears 175 = .ok (.istore 10, 2) := by decide +kernel
theorem dX11_clears_177 : decode cX11_clears 177 = .ok (.iload 10, 2) := by decide +kernel
theorem dX11_clears_179 : decode cX11_clears 179 = .ok (.bipush 7, 2) := by decide +kernel
theorem dX11_clears_181 : decode cX11_clears 181 = .ok (.if_icmp .ge 62, 3) := by decide +kernel
theorem dX11_clears_184 : decode cX11_clears 184 = .ok (.iload 7, 2) := by decide +kernel
theorem dX11_clears_186 : decode cX11_clears 186 = .ok (.iload_n 3, 1) := by decide +kernel
theorem dX11_clears_187 : decode cX11_clears 187 = .ok (.if_icmp .eq 56, 3) := by decide +kernel
theorem dX11_clears_190 : decode cX11_clears 190 = .ok (.aload_n 0, 1) := by decide +kernel
theorem dX11_clears_191 : decode cX11_clears 191 = .ok (.getfield 27, 3) := by decide +kernel
theorem dX11_clears_194 : decode cX11_clears 194 = .ok (.bipush 7, 2) := by decide +kernel
theorem dX11_clears_196 : decode cX11_clears 196 = .ok (.iload 7, 2) := by decide +kernel
theorem dX11_clears_198 : decode cX11_clears 198 = .ok (.imul, 1) := by decide +kernel
theorem dX11_clears_199 : decode cX11_clears 199 = .ok (.iload 10, 2) := by decide +kernel
theorem dX11_clears_201 : decode cX11_clears 201 = .ok (.iadd, 1) := by decide +kernel
theorem dX11_clears_202 : decode cX11_clears 202 = .ok (.aload_n 0, 1) := by decide +kernel
theorem dX11_clears_203 : decode cX11_clears 203 = .ok (.getfield 27, 3) := by decide +kernel
theorem dX11_clears_206 : decode cX11_clears 206 = .ok (.bipush 7, 2) := by decide +kernel
theorem dX11_clears_208 : decode cX11_clears 208 = .ok (.iload 7, 2) := by decide +kernel
theorem dX11_clears_210 : decode cX11_clears 210 = .ok (.imul, 1) := by decide +kernel
theorem dX11_clears_211 : decode cX11_clears 211 = .ok (.iload 10, 2) := by decide +kernel
theorem dX11_clears_213 : decode cX11_clears 213 = .ok (.iadd, 1) := by decide +kernel
theorem dX11_clears_214 : decode cX11_clears 214 = .ok (.laload, 1) := by decide +kernel
theorem dX11_clears_215 : decode cX11_clears 215 = .ok (.lload 5, 2) := by decide +kernel
theorem dX11_clears_217 : decode cX11_clears 217 = .ok (.lmul, 1) := by decide +kernel
theorem dX11_clears_218 : decode cX11_clears 218 = .ok (.aload_n 0, 1) := by decide +kernel
theorem dX11_clears_219 : decode cX11_clears 219 = .ok (.getfield 27, 3) := by decide +kernel
theorem dX11_clears_222 : decode cX11_clears 222 = .ok (.bipush 7, 2) := by decide +kernel
theorem dX11_clears_224 : decode cX11_clears 224 = .ok (.iload_n 3, 1) := by decide +kernel
theorem dX11_clears_225 : decode cX11_clears 225 = .ok (.imul, 1) := by decide +kernel
theorem dX11_clears_226 : decode cX11_clears 226 = .ok (.iload 10, 2) := by decide +kernel
theorem dX11_clears_228 : decode cX11_clears 228 = .ok (.iadd, 1) := by decide +kernel
theorem dX11_clears_229 : decode cX11_clears 229 = .ok (.laload, 1) := by decide +kernel
theorem dX11_clears_230 : decode cX11_clears 230 = .ok (.lload 8, 2) := by decide +kernel
theorem dX11_clears_232 : decode cX11_clears 232 = .ok (.lmul, 1) := by decide +kernel
theorem dX11_clears_233 : decode cX11_clears 233 = .ok (.lsub, 1) := by decide +kernel
theorem dX11_clears_234 : decode cX11_clears 234 = .ok (.lload_n 1, 1) := by decide +kernel
theorem dX11_clears_235 : decode cX11_clears 235 = .ok (.ldiv, 1) := by decide +kernel
theorem dX11_clears_236 : decode cX11_clears 236 = .ok (.lastore, 1) := by decide +kernel
theorem dX11_clears_237 : decode cX11_clears 237 = .ok (.iinc 10 1, 3) := by decide +kernel
theorem dX11_clears_240 : decode cX11_clears 240 = .ok (.goto (-63), 3) := by decide +kernel
theorem dX11_clears_243 : decode cX11_clears 243 = .ok (.iinc 7 1, 3) := by decide +kernel
theorem dX11_clears_246 : decode cX11_clears 246 = .ok (.goto (-95), 3) := by decide +kernel
theorem dX11_clears_249 : decode cX11_clears 249 = .ok (.lload 5, 2) := by decide +kernel
theorem dX11_clears_251 : decode cX11_clears 251 = .ok (.lstore_n 1, 1) := by decide +kernel
theorem dX11_clears_252 : decode cX11_clears 252 = .ok (.iinc 3 1, 3) := by decide +kernel
theorem dX11_clears_255 : decode cX11_clears 255 = .ok (.goto (-251), 3) := by decide +kernel
theorem dX11_clears_258 : decode cX11_clears 258 = .ok (.lload_n 1, 1) := by decide +kernel
theorem dX11_clears_259 : decode cX11_clears 259 = .ok (.lreturn, 1) := by decide +kernel
theorem dX11_finds_0 : decode cX11_finds 0 = .ok (.aload_n 0, 1) := by decide +kernel
theorem dX11_finds_1 : decode cX11_finds 1 = .ok (.iload_n 1, 1) := by decide +kernel
theorem dX11_finds_2 : decode cX11_finds 2 = .ok (.iload_n 2, 1) := by decide +kernel
theorem dX11_finds_3 : decode cX11_finds 3 = .ok (.invokevirtual 285, 3) := by decide +kernel
theorem dX11_finds_6 : decode cX11_finds 6 = .ok (.aload_n 0, 1) := by decide +kernel
theorem dX11_finds_7 : decode cX11_finds 7 = .ok (.getfield 279, 3) := by decide +kernel
theorem dX11_finds_10 : decode cX11_finds 10 = .ok (.ifCond .lt 12, 3) := by decide +kernel
theorem dX11_finds_13 : decode cX11_finds 13 = .ok (.aload_n 0, 1) := by decide +kernel
theorem dX11_finds_14 : decode cX11_finds 14 = .ok (.getfield 276, 3) := by decide +kernel
theorem dX11_finds_17 : decode cX11_finds 17 = .ok (.bipush 6, 2) := by decide +kernel
theorem dX11_finds_19 : decode cX11_finds 19 = .ok (.if_icmp .le 5, 3) := by decide +kernel
theorem dX11_finds_22 : decode cX11_finds 22 = .ok (.iconst 0, 1) := by decide +kernel
theorem dX11_finds_23 : decode cX11_finds 23 = .ok (.ireturn, 1) := by decide +kernel
theorem dX11_finds_24 : decode cX11_finds 24 = .ok (.aload_n 0, 1) := by decide +kernel
theorem dX11_finds_25 : decode cX11_finds 25 = .ok (.iload_n 1, 1) := by decide +kernel
theorem dX11_finds_26 : decode cX11_finds 26 = .ok (.iload_n 2, 1) := by decide +kernel
theorem dX11_finds_27 : decode cX11_finds 27 = .ok (.invokevirtual 288, 3) := by decide +kernel
theorem dX11_finds_30 : decode cX11_finds 30 = .ok (.aload_n 0, 1) := by decide +kernel
theorem dX11_finds_31 : decode cX11_finds 31 = .ok (.invokevirtual 291, 3) := by decide +kernel
theorem dX11_finds_34 : decode cX11_finds 34 = .ok (.lstore 4, 2) := by decide +kernel
theorem dX11_finds_36 : decode cX11_finds 36 = .ok (.lload 4, 2) := by decide +kernel
theorem dX11_finds_38 : decode cX11_finds 38 = .ok (.lconst 0, 1) := by decide +kernel
theorem dX11_finds_39 : decode cX11_finds 39 = .ok (.lcmp, 1) := by decide +kernel
theorem dX11_finds_40 : decode cX11_finds 40 = .ok (.ifCond .ne 5, 3) := by decide +kernel
theorem dX11_finds_43 : decode cX11_finds 43 = .ok (.iconst 0, 1) := by decide +kernel
theorem dX11_finds_44 : decode cX11_finds 44 = .ok (.ireturn, 1) := by decide +kernel
theorem dX11_finds_45 : decode cX11_finds 45 = .ok (.iload_n 3, 1) := by decide +kernel
theorem dX11_finds_46 : decode cX11_finds 46 = .ok (.iconst (-1), 1) := by decide +kernel
theorem dX11_finds_47 : decode cX11_finds 47 = .ok (.if_icmp .ne 7, 3) := by decide +kernel
theorem dX11_finds_50 : decode cX11_finds 50 = .ok (.iconst 0, 1) := by decide +kernel
theorem dX11_finds_51 : decode cX11_finds 51 = .ok (.goto 9, 3) := by decide +kernel
theorem dX11_finds_54 : decode cX11_finds 54 = .ok (.aload_n 0, 1) := by decide +kernel
theorem dX11_finds_55 : decode cX11_finds 55 = .ok (.getfield 31, 3) := by decide +kernel
theorem dX11_finds_58 : decode cX11_finds 58 = .ok (.iload_n 3, 1) := by decide +kernel
theorem dX11_finds_59 : decode cX11_finds 59 = .ok (.iaload, 1) := by decide +kernel
theorem dX11_finds_60 : decode cX11_finds 60 = .ok (.istore 6, 2) := by decide +kernel
theorem dX11_finds_62 : decode cX11_finds 62 = .ok (.aload_n 0, 1) := by decide +kernel
theorem dX11_finds_63 : decode cX11_finds 63 = .ok (.iload_n 3, 1) := by decide +kernel
theorem dX11_finds_64 : decode cX11_finds 64 = .ok (.iconst (-1), 1) := by decide +kernel
theorem dX11_finds_65 : decode cX11_finds 65 = .ok (.if_icmp .eq 15, 3) := by decide +kernel
theorem dX11_finds_68 : decode cX11_finds 68 = .ok (.iload_n 3, 1) := by decide +kernel
theorem dX11_finds_69 : decode cX11_finds 69 = .ok (.aload_n 0, 1) := by decide +kernel
theorem dX11_finds_70 : decode cX11_finds 70 = .ok (.getfield 279, 3) := by decide +kernel
theorem dX11_finds_73 : decode cX11_finds 73 = .ok (.if_icmp .ne 7, 3) := by decide +kernel
theorem dX11_finds_76 : decode cX11_finds 76 = .ok (.lconst 0, 1) := by decide +kernel
theorem dX11_finds_77 : decode cX11_finds 77 = .ok (.goto 25, 3) := by decide +kernel
theorem dX11_finds_80 : decode cX11_finds 80 = .ok (.iload 6, 2) := by decide +kernel
theorem dX11_finds_82 : decode cX11_finds 82 = .ok (.ifCond .ge 7, 3) := by decide +kernel
theorem dX11_finds_85 : decode cX11_finds 85 = .ok (.lconst 0, 1) := by decide +kernel
theorem dX11_finds_86 : decode cX11_finds 86 = .ok (.goto 16, 3) := by decide +kernel
theorem dX11_finds_89 : decode cX11_finds 89 = .ok (.aload_n 0, 1) := by decide +kernel
theorem dX11_finds_90 : decode cX11_finds 90 = .ok (.getfield 27, 3) := by decide +kernel
theorem dX11_finds_93 : decode cX11_finds 93 = .ok (.bipush 7, 2) := by decide +kernel
theorem dX11_finds_95 : decode cX11_finds 95 = .ok (.iload 6, 2) := by decide +kernel
theorem dX11_finds_97 : decode cX11_finds 97 = .ok (.imul, 1) := by decide +kernel
theorem dX11_finds_98 : decode cX11_finds 98 = .ok (.bipush 6, 2) := by decide +kernel
theorem dX11_finds_100 : decode cX11_finds 100 = .ok (.iadd, 1) := by decide +kernel
theorem dX11_finds_101 : decode cX11_finds 101 = .ok (.laload, 1) := by decide +kernel
theorem dX11_finds_102 : decode cX11_finds 102 = .ok (.putfield 295, 3) := by decide +kernel
theorem dX11_finds_105 : decode cX11_finds 105 = .ok (.aload_n 0, 1) := by decide +kernel
theorem dX11_finds_106 : decode cX11_finds 106 = .ok (.lload 4, 2) := by decide +kernel
theorem dX11_finds_108 : decode cX11_finds 108 = .ok (.putfield 299, 3) := by decide +kernel
theorem dX11_finds_111 : decode cX11_finds 111 = .ok (.iload_n 3, 1) := by decide +kernel
theorem dX11_finds_112 : decode cX11_finds 112 = .ok (.iconst (-1), 1) := by decide +kernel
theorem dX11_finds_113 : decode cX11_finds 113 = .ok (.if_icmp .eq 16, 3) := by decide +kernel
theorem dX11_finds_116 : decode cX11_finds 116 = .ok (.iload_n 3, 1) := by decide +kernel
theorem dX11_finds_117 : decode cX11_finds 117 = .ok (.aload_n 0, 1) := by decide +kernel
theorem dX11_finds_118 : decode cX11_finds 118 = .ok (.getfield 279, 3) := by decide +kernel
theorem dX11_finds_121 : decode cX11_finds 121 = .ok (.if_icmp .eq 8, 3) := by decide +kernel
theorem dX11_finds_124 : decode cX11_finds 124 = .ok (.iload 6, 2) := by decide +kernel
theorem dX11_finds_126 : decode cX11_finds 126 = .ok (.ifCond .le 7, 3) := by decide +kernel
theorem dX11_finds_129 : decode cX11_finds 129 = .ok (.iconst 1, 1) := by decide +kernel
theorem dX11_finds_130 : decode cX11_finds 130 = .ok (.goto 4, 3) := by decide +kernel
theorem dX11_finds_133 : decode cX11_finds 133 = .ok (.iconst 0, 1) := by decide +kernel
theorem dX11_finds_134 : decode cX11_finds 134 = .ok (.ireturn, 1) := by decide +kernel
theorem dX11_both_0 : decode cX11_both 0 = .ok (.iload_n 3, 1) := by decide +kernel
theorem dX11_both_1 : decode cX11_both 1 = .ok (.iconst (-1), 1) := by decide +kernel
theorem dX11_both_2 : decode cX11_both 2 = .ok (.if_icmp .eq 17, 3) := by decide +kernel
theorem dX11_both_5 : decode cX11_both 5 = .ok (.iload_n 3, 1) := by decide +kernel
theorem dX11_both_6 : decode cX11_both 6 = .ok (.iconst 0, 1) := by decide +kernel
theorem dX11_both_7 : decode cX11_both 7 = .ok (.bipush 7, 2) := by decide +kernel
theorem dX11_both_9 : decode cX11_both 9 = .ok (.invokestatic 90, 3) := by decide +kernel
theorem dX11_both_12 : decode cX11_both 12 = .ok (.ifCond .ne 7, 3) := by decide +kernel
theorem dX11_both_15 : decode cX11_both 15 = .ok (.ldc2_w 302, 3) := by decide +kernel
theorem dX11_both_18 : decode cX11_both 18 = .ok (.lreturn, 1) := by decide +kernel
theorem dX11_both_19 : decode cX11_both 19 = .ok (.aload_n 0, 1) := by decide +kernel
theorem dX11_both_20 : decode cX11_both 20 = .ok (.iload_n 1, 1) := by decide +kernel
theorem dX11_both_21 : decode cX11_both 21 = .ok (.iload_n 2, 1) := by decide +kernel
theorem dX11_both_22 : decode cX11_both 22 = .ok (.iload_n 3, 1) := by decide +kernel
theorem dX11_both_23 : decode cX11_both 23 = .ok (.invokevirtual 304, 3) := by decide +kernel
theorem dX11_both_26 : decode cX11_both 26 = .ok (.ifCond .eq 19, 3) := by decide +kernel
theorem dX11_both_29 : decode cX11_both 29 = .ok (.aload_n 0, 1) := by decide +kernel
theorem dX11_both_30 : decode cX11_both 30 = .ok (.getfield 295, 3) := by decide +kernel
theorem dX11_both_33 : decode cX11_both 33 = .ok (.aload_n 0, 1) := by decide +kernel
theorem dX11_both_34 : decode cX11_both 34 = .ok (.getfield 299, 3) := by decide +kernel
theorem dX11_both_37 : decode cX11_both 37 = .ok (.iload 4, 2) := by decide +kernel
theorem dX11_both_39 : decode cX11_both 39 = .ok (.invokestatic 261, 3) := by decide +kernel
theorem dX11_both_42 : decode cX11_both 42 = .ok (.goto 6, 3) := by decide +kernel
theorem dX11_both_45 : decode cX11_both 45 = .ok (.ldc2_w 302, 3) := by decide +kernel
theorem dX11_both_48 : decode cX11_both 48 = .ok (.lreturn, 1) := by decide +kernel
theorem dX11_off_0 : decode cX11_off 0 = .ok (.aload_n 0, 1) := by decide +kernel
theorem dX11_off_1 : decode cX11_off 1 = .ok (.iload_n 1, 1) := by decide +kernel
theorem dX11_off_2 : decode cX11_off 2 = .ok (.iload_n 2, 1) := by decide +kernel
theorem dX11_off_3 : decode cX11_off 3 = .ok (.iconst (-1), 1) := by decide +kernel
theorem dX11_off_4 : decode cX11_off 4 = .ok (.invokevirtual 304, 3) := by decide +kernel
theorem dX11_off_7 : decode cX11_off 7 = .ok (.ifCond .ne 7, 3) := by decide +kernel
theorem dX11_off_10 : decode cX11_off 10 = .ok (.ldc2_w 302, 3) := by decide +kernel
theorem dX11_off_13 : decode cX11_off 13 = .ok (.lreturn, 1) := by decide +kernel
theorem dX11_off_14 : decode cX11_off 14 = .ok (.aload_n 0, 1) := by decide +kernel
theorem dX11_off_15 : decode cX11_off 15 = .ok (.getfield 295, 3) := by decide +kernel
theorem dX11_off_18 : decode cX11_off 18 = .ok (.aload_n 0, 1) := by decide +kernel
theorem dX11_off_19 : decode cX11_off 19 = .ok (.getfield 299, 3) := by decide +kernel
theorem dX11_off_22 : decode cX11_off 22 = .ok (.iconst 0, 1) := by decide +kernel
theorem dX11_off_23 : decode cX11_off 23 = .ok (.invokestatic 261, 3) := by decide +kernel
theorem dX11_off_26 : decode cX11_off 26 = .ok (.lstore 4, 2) := by decide +kernel
theorem dX11_off_28 : decode cX11_off 28 = .ok (.aload_n 0, 1) := by decide +kernel
theorem dX11_off_29 : decode cX11_off 29 = .ok (.getfield 295, 3) := by decide +kernel
theorem dX11_off_32 : decode cX11_off 32 = .ok (.aload_n 0, 1) := by decide +kernel
theorem dX11_off_33 : decode cX11_off 33 = .ok (.getfield 299, 3) := by decide +kernel
theorem dX11_off_36 : decode cX11_off 36 = .ok (.iconst 1, 1) := by decide +kernel
theorem dX11_off_37 : decode cX11_off 37 = .ok (.invokestatic 261, 3) := by decide +kernel
theorem dX11_off_40 : decode cX11_off 40 = .ok (.lstore 6, 2) := by decide +kernel
theorem dX11_off_42 : decode cX11_off 42 = .ok (.aload_n 0, 1) := by decide +kernel
theorem dX11_off_43 : decode cX11_off 43 = .ok (.iload_n 1, 1) := by decide +kernel
theorem dX11_off_44 : decode cX11_off 44 = .ok (.iload_n 2, 1) := by decide +kernel
theorem dX11_off_45 : decode cX11_off 45 = .ok (.iconst 1, 1) := by decide +kernel
theorem dX11_off_46 : decode cX11_off 46 = .ok (.invokevirtual 307, 3) := by decide +kernel
theorem dX11_off_49 : decode cX11_off 49 = .ok (.i2l, 1) := by decide +kernel
theorem dX11_off_50 : decode cX11_off 50 = .ok (.lstore 8, 2) := by decide +kernel
theorem dX11_off_52 : decode cX11_off 52 = .ok (.aload_n 0, 1) := by decide +kernel
theorem dX11_off_53 : decode cX11_off 53 = .ok (.iload_n 1, 1) := by decide +kernel
theorem dX11_off_54 : decode cX11_off 54 = .ok (.iload_n 2, 1) := by decide +kernel
theorem dX11_off_55 : decode cX11_off 55 = .ok (.iconst 0, 1) := by decide +kernel
theorem dX11_off_56 : decode cX11_off 56 = .ok (.invokevirtual 307, 3) := by decide +kernel
theorem dX11_off_59 : decode cX11_off 59 = .ok (.i2l, 1) := by decide +kernel
theorem dX11_off_60 : decode cX11_off 60 = .ok (.lstore 10, 2) := by decide +kernel
theorem dX11_off_62 : decode cX11_off 62 = .ok (.lload 10, 2) := by decide +kernel
theorem dX11_off_64 : decode cX11_off 64 = .ok (.lload 6, 2) := by decide +kernel
theorem dX11_off_66 : decode cX11_off 66 = .ok (.lmul, 1) := by decide +kernel
theorem dX11_off_67 : decode cX11_off 67 = .ok (.lload 4, 2) := by decide +kernel
theorem dX11_off_69 : decode cX11_off 69 = .ok (.lload 8, 2) := by decide +kernel
theorem dX11_off_71 : decode cX11_off 71 = .ok (.lmul, 1) := by decide +kernel
theorem dX11_off_72 : decode cX11_off 72 = .ok (.lsub, 1) := by decide +kernel
theorem dX11_off_73 : decode cX11_off 73 = .ok (.lload 8, 2) := by decide +kernel
theorem dX11_off_75 : decode cX11_off 75 = .ok (.lload 6, 2) := by decide +kernel
theorem dX11_off_77 : decode cX11_off 77 = .ok (.lmul, 1) := by decide +kernel
theorem dX11_off_78 : decode cX11_off 78 = .ok (.iload_n 3, 1) := by decide +kernel
theorem dX11_off_79 : decode cX11_off 79 = .ok (.invokestatic 261, 3) := by decide +kernel
theorem dX11_off_82 : decode cX11_off 82 = .ok (.lreturn, 1) := by decide +kernel
theorem dX11_choose_0 : decode cX11_choose 0 = .ok (.iload_n 2, 1) := by decide +kernel
theorem dX11_choose_1 : decode cX11_choose 1 = .ok (.ifCond .lt 8, 3) := by decide +kernel
theorem dX11_choose_4 : decode cX11_choose 4 = .ok (.iload_n 2, 1) := by decide +kernel
theorem dX11_choose_5 : decode cX11_choose 5 = .ok (.iload_n 1, 1) := by decide +kernel
theorem dX11_choose_6 : decode cX11_choose 6 = .ok (.if_icmp .le 5, 3) := by decide +kernel
theorem dX11_choose_9 : decode cX11_choose 9 = .ok (.lconst 0, 1) := by decide +kernel
theorem dX11_choose_10 : decode cX11_choose 10 = .ok (.lreturn, 1) := by decide +kernel
theorem dX11_choose_11 : decode cX11_choose 11 = .ok (.iconst 0, 1) := by decide +kernel
theorem dX11_choose_12 : decode cX11_choose 12 = .ok (.istore_n 3, 1) := by decide +kernel
theorem dX11_choose_13 : decode cX11_choose 13 = .ok (.iload_n 3, 1) := by decide +kernel
theorem dX11_choose_14 : decode cX11_choose 14 = .ok (.iload_n 2, 1) := by decide +kernel
theorem dX11_choose_15 : decode cX11_choose 15 = .ok (.if_icmp .gt 24, 3) := by decide +kernel
theorem dX11_choose_18 : decode cX11_choose 18 = .ok (.aload_n 0, 1) := by decide +kernel
theorem dX11_choose_19 : decode cX11_choose 19 = .ok (.getfield 34, 3) := by decide +kernel
theorem dX11_choose_22 : decode cX11_choose 22 = .ok (.iload_n 3, 1) := by decide +kernel
theorem dX11_choose_23 : decode cX11_choose 23 = .ok (.iload_n 3, 1) := by decide +kernel
theorem dX11_choose_24 : decode cX11_choose 24 = .ok (.ifCond .ne 7, 3) := by decide +kernel
theorem dX11_choose_27 : decode cX11_choose 27 = .ok (.lconst 1, 1) := by decide +kernel
theorem dX11_choose_28 : decode cX11_choose 28 = .ok (.goto 4, 3) := by decide +kernel
theorem dX11_choose_31 : decode cX11_choose 31 = .ok (.lconst 0, 1) := by decide +kernel
theorem dX11_choose_32 : decode cX11_choose 32 = .ok (.lastore, 1) := by decide +kernel
theorem dX11_choose_33 : decode cX11_choose 33 = .ok (.iinc 3 1, 3) := by decide +kernel
theorem dX11_choose_36 : decode cX11_choose 36 = .ok (.goto (-23), 3) := by decide +kernel
theorem dX11_choose_39 : decode cX11_choose 39 = .ok (.iconst 0, 1) := by decide +kernel
theorem dX11_choose_40 : decode cX11_choose 40 = .ok (.istore_n 3, 1) := by decide +kernel
theorem dX11_choose_41 : decode cX11_choose 41 = .ok (.iload_n 3, 1) := by decide +kernel
theorem dX11_choose_42 : decode cX11_choose 42 = .ok (.iload_n 1, 1) := by decide +kernel
theorem dX11_choose_43 : decode cX11_choose 43 = .ok (.if_icmp .ge 42, 3) := by decide +kernel
theorem dX11_choose_46 : decode cX11_choose 46 = .ok (.iload_n 2, 1) := by decide +kernel
theorem dX11_choose_47 : decode cX11_choose 47 = .ok (.istore 4, 2) := by decide +kernel
theorem dX11_choose_49 : decode cX11_choose 49 = .ok (.iload 4, 2) := by decide +kernel
theorem dX11_choose_51 : decode cX11_choose 51 = .ok (.ifCond .le 28, 3) := by decide +kernel
theorem dX11_choose_54 : decode cX11_choose 54 = .ok (.aload_n 0, 1) := by decide +kernel
theorem dX11_choose_55 : decode cX11_choose 55 = .ok (.getfield 34, 3) := by decide +kernel
theorem dX11_choose_58 : decode cX11_choose 58 = .ok (.iload 4, 2) := by decide +kernel
theorem dX11_choose_60 : decode cX11_choose 60 = .ok (.dup2, 1) := by decide +kernel
theorem dX11_choose_61 : decode cX11_choose 61 = .ok (.laload, 1) := by decide +kernel
theorem dX11_choose_62 : decode cX11_choose 62 = .ok (.aload_n 0, 1) := by decide +kernel
theorem dX11_choose_63 : decode cX11_choose 63 = .ok (.getfield 34, 3) := by decide +kernel
theorem dX11_choose_66 : decode cX11_choose 66 = .ok (.iload 4, 2) := by decide +kernel
theorem dX11_choose_68 : decode cX11_choose 68 = .ok (.iconst 1, 1) := by decide +kernel
theorem dX11_choose_69 : decode cX11_choose 69 = .ok (.isub, 1) := by decide +kernel
theorem dX11_choose_70 : decode cX11_choose 70 = .ok (.laload, 1) := by decide +kernel
theorem dX11_choose_71 : decode cX11_choose 71 = .ok (.ladd, 1) := by decide +kernel
theorem dX11_choose_72 : decode cX11_choose 72 = .ok (.lastore, 1) := by decide +kernel
theorem dX11_choose_73 : decode cX11_choose 73 = .ok (.iinc 4 (-1), 3) := by decide +kernel
theorem dX11_choose_76 : decode cX11_choose 76 = .ok (.goto (-27), 3) := by decide +kernel
theorem dX11_choose_79 : decode cX11_choose 79 = .ok (.iinc 3 1, 3) := by decide +kernel
theorem dX11_choose_82 : decode cX11_choose 82 = .ok (.goto (-41), 3) := by decide +kernel
theorem dX11_choose_85 : decode cX11_choose 85 = .ok (.aload_n 0, 1) := by decide +kernel
theorem dX11_choose_86 : decode cX11_choose 86 = .ok (.getfield 34, 3) := by decide +kernel
theorem dX11_choose_89 : decode cX11_choose 89 = .ok (.iload_n 2, 1) := by decide +kernel
theorem dX11_choose_90 : decode cX11_choose 90 = .ok (.laload, 1) := by decide +kernel
theorem dX11_choose_91 : decode cX11_choose 91 = .ok (.lreturn, 1) := by decide +kernel
theorem dX11_atLeast_0 : decode cX11_atLeast 0 = .ok (.lconst 0, 1) := by decide +kernel
theorem dX11_atLeast_1 : decode cX11_atLeast 1 = .ok (.lstore 5, 2) := by decide +kernel
theorem dX11_atLeast_3 : decode cX11_atLeast 3 = .ok (.iload 4, 2) := by decide +kernel
theorem dX11_atLeast_5 : decode cX11_atLeast 5 = .ok (.istore 7, 2) := by decide +kernel
theorem dX11_atLeast_7 : decode cX11_atLeast 7 = .ok (.iload 7, 2) := by decide +kernel
theorem dX11_atLeast_9 : decode cX11_atLeast 9 = .ok (.iload_n 2, 1) := by decide +kernel
theorem dX11_atLeast_10 : decode cX11_atLeast 10 = .ok (.if_icmp .gt 54, 3) := by decide +kernel
theorem dX11_atLeast_13 : decode cX11_atLeast 13 = .ok (.iload 7, 2) := by decide +kernel
theorem dX11_atLeast_15 : decode cX11_atLeast 15 = .ok (.iload_n 3, 1) := by decide +kernel
theorem dX11_atLeast_16 : decode cX11_atLeast 16 = .ok (.if_icmp .gt 48, 3) := by decide +kernel
theorem dX11_atLeast_19 : decode cX11_atLeast 19 = .ok (.aload_n 0, 1) := by decide +kernel
theorem dX11_atLeast_20 : decode cX11_atLeast 20 = .ok (.iload_n 2, 1) := by decide +kernel
theorem dX11_atLeast_21 : decode cX11_atLeast 21 = .ok (.iload 7, 2) := by decide +kernel
theorem dX11_atLeast_23 : decode cX11_atLeast 23 = .ok (.invokevirtual 311, 3) := by decide +kernel
theorem dX11_atLeast_26 : decode cX11_atLeast 26 = .ok (.lstore 8, 2) := by decide +kernel
theorem dX11_atLeast_28 : decode cX11_atLeast 28 = .ok (.lload 5, 2) := by decide +kernel
theorem dX11_atLeast_30 : decode cX11_atLeast 30 = .ok (.lload 8, 2) := by decide +kernel
theorem dX11_atLeast_32 : decode cX11_atLeast 32 = .ok (.lconst 0, 1) := by decide +kernel
theorem dX11_atLeast_33 : decode cX11_atLeast 33 = .ok (.lcmp, 1) := by decide +kernel
theorem dX11_atLeast_34 : decode cX11_atLeast 34 = .ok (.ifCond .ne 7, 3) := by decide +kernel
theorem dX11_atLeast_37 : decode cX11_atLeast 37 = .ok (.lconst 0, 1) := by decide +kernel
theorem dX11_atLeast_38 : decode cX11_atLeast 38 = .ok (.goto 17, 3) := by decide +kernel
theorem dX11_atLeast_41 : decode cX11_atLeast 41 = .ok (.lload 8, 2) := by decide +kernel
theorem dX11_atLeast_43 : decode cX11_atLeast 43 = .ok (.aload_n 0, 1) := by decide +kernel
theorem dX11_atLeast_44 : decode cX11_atLeast 44 = .ok (.iload_n 1, 1) := by decide +kernel
theorem dX11_atLeast_45 : decode cX11_atLeast 45 = .ok (.iload_n 2, 1) := by decide +kernel
theorem dX11_atLeast_46 : decode cX11_atLeast 46 = .ok (.isub, 1) := by decide +kernel
theorem dX11_atLeast_47 : decode cX11_atLeast 47 = .ok (.iload_n 3, 1) := by decide +kernel
theorem dX11_atLeast_48 : decode cX11_atLeast 48 = .ok (.iload 7, 2) := by decide +kernel
theorem dX11_atLeast_50 : decode cX11_atLeast 50 = .ok (.isub, 1) := by decide +kernel
theorem dX11_atLeast_51 : decode cX11_atLeast 51 = .ok (.invokevirtual 311, 3) := by decide +kernel
theorem dX11_atLeast_54 : decode cX11_atLeast 54 = .ok (.lmul, 1) := by decide +kernel
theorem dX11_atLeast_55 : decode cX11_atLeast 55 = .ok (.ladd, 1) := by decide +kernel
theorem dX11_atLeast_56 : decode cX11_atLeast 56 = .ok (.lstore 5, 2) := by decide +kernel
theorem dX11_atLeast_58 : decode cX11_atLeast 58 = .ok (.iinc 7 1, 3) := by decide +kernel
theorem dX11_atLeast_61 : decode cX11_atLeast 61 = .ok (.goto (-54), 3) := by decide +kernel
theorem dX11_atLeast_64 : decode cX11_atLeast 64 = .ok (.lload 5, 2) := by decide +kernel
theorem dX11_atLeast_66 : decode cX11_atLeast 66 = .ok (.lreturn, 1) := by decide +kernel
theorem dX11_odds_0 : decode cX11_odds 0 = .ok (.aload_n 0, 1) := by decide +kernel
theorem dX11_odds_1 : decode cX11_odds 1 = .ok (.iload_n 1, 1) := by decide +kernel
theorem dX11_odds_2 : decode cX11_odds 2 = .ok (.iload_n 2, 1) := by decide +kernel
theorem dX11_odds_3 : decode cX11_odds 3 = .ok (.iconst 0, 1) := by decide +kernel
theorem dX11_odds_4 : decode cX11_odds 4 = .ok (.invokevirtual 314, 3) := by decide +kernel
theorem dX11_odds_7 : decode cX11_odds 7 = .ok (.istore 5, 2) := by decide +kernel
theorem dX11_odds_9 : decode cX11_odds 9 = .ok (.iload_n 3, 1) := by decide +kernel
theorem dX11_odds_10 : decode cX11_odds 10 = .ok (.iconst 0, 1) := by decide +kernel
theorem dX11_odds_11 : decode cX11_odds 11 = .ok (.sipush 1000, 3) := by decide +kernel
theorem dX11_odds_14 : decode cX11_odds 14 = .ok (.invokestatic 90, 3) := by decide +kernel
theorem dX11_odds_17 : decode cX11_odds 17 = .ok (.ifCond .eq 10, 3) := by decide +kernel
theorem dX11_odds_20 : decode cX11_odds 20 = .ok (.iload 5, 2) := by decide +kernel
theorem dX11_odds_22 : decode cX11_odds 22 = .ok (.bipush 60, 2) := by decide +kernel
theorem dX11_odds_24 : decode cX11_odds 24 = .ok (.if_icmp .le 7, 3) := by decide +kernel
theorem dX11_odds_27 : decode cX11_odds 27 = .ok (.ldc2_w 206, 3) := by decide +kernel
theorem dX11_odds_30 : decode cX11_odds 30 = .ok (.lreturn, 1) := by decide +kernel
theorem dX11_odds_31 : decode cX11_odds 31 = .ok (.iconst 0, 1) := by decide +kernel
theorem dX11_odds_32 : decode cX11_odds 32 = .ok (.istore 6, 2) := by decide +kernel
theorem dX11_odds_34 : decode cX11_odds 34 = .ok (.iconst 0, 1) := by decide +kernel
theorem dX11_odds_35 : decode cX11_odds 35 = .ok (.istore 7, 2) := by decide +kernel
theorem dX11_odds_37 : decode cX11_odds 37 = .ok (.iconst 0, 1) := by decide +kernel
theorem dX11_odds_38 : decode cX11_odds 38 = .ok (.istore 8, 2) := by decide +kernel
theorem dX11_odds_40 : decode cX11_odds 40 = .ok (.iload 8, 2) := by decide +kernel
theorem dX11_odds_42 : decode cX11_odds 42 = .ok (.aload_n 0, 1) := by decide +kernel
theorem dX11_odds_43 : decode cX11_odds 43 = .ok (.getfield 7, 3) := by decide +kernel
theorem dX11_odds_46 : decode cX11_odds 46 = .ok (.iconst 3, 1) := by decide +kernel
theorem dX11_odds_47 : decode cX11_odds 47 = .ok (.iaload, 1) := by decide +kernel
theorem dX11_odds_48 : decode cX11_odds 48 = .ok (.if_icmp .ge 57, 3) := by decide +kernel
theorem dX11_odds_51 : decode cX11_odds 51 = .ok (.aload_n 0, 1) := by decide +kernel
theorem dX11_odds_52 : decode cX11_odds 52 = .ok (.iload 8, 2) := by decide +kernel
theorem dX11_odds_54 : decode cX11_odds 54 = .ok (.iload_n 1, 1) := by decide +kernel
theorem dX11_odds_55 : decode cX11_odds 55 = .ok (.iload_n 2, 1) := by decide +kernel
theorem dX11_odds_56 : decode cX11_odds 56 = .ok (.invokevirtual 229, 3) := by decide +kernel
theorem dX11_odds_59 : decode cX11_odds 59 = .ok (.ifCond .eq 40, 3) := by decide +kernel
theorem dX11_odds_62 : decode cX11_odds 62 = .ok (.aload_n 0, 1) := by decide +kernel
theorem dX11_odds_63 : decode cX11_odds 63 = .ok (.iload 8, 2) := by decide +kernel
theorem dX11_odds_65 : decode cX11_odds 65 = .ok (.bipush 8, 2) := by decide +kernel
theorem dX11_odds_67 : decode cX11_odds 67 = .ok (.invokevirtual 226, 3) := by decide +kernel
theorem dX11_odds_70 : decode cX11_odds 70 = .ok (.iload_n 3, 1) := by decide +kernel
theorem dX11_odds_71 : decode cX11_odds 71 = .ok (.if_icmp .ge 6, 3) := by decide +kernel
theorem dX11_odds_74 : decode cX11_odds 74 = .ok (.goto 25, 3) := by decide +kernel
theorem dX11_odds_77 : decode cX11_odds 77 = .ok (.iinc 6 1, 3) := by decide +kernel
theorem dX11_odds_80 : decode cX11_odds 80 = .ok (.iload 7, 2) := by decide +kernel
theorem dX11_odds_82 : decode cX11_odds 82 = .ok (.aload_n 0, 1) := by decide +kernel
theorem dX11_odds_83 : decode cX11_odds 83 = .ok (.iload 8, 2) := by decide +kernel
theorem dX11_odds_85 : decode cX11_odds 85 = .ok (.invokevirtual 232, 3) := by decide +kernel
theorem dX11_odds_88 : decode cX11_odds 88 = .ok (.ifCond .le 7, 3) := by decide +kernel
theorem dX11_odds_91 : decode cX11_odds 91 = .ok (.iconst 1, 1) := by decide +kernel
theorem dX11_odds_92 : decode cX11_odds 92 = .ok (.goto 4, 3) := by decide +kernel
theorem dX11_odds_95 : decode cX11_odds 95 = .ok (.iconst 0, 1) := by decide +kernel
theorem dX11_odds_96 : decode cX11_odds 96 = .ok (.iadd, 1) := by decide +kernel
theorem dX11_odds_97 : decode cX11_odds 97 = .ok (.istore 7, 2) := by decide +kernel
theorem dX11_odds_99 : decode cX11_odds 99 = .ok (.iinc 8 1, 3) := by decide +kernel
theorem dX11_odds_102 : decode cX11_odds 102 = .ok (.goto (-62), 3) := by decide +kernel
theorem dX11_odds_105 : decode cX11_odds 105 = .ok (.iload 4, 2) := by decide +kernel
theorem dX11_odds_107 : decode cX11_odds 107 = .ok (.ifCond .eq 14, 3) := by decide +kernel
theorem dX11_odds_110 : decode cX11_odds 110 = .ok (.aload_n 0, 1) := by decide +kernel
theorem dX11_odds_111 : decode cX11_odds 111 = .ok (.iload 5, 2) := by decide +kernel
theorem dX11_odds_113 : decode cX11_odds 113 = .ok (.iload 6, 2) := by decide +kernel
theorem dX11_odds_115 : decode cX11_odds 115 = .ok (.invokevirtual 311, 3) := by decide +kernel
theorem dX11_odds_118 : decode cX11_odds 118 = .ok (.goto 20, 3) := by decide +kernel
theorem dX11_odds_121 : decode cX11_odds 121 = .ok (.aload_n 0, 1) := by decide +kernel
theorem dX11_odds_122 : decode cX11_odds 122 = .ok (.iload 5, 2) := by decide +kernel
theorem dX11_odds_124 : decode cX11_odds 124 = .ok (.aload_n 0, 1) := by decide +kernel
theorem dX11_odds_125 : decode cX11_odds 125 = .ok (.iload_n 1, 1) := by decide +kernel
theorem dX11_odds_126 : decode cX11_odds 126 = .ok (.iload_n 2, 1) := by decide +kernel
theorem dX11_odds_127 : decode cX11_odds 127 = .ok (.iconst 1, 1) := by decide +kernel
theorem dX11_odds_128 : decode cX11_odds 128 = .ok (.invokevirtual 314, 3) := by decide +kernel
theorem dX11_odds_131 : decode cX11_odds 131 = .ok (.iload 6, 2) := by decide +kernel
theorem dX11_odds_133 : decode cX11_odds 133 = .ok (.iload 7, 2) := by decide +kernel
theorem dX11_odds_135 : decode cX11_odds 135 = .ok (.invokevirtual 317, 3) := by decide +kernel
theorem dX11_odds_138 : decode cX11_odds 138 = .ok (.lreturn, 1) := by decide +kernel
theorem dX11_carded_0 : decode cX11_carded 0 = .ok (.iconst 0, 1) := by decide +kernel
theorem dX11_carded_1 : decode cX11_carded 1 = .ok (.istore 4, 2) := by decide +kernel
theorem dX11_carded_3 : decode cX11_carded 3 = .ok (.iconst 0, 1) := by decide +kernel
theorem dX11_carded_4 : decode cX11_carded 4 = .ok (.istore 5, 2) := by decide +kernel
theorem dX11_carded_6 : decode cX11_carded 6 = .ok (.iconst 0, 1) := by decide +kernel
theorem dX11_carded_7 : decode cX11_carded 7 = .ok (.istore 6, 2) := by decide +kernel
theorem dX11_carded_9 : decode cX11_carded 9 = .ok (.iload 6, 2) := by decide +kernel
theorem dX11_carded_11 : decode cX11_carded 11 = .ok (.aload_n 0, 1) := by decide +kernel
theorem dX11_carded_12 : decode cX11_carded 12 = .ok (.getfield 7, 3) := by decide +kernel
theorem dX11_carded_15 : decode cX11_carded 15 = .ok (.iconst 3, 1) := by decide +kernel
theorem dX11_carded_16 : decode cX11_carded 16 = .ok (.iaload, 1) := by decide +kernel
theorem dX11_carded_17 : decode cX11_carded 17 = .ok (.if_icmp .ge 59, 3) := by decide +kernel
theorem dX11_carded_20 : decode cX11_carded 20 = .ok (.aload_n 0, 1) := by decide +kernel
theorem dX11_carded_21 : decode cX11_carded 21 = .ok (.iload 6, 2) := by decide +kernel
theorem dX11_carded_23 : decode cX11_carded 23 = .ok (.iload_n 1, 1) := by decide +kernel
theorem dX11_carded_24 : decode cX11_carded 24 = .ok (.iload_n 2, 1) := by decide +kernel
theorem dX11_carded_25 : decode cX11_carded 25 = .ok (.invokevirtual 229, 3) := by decide +kernel
theorem dX11_carded_28 : decode cX11_carded 28 = .ok (.ifCond .eq 42, 3) := by decide +kernel
theorem dX11_carded_31 : decode cX11_carded 31 = .ok (.aload_n 0, 1) := by decide +kernel
theorem dX11_carded_32 : decode cX11_carded 32 = .ok (.iload 6, 2) := by decide +kernel
theorem dX11_carded_34 : decode cX11_carded 34 = .ok (.bipush 9, 2) := by decide +kernel
theorem dX11_carded_36 : decode cX11_carded 36 = .ok (.invokevirtual 226, 3) := by decide +kernel
theorem dX11_carded_39 : decode cX11_carded 39 = .ok (.iload_n 3, 1) := by decide +kernel
theorem dX11_carded_40 : decode cX11_carded 40 = .ok (.if_icmp .eq 6, 3) := by decide +kernel
theorem dX11_carded_43 : decode cX11_carded 43 = .ok (.goto 27, 3) := by decide +kernel
theorem dX11_carded_46 : decode cX11_carded 46 = .ok (.iinc 4 1, 3) := by decide +kernel
theorem dX11_carded_49 : decode cX11_carded 49 = .ok (.iload 5, 2) := by decide +kernel
theorem dX11_carded_51 : decode cX11_carded 51 = .ok (.aload_n 0, 1) := by decide +kernel
theorem dX11_carded_52 : decode cX11_carded 52 = .ok (.iload 6, 2) := by decide +kernel
theorem dX11_carded_54 : decode cX11_carded 54 = .ok (.bipush 6, 2) := by decide +kernel
theorem dX11_carded_56 : decode cX11_carded 56 = .ok (.invokevirtual 226, 3) := by decide +kernel
theorem dX11_carded_59 : decode cX11_carded 59 = .ok (.aload_n 0, 1) := by decide +kernel
theorem dX11_carded_60 : decode cX11_carded 60 = .ok (.iload 6, 2) := by decide +kernel
theorem dX11_carded_62 : decode cX11_carded 62 = .ok (.iconst 5, 1) := by decide +kernel
theorem dX11_carded_63 : decode cX11_carded 63 = .ok (.invokevirtual 226, 3) := by decide +kernel
theorem dX11_carded_66 : decode cX11_carded 66 = .ok (.isub, 1) := by decide +kernel
theorem dX11_carded_67 : decode cX11_carded 67 = .ok (.iadd, 1) := by decide +kernel
theorem dX11_carded_68 : decode cX11_carded 68 = .ok (.istore 5, 2) := by decide +kernel
theorem dX11_carded_70 : decode cX11_carded 70 = .ok (.iinc 6 1, 3) := by decide +kernel
theorem dX11_carded_73 : decode cX11_carded 73 = .ok (.goto (-64), 3) := by decide +kernel
theorem dX11_carded_76 : decode cX11_carded 76 = .ok (.iload 4, 2) := by decide +kernel
theorem dX11_carded_78 : decode cX11_carded 78 = .ok (.ifCond .ne 9, 3) := by decide +kernel
theorem dX11_carded_81 : decode cX11_carded 81 = .ok (.ldc_w 260, 3) := by decide +kernel
theorem dX11_carded_84 : decode cX11_carded 84 = .ok (.goto 5, 3) := by decide +kernel
theorem dX11_carded_87 : decode cX11_carded 87 = .ok (.iload 5, 2) := by decide +kernel
theorem dX11_carded_89 : decode cX11_carded 89 = .ok (.ireturn, 1) := by decide +kernel
theorem dX11_orders_0 : decode cX11_orders 0 = .ok (.aload_n 0, 1) := by decide +kernel
theorem dX11_orders_1 : decode cX11_orders 1 = .ok (.iconst 0, 1) := by decide +kernel
theorem dX11_orders_2 : decode cX11_orders 2 = .ok (.putfield 320, 3) := by decide +kernel
theorem dX11_orders_5 : decode cX11_orders 5 = .ok (.iconst 0, 1) := by decide +kernel
theorem dX11_orders_6 : decode cX11_orders 6 = .ok (.istore_n 3, 1) := by decide +kernel
theorem dX11_orders_7 : decode cX11_orders 7 = .ok (.iload_n 3, 1) := by decide +kernel
theorem dX11_orders_8 : decode cX11_orders 8 = .ok (.aload_n 0, 1) := by decide +kernel
theorem dX11_orders_9 : decode cX11_orders 9 = .ok (.getfield 7, 3) := by decide +kernel
theorem dX11_orders_12 : decode cX11_orders 12 = .ok (.iconst 3, 1) := by decide +kernel
theorem dX11_orders_13 : decode cX11_orders 13 = .ok (.iaload, 1) := by decide +kernel
theorem dX11_orders_14 : decode cX11_orders 14 = .ok (.if_icmp .ge 96, 3) := by decide +kernel
theorem dX11_orders_17 : decode cX11_orders 17 = .ok (.aload_n 0, 1) := by decide +kernel
theorem dX11_orders_18 : decode cX11_orders 18 = .ok (.iload_n 3, 1) := by decide +kernel
theorem dX11_orders_19 : decode cX11_orders 19 = .ok (.iload_n 1, 1) := by decide +kernel
theorem dX11_orders_20 : decode cX11_orders 20 = .ok (.iload_n 2, 1) := by decide +kernel
theorem dX11_orders_21 : decode cX11_orders 21 = .ok (.invokevirtual 229, 3) := by decide +kernel
theorem dX11_orders_24 : decode cX11_orders 24 = .ok (.ifCond .ne 6, 3) := by decide +kernel
theorem dX11_orders_27 : decode cX11_orders 27 = .ok (.goto 77, 3) := by decide +kernel
theorem dX11_orders_30 : decode cX11_orders 30 = .ok (.aload_n 0, 1) := by decide +kernel
theorem dX11_orders_31 : decode cX11_orders 31 = .ok (.getfield 320, 3) := by decide +kernel
theorem dX11_orders_34 : decode cX11_orders 34 = .ok (.istore 4, 2) := by decide +kernel
theorem dX11_orders_36 : decode cX11_orders 36 = .ok (.iload 4, 2) := by decide +kernel
theorem dX11_orders_38 : decode cX11_orders 38 = .ok (.ifCond .le 48, 3) := by decide +kernel
theorem dX11_orders_41 : decode cX11_orders 41 = .ok (.aload_n 0, 1) := by decide +kernel
theorem dX11_orders_42 : decode cX11_orders 42 = .ok (.aload_n 0, 1) := by decide +kernel
theorem dX11_orders_43 : decode cX11_orders 43 = .ok (.getfield 37, 3) := by decide +kernel
theorem dX11_orders_46 : decode cX11_orders 46 = .ok (.iload 4, 2) := by decide +kernel
theorem dX11_orders_48 : decode cX11_orders 48 = .ok (.iconst 1, 1) := by decide +kernel
theorem dX11_orders_49 : decode cX11_orders 49 = .ok (.isub, 1) := by decide +kernel
theorem dX11_orders_50 : decode cX11_orders 50 = .ok (.iaload, 1) := by decide +kernel
theorem dX11_orders_51 : decode cX11_orders 51 = .ok (.iconst 2, 1) := by decide +kernel
theorem dX11_orders_52 : decode cX11_orders 52 = .ok (.invokevirtual 226, 3) := by decide +kernel
theorem dX11_orders_55 : decode cX11_orders 55 = .ok (.aload_n 0, 1) := by decide +kernel
theorem dX11_orders_56 : decode cX11_orders 56 = .ok (.iload_n 3, 1) := by decide +kernel
theorem dX11_orders_57 : decode cX11_orders 57 = .ok (.iconst 2, 1) := by decide +kernel
theorem dX11_orders_58 : decode cX11_orders 58 = .ok (.invokevirtual 226, 3) := by decide +kernel
theorem dX11_orders_61 : decode cX11_orders 61 = .ok (.if_icmp .le 25, 3) := by decide +kernel
theorem dX11_orders_64 : decode cX11_orders 64 = .ok (.aload_n 0, 1) := by decide +kernel
theorem dX11_orders_65 : decode cX11_orders 65 = .ok (.getfield 37, 3) := by decide +kernel
theorem dX11_orders_68 : decode cX11_orders 68 = .ok (.iload 4, 2) := by decide +kernel
theorem dX11_orders_70 : decode cX11_orders 70 = .ok (.aload_n 0, 1) := by decide +kernel
theorem dX11_orders_71 : decode cX11_orders 71 = .ok (.getfield 37, 3) := by decide +kernel
theorem dX11_orders_74 : decode cX11_orders 74 = .ok (.iload 4, 2) := by decide +kernel
theorem dX11_orders_76 : decode cX11_orders 76 = .ok (.iconst 1, 1) := by decide +kernel
theorem dX11_orders_77 : decode cX11_orders 77 = .ok (.isub, 1) := by decide +kernel
theorem dX11_orders_78 : decode cX11_orders 78 = .ok (.iaload, 1) := by decide +kernel
theorem dX11_orders_79 : decode cX11_orders 79 = .ok (.iastore, 1) := by decide +kernel
theorem dX11_orders_80 : decode cX11_orders 80 = .ok (.iinc 4 (-1), 3) := by decide +kernel
theorem dX11_orders_83 : decode cX11_orders 83 = .ok (.goto (-47), 3) := by decide +kernel
theorem dX11_orders_86 : decode cX11_orders 86 = .ok (.aload_n 0, 1) := by decide +kernel
theorem dX11_orders_87 : decode cX11_orders 87 = .ok (.getfield 37, 3) := by decide +kernel
theorem dX11_orders_90 : decode cX11_orders 90 = .ok (.iload 4, 2) := by decide +kernel
theorem dX11_orders_92 : decode cX11_orders 92 = .ok (.iload_n 3, 1) := by decide +kernel
theorem dX11_orders_93 : decode cX11_orders 93 = .ok (.iastore, 1) := by decide +kernel
theorem dX11_orders_94 : decode cX11_orders 94 = .ok (.aload_n 0, 1) := by decide +kernel
theorem dX11_orders_95 : decode cX11_orders 95 = .ok (.dup, 1) := by decide +kernel
theorem dX11_orders_96 : decode cX11_orders 96 = .ok (.getfield 320, 3) := by decide +kernel
theorem dX11_orders_99 : decode cX11_orders 99 = .ok (.iconst 1, 1) := by decide +kernel
theorem dX11_orders_100 : decode cX11_orders 100 = .ok (.iadd, 1) := by decide +kernel
theorem dX11_orders_101 : decode cX11_orders 101 = .ok (.putfield 320, 3) := by decide +kernel
theorem dX11_orders_104 : decode cX11_orders 104 = .ok (.iinc 3 1, 3) := by decide +kernel
theorem dX11_orders_107 : decode cX11_orders 107 = .ok (.goto (-100), 3) := by decide +kernel
theorem dX11_orders_110 : decode cX11_orders 110 = .ok (.return_, 1) := by decide +kernel
theorem dX11_fresh_0 : decode cX11_fresh 0 = .ok (.iload_n 1, 1) := by decide +kernel
theorem dX11_fresh_1 : decode cX11_fresh 1 = .ok (.iconst 0, 1) := by decide +kernel
theorem dX11_fresh_2 : decode cX11_fresh 2 = .ok (.bipush 7, 2) := by decide +kernel
theorem dX11_fresh_4 : decode cX11_fresh 4 = .ok (.invokestatic 90, 3) := by decide +kernel
theorem dX11_fresh_7 : decode cX11_fresh 7 = .ok (.ifCond .eq 13, 3) := by decide +kernel
theorem dX11_fresh_10 : decode cX11_fresh 10 = .ok (.iload_n 3, 1) := by decide +kernel
theorem dX11_fresh_11 : decode cX11_fresh 11 = .ok (.iconst 1, 1) := by decide +kernel
theorem dX11_fresh_12 : decode cX11_fresh 12 = .ok (.bipush 40, 2) := by decide +kernel
theorem dX11_fresh_14 : decode cX11_fresh 14 = .ok (.invokestatic 90, 3) := by decide +kernel
theorem dX11_fresh_17 : decode cX11_fresh 17 = .ok (.ifCond .ne 7, 3) := by decide +kernel
theorem dX11_fresh_20 : decode cX11_fresh 20 = .ok (.ldc_w 260, 3) := by decide +kernel
theorem dX11_fresh_23 : decode cX11_fresh 23 = .ok (.ireturn, 1) := by decide +kernel
theorem dX11_fresh_24 : decode cX11_fresh 24 = .ok (.aload_n 0, 1) := by decide +kernel
theorem dX11_fresh_25 : decode cX11_fresh 25 = .ok (.iload_n 2, 1) := by decide +kernel
theorem dX11_fresh_26 : decode cX11_fresh 26 = .ok (.bipush 59, 2) := by decide +kernel
theorem dX11_fresh_28 : decode cX11_fresh 28 = .ok (.invokevirtual 323, 3) := by decide +kernel
theorem dX11_fresh_31 : decode cX11_fresh 31 = .ok (.iconst 0, 1) := by decide +kernel
theorem dX11_fresh_32 : decode cX11_fresh 32 = .ok (.istore 4, 2) := by decide +kernel
theorem dX11_fresh_34 : decode cX11_fresh 34 = .ok (.iconst 0, 1) := by decide +kernel
theorem dX11_fresh_35 : decode cX11_fresh 35 = .ok (.istore 5, 2) := by decide +kernel
theorem dX11_fresh_37 : decode cX11_fresh 37 = .ok (.iconst 0, 1) := by decide +kernel
theorem dX11_fresh_38 : decode cX11_fresh 38 = .ok (.istore 6, 2) := by decide +kernel
theorem dX11_fresh_40 : decode cX11_fresh 40 = .ok (.iload 6, 2) := by decide +kernel
theorem dX11_fresh_42 : decode cX11_fresh 42 = .ok (.aload_n 0, 1) := by decide +kernel
theorem dX11_fresh_43 : decode cX11_fresh 43 = .ok (.getfield 320, 3) := by decide +kernel
theorem dX11_fresh_46 : decode cX11_fresh 46 = .ok (.if_icmp .ge 92, 3) := by decide +kernel
theorem dX11_fresh_49 : decode cX11_fresh 49 = .ok (.iload 4, 2) := by decide +kernel
theorem dX11_fresh_51 : decode cX11_fresh 51 = .ok (.iconst 2, 1) := by decide +kernel
theorem dX11_fresh_52 : decode cX11_fresh 52 = .ok (.iload_n 3, 1) := by decide +kernel
theorem dX11_fresh_53 : decode cX11_fresh 53 = .ok (.imul, 1) := by decide +kernel
theorem dX11_fresh_54 : decode cX11_fresh 54 = .ok (.if_icmp .ge 84, 3) := by decide +kernel
theorem dX11_fresh_57 : decode cX11_fresh 57 = .ok (.aload_n 0, 1) := by decide +kernel
theorem dX11_fresh_58 : decode cX11_fresh 58 = .ok (.aload_n 0, 1) := by decide +kernel
theorem dX11_fresh_59 : decode cX11_fresh 59 = .ok (.getfield 37, 3) := by decide +kernel
theorem dX11_fresh_62 : decode cX11_fresh 62 = .ok (.iload 6, 2) := by decide +kernel
theorem dX11_fresh_64 : decode cX11_fresh 64 = .ok (.iaload, 1) := by decide +kernel
theorem dX11_fresh_65 : decode cX11_fresh 65 = .ok (.iconst 0, 1) := by decide +kernel
theorem dX11_fresh_66 : decode cX11_fresh 66 = .ok (.invokevirtual 226, 3) := by decide +kernel
theorem dX11_fresh_69 : decode cX11_fresh 69 = .ok (.iload_n 1, 1) := by decide +kernel
theorem dX11_fresh_70 : decode cX11_fresh 70 = .ok (.if_icmp .eq 6, 3) := by decide +kernel
theorem dX11_fresh_73 : decode cX11_fresh 73 = .ok (.goto 59, 3) := by decide +kernel
theorem dX11_fresh_76 : decode cX11_fresh 76 = .ok (.aload_n 0, 1) := by decide +kernel
theorem dX11_fresh_77 : decode cX11_fresh 77 = .ok (.aload_n 0, 1) := by decide +kernel
theorem dX11_fresh_78 : decode cX11_fresh 78 = .ok (.getfield 37, 3) := by decide +kernel
theorem dX11_fresh_81 : decode cX11_fresh 81 = .ok (.iload 6, 2) := by decide +kernel
theorem dX11_fresh_83 : decode cX11_fresh 83 = .ok (.iaload, 1) := by decide +kernel
theorem dX11_fresh_84 : decode cX11_fresh 84 = .ok (.invokevirtual 232, 3) := by decide +kernel
theorem dX11_fresh_87 : decode cX11_fresh 87 = .ok (.istore 7, 2) := by decide +kernel
theorem dX11_fresh_89 : decode cX11_fresh 89 = .ok (.iload 7, 2) := by decide +kernel
theorem dX11_fresh_91 : decode cX11_fresh 91 = .ok (.ifCond .le 7, 3) := by decide +kernel
theorem dX11_fresh_94 : decode cX11_fresh 94 = .ok (.iconst 3, 1) := by decide +kernel
theorem dX11_fresh_95 : decode cX11_fresh 95 = .ok (.goto 13, 3) := by decide +kernel
theorem dX11_fresh_98 : decode cX11_fresh 98 = .ok (.iload 7, 2) := by decide +kernel
theorem dX11_fresh_100 : decode cX11_fresh 100 = .ok (.ifCond .ne 7, 3) := by decide +kernel
theorem dX11_fresh_103 : decode cX11_fresh 103 = .ok (.iconst 1, 1) := by decide +kernel
theorem dX11_fresh_104 : decode cX11_fresh 104 = .ok (.goto 4, 3) := by decide +kernel
theorem dX11_fresh_107 : decode cX11_fresh 107 = .ok (.iconst 0, 1) := by decide +kernel
theorem dX11_fresh_108 : decode cX11_fresh 108 = .ok (.istore 8, 2) := by decide +kernel
theorem dX11_fresh_110 : decode cX11_fresh 110 = .ok (.iload 5, 2) := by decide +kernel
theorem dX11_fresh_112 : decode cX11_fresh 112 = .ok (.iload 4, 2) := by decide +kernel
theorem dX11_fresh_114 : decode cX11_fresh 114 = .ok (.iload_n 3, 1) := by decide +kernel
theorem dX11_fresh_115 : decode cX11_fresh 115 = .ok (.if_icmp .ge 8, 3) := by decide +kernel
theorem dX11_fresh_118 : decode cX11_fresh 118 = .ok (.iload 8, 2) := by decide +kernel
theorem dX11_fresh_120 : decode cX11_fresh 120 = .ok (.goto 6, 3) := by decide +kernel
theorem dX11_fresh_123 : decode cX11_fresh 123 = .ok (.iload 8, 2) := by decide +kernel
theorem dX11_fresh_125 : decode cX11_fresh 125 = .ok (.ineg, 1) := by decide +kernel
theorem dX11_fresh_126 : decode cX11_fresh 126 = .ok (.iadd, 1) := by decide +kernel
theorem dX11_fresh_127 : decode cX11_fresh 127 = .ok (.istore 5, 2) := by decide +kernel
theorem dX11_fresh_129 : decode cX11_fresh 129 = .ok (.iinc 4 1, 3) := by decide +kernel
theorem dX11_fresh_132 : decode cX11_fresh 132 = .ok (.iinc 6 1, 3) := by decide +kernel
theorem dX11_fresh_135 : decode cX11_fresh 135 = .ok (.goto (-95), 3) := by decide +kernel
theorem dX11_fresh_138 : decode cX11_fresh 138 = .ok (.iload 4, 2) := by decide +kernel
theorem dX11_fresh_140 : decode cX11_fresh 140 = .ok (.iconst 2, 1) := by decide +kernel
theorem dX11_fresh_141 : decode cX11_fresh 141 = .ok (.iload_n 3, 1) := by decide +kernel
theorem dX11_fresh_142 : decode cX11_fresh 142 = .ok (.imul, 1) := by decide +kernel
theorem dX11_fresh_143 : decode cX11_fresh 143 = .ok (.if_icmp .ge 9, 3) := by decide +kernel
theorem dX11_fresh_146 : decode cX11_fresh 146 = .ok (.ldc_w 260, 3) := by decide +kernel
theorem dX11_fresh_149 : decode cX11_fresh 149 = .ok (.goto 5, 3) := by decide +kernel
theorem dX11_fresh_152 : decode cX11_fresh 152 = .ok (.iload 5, 2) := by decide +kernel
theorem dX11_fresh_154 : decode cX11_fresh 154 = .ok (.ireturn, 1) := by decide +kernel
theorem dX11_films_0 : decode cX11_films 0 = .ok (.iload_n 1, 1) := by decide +kernel
theorem dX11_films_1 : decode cX11_films 1 = .ok (.iconst 0, 1) := by decide +kernel
theorem dX11_films_2 : decode cX11_films 2 = .ok (.bipush 7, 2) := by decide +kernel
theorem dX11_films_4 : decode cX11_films 4 = .ok (.invokestatic 90, 3) := by decide +kernel
theorem dX11_films_7 : decode cX11_films 7 = .ok (.ifCond .eq 23, 3) := by decide +kernel
theorem dX11_films_10 : decode cX11_films 10 = .ok (.iload_n 3, 1) := by decide +kernel
theorem dX11_films_11 : decode cX11_films 11 = .ok (.iconst 0, 1) := by decide +kernel
theorem dX11_films_12 : decode cX11_films 12 = .ok (.bipush 30, 2) := by decide +kernel
theorem dX11_films_14 : decode cX11_films 14 = .ok (.invokestatic 90, 3) := by decide +kernel
theorem dX11_films_17 : decode cX11_films 17 = .ok (.ifCond .eq 13, 3) := by decide +kernel
theorem dX11_films_20 : decode cX11_films 20 = .ok (.iload 4, 2) := by decide +kernel
theorem dX11_films_22 : decode cX11_films 22 = .ok (.iconst 0, 1) := by decide +kernel
theorem dX11_films_23 : decode cX11_films 23 = .ok (.iload_n 3, 1) := by decide +kernel
theorem dX11_films_24 : decode cX11_films 24 = .ok (.invokestatic 90, 3) := by decide +kernel
theorem dX11_films_27 : decode cX11_films 27 = .ok (.ifCond .ne 5, 3) := by decide +kernel
theorem dX11_films_30 : decode cX11_films 30 = .ok (.iconst 0, 1) := by decide +kernel
theorem dX11_films_31 : decode cX11_films 31 = .ok (.ireturn, 1) := by decide +kernel
theorem dX11_films_32 : decode cX11_films 32 = .ok (.aload_n 0, 1) := by decide +kernel
theorem dX11_films_33 : decode cX11_films 33 = .ok (.getfield 7, 3) := by decide +kernel
theorem dX11_films_36 : decode cX11_films 36 = .ok (.sipush 2530, 3) := by decide +kernel
theorem dX11_films_39 : decode cX11_films 39 = .ok (.iconst 4, 1) := by decide +kernel
theorem dX11_films_40 : decode cX11_films 40 = .ok (.iload_n 1, 1) := by decide +kernel
theorem dX11_films_41 : decode cX11_films 41 = .ok (.imul, 1) := by decide +kernel
theorem dX11_films_42 : decode cX11_films 42 = .ok (.iadd, 1) := by decide +kernel
theorem dX11_films_43 : decode cX11_films 43 = .ok (.iload_n 2, 1) := by decide +kernel
theorem dX11_films_44 : decode cX11_films 44 = .ok (.ifCond .eq 7, 3) := by decide +kernel
theorem dX11_films_47 : decode cX11_films 47 = .ok (.iconst 2, 1) := by decide +kernel
theorem dX11_films_48 : decode cX11_films 48 = .ok (.goto 4, 3) := by decide +kernel
theorem dX11_films_51 : decode cX11_films 51 = .ok (.iconst 0, 1) := by decide +kernel
theorem dX11_films_52 : decode cX11_films 52 = .ok (.iadd, 1) := by decide +kernel
theorem dX11_films_53 : decode cX11_films 53 = .ok (.iload_n 3, 1) := by decide +kernel
theorem dX11_films_54 : decode cX11_films 54 = .ok (.iastore, 1) := by decide +kernel
theorem dX11_films_55 : decode cX11_films 55 = .ok (.aload_n 0, 1) := by decide +kernel
theorem dX11_films_56 : decode cX11_films 56 = .ok (.getfield 7, 3) := by decide +kernel
theorem dX11_films_59 : decode cX11_films 59 = .ok (.sipush 2530, 3) := by decide +kernel
theorem dX11_films_62 : decode cX11_films 62 = .ok (.iconst 4, 1) := by decide +kernel
theorem dX11_films_63 : decode cX11_films 63 = .ok (.iload_n 1, 1) := by decide +kernel
theorem dX11_films_64 : decode cX11_films 64 = .ok (.imul, 1) := by decide +kernel
theorem dX11_films_65 : decode cX11_films 65 = .ok (.iadd, 1) := by decide +kernel
theorem dX11_films_66 : decode cX11_films 66 = .ok (.iload_n 2, 1) := by decide +kernel
theorem dX11_films_67 : decode cX11_films 67 = .ok (.ifCond .eq 7, 3) := by decide +kernel
theorem dX11_films_70 : decode cX11_films 70 = .ok (.iconst 3, 1) := by decide +kernel
theorem dX11_films_71 : decode cX11_films 71 = .ok (.goto 4, 3) := by decide +kernel
theorem dX11_films_74 : decode cX11_films 74 = .ok (.iconst 1, 1) := by decide +kernel
theorem dX11_films_75 : decode cX11_films 75 = .ok (.iadd, 1) := by decide +kernel
theorem dX11_films_76 : decode cX11_films 76 = .ok (.iload 4, 2) := by decide +kernel
theorem dX11_films_78 : decode cX11_films 78 = .ok (.iastore, 1) := by decide +kernel
theorem dX11_films_79 : decode cX11_films 79 = .ok (.iconst 1, 1) := by decide +kernel
theorem dX11_films_80 : decode cX11_films 80 = .ok (.ireturn, 1) := by decide +kernel
theorem dX11_looser_0 : decode cX11_looser 0 = .ok (.iload_n 1, 1) := by decide +kernel
theorem dX11_looser_1 : decode cX11_looser 1 = .ok (.iconst 0, 1) := by decide +kernel
theorem dX11_looser_2 : decode cX11_looser 2 = .ok (.bipush 7, 2) := by decide +kernel
theorem dX11_looser_4 : decode cX11_looser 4 = .ok (.invokestatic 90, 3) := by decide +kernel
theorem dX11_looser_7 : decode cX11_looser 7 = .ok (.ifCond .ne 7, 3) := by decide +kernel
theorem dX11_looser_10 : decode cX11_looser 10 = .ok (.ldc2_w 206, 3) := by decide +kernel
theorem dX11_looser_13 : decode cX11_looser 13 = .ok (.lreturn, 1) := by decide +kernel
theorem dX11_looser_14 : decode cX11_looser 14 = .ok (.sipush 2530, 3) := by decide +kernel
theorem dX11_looser_17 : decode cX11_looser 17 = .ok (.iconst 4, 1) := by decide +kernel
theorem dX11_looser_18 : decode cX11_looser 18 = .ok (.iload_n 1, 1) := by decide +kernel
theorem dX11_looser_19 : decode cX11_looser 19 = .ok (.imul, 1) := by decide +kernel
theorem dX11_looser_20 : decode cX11_looser 20 = .ok (.iadd, 1) := by decide +kernel
theorem dX11_looser_21 : decode cX11_looser 21 = .ok (.istore_n 3, 1) := by decide +kernel
theorem dX11_looser_22 : decode cX11_looser 22 = .ok (.aload_n 0, 1) := by decide +kernel
theorem dX11_looser_23 : decode cX11_looser 23 = .ok (.getfield 7, 3) := by decide +kernel
theorem dX11_looser_26 : decode cX11_looser 26 = .ok (.iload_n 3, 1) := by decide +kernel
theorem dX11_looser_27 : decode cX11_looser 27 = .ok (.iaload, 1) := by decide +kernel
theorem dX11_looser_28 : decode cX11_looser 28 = .ok (.aload_n 0, 1) := by decide +kernel
theorem dX11_looser_29 : decode cX11_looser 29 = .ok (.getfield 7, 3) := by decide +kernel
theorem dX11_looser_32 : decode cX11_looser 32 = .ok (.iload_n 3, 1) := by decide +kernel
theorem dX11_looser_33 : decode cX11_looser 33 = .ok (.iconst 2, 1) := by decide +kernel
theorem dX11_looser_34 : decode cX11_looser 34 = .ok (.iadd, 1) := by decide +kernel
theorem dX11_looser_35 : decode cX11_looser 35 = .ok (.iaload, 1) := by decide +kernel
theorem dX11_looser_36 : decode cX11_looser 36 = .ok (.iadd, 1) := by decide +kernel
theorem dX11_looser_37 : decode cX11_looser 37 = .ok (.istore 4, 2) := by decide +kernel
theorem dX11_looser_39 : decode cX11_looser 39 = .ok (.iload_n 2, 1) := by decide +kernel
theorem dX11_looser_40 : decode cX11_looser 40 = .ok (.ifCond .eq 18, 3) := by decide +kernel
theorem dX11_looser_43 : decode cX11_looser 43 = .ok (.aload_n 0, 1) := by decide +kernel
theorem dX11_looser_44 : decode cX11_looser 44 = .ok (.iload 4, 2) := by decide +kernel
theorem dX11_looser_46 : decode cX11_looser 46 = .ok (.aload_n 0, 1) := by decide +kernel
theorem dX11_looser_47 : decode cX11_looser 47 = .ok (.getfield 7, 3) := by decide +kernel
theorem dX11_looser_50 : decode cX11_looser 50 = .ok (.iload_n 3, 1) := by decide +kernel
theorem dX11_looser_51 : decode cX11_looser 51 = .ok (.iaload, 1) := by decide +kernel
theorem dX11_looser_52 : decode cX11_looser 52 = .ok (.invokevirtual 311, 3) := by decide +kernel
theorem dX11_looser_55 : decode cX11_looser 55 = .ok (.goto 40, 3) := by decide +kernel
theorem dX11_looser_58 : decode cX11_looser 58 = .ok (.aload_n 0, 1) := by decide +kernel
theorem dX11_looser_59 : decode cX11_looser 59 = .ok (.iload 4, 2) := by decide +kernel
theorem dX11_looser_61 : decode cX11_looser 61 = .ok (.aload_n 0, 1) := by decide +kernel
theorem dX11_looser_62 : decode cX11_looser 62 = .ok (.getfield 7, 3) := by decide +kernel
theorem dX11_looser_65 : decode cX11_looser 65 = .ok (.iload_n 3, 1) := by decide +kernel
theorem dX11_looser_66 : decode cX11_looser 66 = .ok (.iconst 1, 1) := by decide +kernel
theorem dX11_looser_67 : decode cX11_looser 67 = .ok (.iadd, 1) := by decide +kernel
theorem dX11_looser_68 : decode cX11_looser 68 = .ok (.iaload, 1) := by decide +kernel
theorem dX11_looser_69 : decode cX11_looser 69 = .ok (.aload_n 0, 1) := by decide +kernel
theorem dX11_looser_70 : decode cX11_looser 70 = .ok (.getfield 7, 3) := by decide +kernel
theorem dX11_looser_73 : decode cX11_looser 73 = .ok (.iload_n 3, 1) := by decide +kernel
theorem dX11_looser_74 : decode cX11_looser 74 = .ok (.iconst 3, 1) := by decide +kernel
theorem dX11_looser_75 : decode cX11_looser 75 = .ok (.iadd, 1) := by decide +kernel
theorem dX11_looser_76 : decode cX11_looser 76 = .ok (.iaload, 1) := by decide +kernel
theorem dX11_looser_77 : decode cX11_looser 77 = .ok (.iadd, 1) := by decide +kernel
theorem dX11_looser_78 : decode cX11_looser 78 = .ok (.aload_n 0, 1) := by decide +kernel
theorem dX11_looser_79 : decode cX11_looser 79 = .ok (.getfield 7, 3) := by decide +kernel
theorem dX11_looser_82 : decode cX11_looser 82 = .ok (.iload_n 3, 1) := by decide +kernel
theorem dX11_looser_83 : decode cX11_looser 83 = .ok (.iaload, 1) := by decide +kernel
theorem dX11_looser_84 : decode cX11_looser 84 = .ok (.aload_n 0, 1) := by decide +kernel
theorem dX11_looser_85 : decode cX11_looser 85 = .ok (.getfield 7, 3) := by decide +kernel
theorem dX11_looser_88 : decode cX11_looser 88 = .ok (.iload_n 3, 1) := by decide +kernel
theorem dX11_looser_89 : decode cX11_looser 89 = .ok (.iconst 1, 1) := by decide +kernel
theorem dX11_looser_90 : decode cX11_looser 90 = .ok (.iadd, 1) := by decide +kernel
theorem dX11_looser_91 : decode cX11_looser 91 = .ok (.iaload, 1) := by decide +kernel
theorem dX11_looser_92 : decode cX11_looser 92 = .ok (.invokevirtual 317, 3) := by decide +kernel
theorem dX11_looser_95 : decode cX11_looser 95 = .ok (.lreturn, 1) := by decide +kernel
theorem dX11_isPrice_0 : decode cX11_isPrice 0 = .ok (.iload_n 0, 1) := by decide +kernel
theorem dX11_isPrice_1 : decode cX11_isPrice 1 = .ok (.bipush 101, 2) := by decide +kernel
theorem dX11_isPrice_3 : decode cX11_isPrice 3 = .ok (.sipush 999, 3) := by decide +kernel
theorem dX11_isPrice_6 : decode cX11_isPrice 6 = .ok (.invokestatic 90, 3) := by decide +kernel
theorem dX11_isPrice_9 : decode cX11_isPrice 9 = .ok (.ireturn, 1) := by decide +kernel
theorem dX11_had_0 : decode cX11_had 0 = .ok (.iload_n 3, 1) := by decide +kernel
theorem dX11_had_1 : decode cX11_had 1 = .ok (.invokestatic 326, 3) := by decide +kernel
theorem dX11_had_4 : decode cX11_had 4 = .ok (.ifCond .ne 7, 3) := by decide +kernel
theorem dX11_had_7 : decode cX11_had 7 = .ok (.ldc_w 260, 3) := by decide +kernel
theorem dX11_had_10 : decode cX11_had 10 = .ok (.ireturn, 1) := by decide +kernel
theorem dX11_had_11 : decode cX11_had 11 = .ok (.aload_n 0, 1) := by decide +kernel
theorem dX11_had_12 : decode cX11_had 12 = .ok (.iload_n 1, 1) := by decide +kernel
theorem dX11_had_13 : decode cX11_had 13 = .ok (.iload_n 2, 1) := by decide +kernel
theorem dX11_had_14 : decode cX11_had 14 = .ok (.iconst 1, 1) := by decide +kernel
theorem dX11_had_15 : decode cX11_had 15 = .ok (.invokevirtual 314, 3) := by decide +kernel
theorem dX11_had_18 : decode cX11_had 18 = .ok (.iload_n 3, 1) := by decide +kernel
theorem dX11_had_19 : decode cX11_had 19 = .ok (.imul, 1) := by decide +kernel
theorem dX11_had_20 : decode cX11_had 20 = .ok (.bipush 100, 2) := by decide +kernel
theorem dX11_had_22 : decode cX11_had 22 = .ok (.aload_n 0, 1) := by decide +kernel
theorem dX11_had_23 : decode cX11_had 23 = .ok (.iload_n 1, 1) := by decide +kernel
theorem dX11_had_24 : decode cX11_had 24 = .ok (.iload_n 2, 1) := by decide +kernel
theorem dX11_had_25 : decode cX11_had 25 = .ok (.iconst 0, 1) := by decide +kernel
theorem dX11_had_26 : decode cX11_had 26 = .ok (.invokevirtual 314, 3) := by decide +kernel
theorem dX11_had_29 : decode cX11_had 29 = .ok (.imul, 1) := by decide +kernel
theorem dX11_had_30 : decode cX11_had 30 = .ok (.isub, 1) := by decide +kernel
theorem dX11_had_31 : decode cX11_had 31 = .ok (.ireturn, 1) := by decide +kernel
theorem dX11_fixed_0 : decode cX11_fixed 0 = .ok (.iload_n 3, 1) := by decide +kernel
theorem dX11_fixed_1 : decode cX11_fixed 1 = .ok (.invokestatic 326, 3) := by decide +kernel
theorem dX11_fixed_4 : decode cX11_fixed 4 = .ok (.ifCond .eq 15, 3) := by decide +kernel
theorem dX11_fixed_7 : decode cX11_fixed 7 = .ok (.iload 4, 2) := by decide +kernel
theorem dX11_fixed_9 : decode cX11_fixed 9 = .ok (.iconst 0, 1) := by decide +kernel
theorem dX11_fixed_10 : decode cX11_fixed 10 = .ok (.sipush 9999, 3) := by decide +kernel
theorem dX11_fixed_13 : decode cX11_fixed 13 = .ok (.invokestatic 90, 3) := by decide +kernel
theorem dX11_fixed_16 : decode cX11_fixed 16 = .ok (.ifCond .ne 5, 3) := by decide +kernel
theorem dX11_fixed_19 : decode cX11_fixed 19 = .ok (.iconst (-1), 1) := by decide +kernel
theorem dX11_fixed_20 : decode cX11_fixed 20 = .ok (.ireturn, 1) := by decide +kernel
theorem dX11_fixed_21 : decode cX11_fixed 21 = .ok (.aload_n 0, 1) := by decide +kernel
theorem dX11_fixed_22 : decode cX11_fixed 22 = .ok (.iload_n 1, 1) := by decide +kernel
theorem dX11_fixed_23 : decode cX11_fixed 23 = .ok (.iload_n 2, 1) := by decide +kernel
theorem dX11_fixed_24 : decode cX11_fixed 24 = .ok (.invokevirtual 323, 3) := by decide +kernel
theorem dX11_fixed_27 : decode cX11_fixed 27 = .ok (.iconst 0, 1) := by decide +kernel
theorem dX11_fixed_28 : decode cX11_fixed 28 = .ok (.istore 5, 2) := by decide +kernel
theorem dX11_fixed_30 : decode cX11_fixed 30 = .ok (.iconst 0, 1) := by decide +kernel
theorem dX11_fixed_31 : decode cX11_fixed 31 = .ok (.istore 6, 2) := by decide +kernel
theorem dX11_fixed_33 : decode cX11_fixed 33 = .ok (.iload 6, 2) := by decide +kernel
theorem dX11_fixed_35 : decode cX11_fixed 35 = .ok (.aload_n 0, 1) := by decide +kernel
theorem dX11_fixed_36 : decode cX11_fixed 36 = .ok (.getfield 320, 3) := by decide +kernel
theorem dX11_fixed_39 : decode cX11_fixed 39 = .ok (.if_icmp .ge 50, 3) := by decide +kernel
theorem dX11_fixed_42 : decode cX11_fixed 42 = .ok (.iload 5, 2) := by decide +kernel
theorem dX11_fixed_44 : decode cX11_fixed 44 = .ok (.aload_n 0, 1) := by decide +kernel
theorem dX11_fixed_45 : decode cX11_fixed 45 = .ok (.aload_n 0, 1) := by decide +kernel
theorem dX11_fixed_46 : decode cX11_fixed 46 = .ok (.getfield 37, 3) := by decide +kernel
theorem dX11_fixed_49 : decode cX11_fixed 49 = .ok (.iload 6, 2) := by decide +kernel
theorem dX11_fixed_51 : decode cX11_fixed 51 = .ok (.iaload, 1) := by decide +kernel
theorem dX11_fixed_52 : decode cX11_fixed 52 = .ok (.invokevirtual 232, 3) := by decide +kernel
theorem dX11_fixed_55 : decode cX11_fixed 55 = .ok (.ifCond .le 10, 3) := by decide +kernel
theorem dX11_fixed_58 : decode cX11_fixed 58 = .ok (.iload_n 3, 1) := by decide +kernel
theorem dX11_fixed_59 : decode cX11_fixed 59 = .ok (.bipush 100, 2) := by decide +kernel
theorem dX11_fixed_61 : decode cX11_fixed 61 = .ok (.isub, 1) := by decide +kernel
theorem dX11_fixed_62 : decode cX11_fixed 62 = .ok (.goto 5, 3) := by decide +kernel
theorem dX11_fixed_65 : decode cX11_fixed 65 = .ok (.bipush (-100), 2) := by decide +kernel
theorem dX11_fixed_67 : decode cX11_fixed 67 = .ok (.iadd, 1) := by decide +kernel
theorem dX11_fixed_68 : decode cX11_fixed 68 = .ok (.istore 5, 2) := by decide +kernel
theorem dX11_fixed_70 : decode cX11_fixed 70 = .ok (.iload 5, 2) := by decide +kernel
theorem dX11_fixed_72 : decode cX11_fixed 72 = .ok (.iload 4, 2) := by decide +kernel
theorem dX11_fixed_74 : decode cX11_fixed 74 = .ok (.ineg, 1) := by decide +kernel
theorem dX11_fixed_75 : decode cX11_fixed 75 = .ok (.if_icmp .ge 8, 3) := by decide +kernel
theorem dX11_fixed_78 : decode cX11_fixed 78 = .ok (.iload 6, 2) := by decide +kernel
theorem dX11_fixed_80 : decode cX11_fixed 80 = .ok (.iconst 1, 1) := by decide +kernel
theorem dX11_fixed_81 : decode cX11_fixed 81 = .ok (.iadd, 1) := by decide +kernel
theorem dX11_fixed_82 : decode cX11_fixed 82 = .ok (.ireturn, 1) := by decide +kernel
theorem dX11_fixed_83 : decode cX11_fixed 83 = .ok (.iinc 6 1, 3) := by decide +kernel
theorem dX11_fixed_86 : decode cX11_fixed 86 = .ok (.goto (-53), 3) := by decide +kernel
theorem dX11_fixed_89 : decode cX11_fixed 89 = .ok (.aload_n 0, 1) := by decide +kernel
theorem dX11_fixed_90 : decode cX11_fixed 90 = .ok (.getfield 320, 3) := by decide +kernel
theorem dX11_fixed_93 : decode cX11_fixed 93 = .ok (.ireturn, 1) := by decide +kernel
theorem dX11_milesOf_0 : decode cX11_milesOf 0 = .ok (.aload_n 0, 1) := by decide +kernel
theorem dX11_milesOf_1 : decode cX11_milesOf 1 = .ok (.getfield 7, 3) := by decide +kernel
theorem dX11_milesOf_4 : decode cX11_milesOf 4 = .ok (.iload_n 1, 1) := by decide +kernel
theorem dX11_milesOf_5 : decode cX11_milesOf 5 = .ok (.bipush 50, 2) := by decide +kernel
theorem dX11_milesOf_7 : decode cX11_milesOf 7 = .ok (.iadd, 1) := by decide +kernel
theorem dX11_milesOf_8 : decode cX11_milesOf 8 = .ok (.bipush 10, 2) := by decide +kernel
theorem dX11_milesOf_10 : decode cX11_milesOf 10 = .ok (.iload_n 2, 1) := by decide +kernel
theorem dX11_milesOf_11 : decode cX11_milesOf 11 = .ok (.imul, 1) := by decide +kernel
theorem dX11_milesOf_12 : decode cX11_milesOf 12 = .ok (.iadd, 1) := by decide +kernel
theorem dX11_milesOf_13 : decode cX11_milesOf 13 = .ok (.iload_n 3, 1) := by decide +kernel
theorem dX11_milesOf_14 : decode cX11_milesOf 14 = .ok (.iadd, 1) := by decide +kernel
theorem dX11_milesOf_15 : decode cX11_milesOf 15 = .ok (.iaload, 1) := by decide +kernel
theorem dX11_milesOf_16 : decode cX11_milesOf 16 = .ok (.ireturn, 1) := by decide +kernel
theorem dX11_plays_0 : decode cX11_plays 0 = .ok (.aload_n 0, 1) := by decide +kernel
theorem dX11_plays_1 : decode cX11_plays 1 = .ok (.iload_n 1, 1) := by decide +kernel
theorem dX11_plays_2 : decode cX11_plays 2 = .ok (.iload_n 2, 1) := by decide +kernel
theorem dX11_plays_3 : decode cX11_plays 3 = .ok (.iconst 0, 1) := by decide +kernel
theorem dX11_plays_4 : decode cX11_plays 4 = .ok (.invokevirtual 156, 3) := by decide +kernel
theorem dX11_plays_7 : decode cX11_plays 7 = .ok (.iload_n 3, 1) := by decide +kernel
theorem dX11_plays_8 : decode cX11_plays 8 = .ok (.if_icmp .eq 14, 3) := by decide +kernel
theorem dX11_plays_11 : decode cX11_plays 11 = .ok (.aload_n 0, 1) := by decide +kernel
theorem dX11_plays_12 : decode cX11_plays 12 = .ok (.iload_n 1, 1) := by decide +kernel
theorem dX11_plays_13 : decode cX11_plays 13 = .ok (.iload_n 2, 1) := by decide +kernel
theorem dX11_plays_14 : decode cX11_plays 14 = .ok (.iconst 1, 1) := by decide +kernel
theorem dX11_plays_15 : decode cX11_plays 15 = .ok (.invokevirtual 156, 3) := by decide +kernel
theorem dX11_plays_18 : decode cX11_plays 18 = .ok (.iload_n 3, 1) := by decide +kernel
theorem dX11_plays_19 : decode cX11_plays 19 = .ok (.if_icmp .ne 7, 3) := by decide +kernel
theorem dX11_plays_22 : decode cX11_plays 22 = .ok (.iconst 1, 1) := by decide +kernel
theorem dX11_plays_23 : decode cX11_plays 23 = .ok (.goto 4, 3) := by decide +kernel
theorem dX11_plays_26 : decode cX11_plays 26 = .ok (.iconst 0, 1) := by decide +kernel
theorem dX11_plays_27 : decode cX11_plays 27 = .ok (.ireturn, 1) := by decide +kernel
theorem dX11_travelOf_0 : decode cX11_travelOf 0 = .ok (.aload_n 0, 1) := by decide +kernel
theorem dX11_travelOf_1 : decode cX11_travelOf 1 = .ok (.iload_n 1, 1) := by decide +kernel
theorem dX11_travelOf_2 : decode cX11_travelOf 2 = .ok (.iload_n 3, 1) := by decide +kernel
theorem dX11_travelOf_3 : decode cX11_travelOf 3 = .ok (.invokevirtual 159, 3) := by decide +kernel
theorem dX11_travelOf_6 : decode cX11_travelOf 6 = .ok (.istore 4, 2) := by decide +kernel
theorem dX11_travelOf_8 : decode cX11_travelOf 8 = .ok (.iconst 0, 1) := by decide +kernel
theorem dX11_travelOf_9 : decode cX11_travelOf 9 = .ok (.istore 5, 2) := by decide +kernel
theorem dX11_travelOf_11 : decode cX11_travelOf 11 = .ok (.iconst 0, 1) := by decide +kernel
theorem dX11_travelOf_12 : decode cX11_travelOf 12 = .ok (.istore 6, 2) := by decide +kernel
theorem dX11_travelOf_14 : decode cX11_travelOf 14 = .ok (.iload 6, 2) := by decide +kernel
theorem dX11_travelOf_16 : decode cX11_travelOf 16 = .ok (.aload_n 0, 1) := by decide +kernel
theorem dX11_travelOf_17 : decode cX11_travelOf 17 = .ok (.iload_n 2, 1) := by decide +kernel
theorem dX11_travelOf_18 : decode cX11_travelOf 18 = .ok (.invokevirtual 153, 3) := by decide +kernel
theorem dX11_travelOf_21 : decode cX11_travelOf 21 = .ok (.if_icmp .ge 51, 3) := by decide +kernel
theorem dX11_travelOf_24 : decode cX11_travelOf 24 = .ok (.aload_n 0, 1) := by decide +kernel
theorem dX11_travelOf_25 : decode cX11_travelOf 25 = .ok (.iload_n 2, 1) := by decide +kernel
theorem dX11_travelOf_26 : decode cX11_travelOf 26 = .ok (.iload 6, 2) := by decide +kernel
theorem dX11_travelOf_28 : decode cX11_travelOf 28 = .ok (.iload_n 3, 1) := by decide +kernel
theorem dX11_travelOf_29 : decode cX11_travelOf 29 = .ok (.invokevirtual 329, 3) := by decide +kernel
theorem dX11_travelOf_32 : decode cX11_travelOf 32 = .ok (.ifCond .ne 6, 3) := by decide +kernel
theorem dX11_travelOf_35 : decode cX11_travelOf 35 = .ok (.goto 31, 3) := by decide +kernel
theorem dX11_travelOf_38 : decode cX11_travelOf 38 = .ok (.aload_n 0, 1) := by decide +kernel
theorem dX11_travelOf_39 : decode cX11_travelOf 39 = .ok (.iload_n 1, 1) := by decide +kernel
theorem dX11_travelOf_40 : decode cX11_travelOf 40 = .ok (.iload_n 2, 1) := by decide +kernel
theorem dX11_travelOf_41 : decode cX11_travelOf 41 = .ok (.iload 6, 2) := by decide +kernel
theorem dX11_travelOf_43 : decode cX11_travelOf 43 = .ok (.invokevirtual 162, 3) := by decide +kernel
theorem dX11_travelOf_46 : decode cX11_travelOf 46 = .ok (.istore 7, 2) := by decide +kernel
theorem dX11_travelOf_48 : decode cX11_travelOf 48 = .ok (.iload 5, 2) := by decide +kernel
theorem dX11_travelOf_50 : decode cX11_travelOf 50 = .ok (.aload_n 0, 1) := by decide +kernel
theorem dX11_travelOf_51 : decode cX11_travelOf 51 = .ok (.iload_n 1, 1) := by decide +kernel
theorem dX11_travelOf_52 : decode cX11_travelOf 52 = .ok (.iload 4, 2) := by decide +kernel
theorem dX11_travelOf_54 : decode cX11_travelOf 54 = .ok (.iload 7, 2) := by decide +kernel
theorem dX11_travelOf_56 : decode cX11_travelOf 56 = .ok (.invokevirtual 332, 3) := by decide +kernel
theorem dX11_travelOf_59 : decode cX11_travelOf 59 = .ok (.iadd, 1) := by decide +kernel
theorem dX11_travelOf_60 : decode cX11_travelOf 60 = .ok (.istore 5, 2) := by decide +kernel
theorem dX11_travelOf_62 : decode cX11_travelOf 62 = .ok (.iload 7, 2) := by decide +kernel
theorem dX11_travelOf_64 : decode cX11_travelOf 64 = .ok (.istore 4, 2) := by decide +kernel
theorem dX11_travelOf_66 : decode cX11_travelOf 66 = .ok (.iinc 6 1, 3) := by decide +kernel
theorem dX11_travelOf_69 : decode cX11_travelOf 69 = .ok (.goto (-55), 3) := by decide +kernel
theorem dX11_travelOf_72 : decode cX11_travelOf 72 = .ok (.iload 5, 2) := by decide +kernel
theorem dX11_travelOf_74 : decode cX11_travelOf 74 = .ok (.aload_n 0, 1) := by decide +kernel
theorem dX11_travelOf_75 : decode cX11_travelOf 75 = .ok (.iload_n 1, 1) := by decide +kernel
theorem dX11_travelOf_76 : decode cX11_travelOf 76 = .ok (.iload 4, 2) := by decide +kernel
theorem dX11_travelOf_78 : decode cX11_travelOf 78 = .ok (.aload_n 0, 1) := by decide +kernel
theorem dX11_travelOf_79 : decode cX11_travelOf 79 = .ok (.iload_n 1, 1) := by decide +kernel
theorem dX11_travelOf_80 : decode cX11_travelOf 80 = .ok (.iload_n 3, 1) := by decide +kernel
theorem dX11_travelOf_81 : decode cX11_travelOf 81 = .ok (.invokevirtual 159, 3) := by decide +kernel
theorem dX11_travelOf_84 : decode cX11_travelOf 84 = .ok (.invokevirtual 332, 3) := by decide +kernel
theorem dX11_travelOf_87 : decode cX11_travelOf 87 = .ok (.iadd, 1) := by decide +kernel
theorem dX11_travelOf_88 : decode cX11_travelOf 88 = .ok (.ireturn, 1) := by decide +kernel
theorem dX11_travelAll_0 : decode cX11_travelAll 0 = .ok (.iconst 0, 1) := by decide +kernel
theorem dX11_travelAll_1 : decode cX11_travelAll 1 = .ok (.istore_n 3, 1) := by decide +kernel
theorem dX11_travelAll_2 : decode cX11_travelAll 2 = .ok (.iconst 0, 1) := by decide +kernel
theorem dX11_travelAll_3 : decode cX11_travelAll 3 = .ok (.istore 4, 2) := by decide +kernel
theorem dX11_travelAll_5 : decode cX11_travelAll 5 = .ok (.iload 4, 2) := by decide +kernel
theorem dX11_travelAll_7 : decode cX11_travelAll 7 = .ok (.aload_n 0, 1) := by decide +kernel
theorem dX11_travelAll_8 : decode cX11_travelAll 8 = .ok (.getfield 7, 3) := by decide +kernel
theorem dX11_travelAll_11 : decode cX11_travelAll 11 = .ok (.iload_n 1, 1) := by decide +kernel
theorem dX11_travelAll_12 : decode cX11_travelAll 12 = .ok (.iconst 1, 1) := by decide +kernel
theorem dX11_travelAll_13 : decode cX11_travelAll 13 = .ok (.iadd, 1) := by decide +kernel
theorem dX11_travelAll_14 : decode cX11_travelAll 14 = .ok (.iaload, 1) := by decide +kernel
theorem dX11_travelAll_15 : decode cX11_travelAll 15 = .ok (.if_icmp .ge 20, 3) := by decide +kernel
theorem dX11_travelAll_18 : decode cX11_travelAll 18 = .ok (.iload_n 3, 1) := by decide +kernel
theorem dX11_travelAll_19 : decode cX11_travelAll 19 = .ok (.aload_n 0, 1) := by decide +kernel
theorem dX11_travelAll_20 : decode cX11_travelAll 20 = .ok (.iload_n 1, 1) := by decide +kernel
theorem dX11_travelAll_21 : decode cX11_travelAll 21 = .ok (.iload_n 2, 1) := by decide +kernel
theorem dX11_travelAll_22 : decode cX11_travelAll 22 = .ok (.iload 4, 2) := by decide +kernel
theorem dX11_travelAll_24 : decode cX11_travelAll 24 = .ok (.invokevirtual 335, 3) := by decide +kernel
theorem dX11_travelAll_27 : decode cX11_travelAll 27 = .ok (.iadd, 1) := by decide +kernel
theorem dX11_travelAll_28 : decode cX11_travelAll 28 = .ok (.istore_n 3, 1) := by decide +kernel
theorem dX11_travelAll_29 : decode cX11_travelAll 29 = .ok (.iinc 4 1, 3) := by decide +kernel
theorem dX11_travelAll_32 : decode cX11_travelAll 32 = .ok (.goto (-27), 3) := by decide +kernel
theorem dX11_travelAll_35 : decode cX11_travelAll 35 = .ok (.iload_n 3, 1) := by decide +kernel
theorem dX11_travelAll_36 : decode cX11_travelAll 36 = .ok (.ireturn, 1) := by decide +kernel
theorem dX11_travel_0 : decode cX11_travel 0 = .ok (.aload_n 0, 1) := by decide +kernel
theorem dX11_travel_1 : decode cX11_travel 1 = .ok (.iload_n 1, 1) := by decide +kernel
theorem dX11_travel_2 : decode cX11_travel 2 = .ok (.iload_n 2, 1) := by decide +kernel
theorem dX11_travel_3 : decode cX11_travel 3 = .ok (.invokevirtual 199, 3) := by decide +kernel
theorem dX11_travel_6 : decode cX11_travel 6 = .ok (.ifCond .eq 25, 3) := by decide +kernel
theorem dX11_travel_9 : decode cX11_travel 9 = .ok (.iload_n 3, 1) := by decide +kernel
theorem dX11_travel_10 : decode cX11_travel 10 = .ok (.iconst 0, 1) := by decide +kernel
theorem dX11_travel_11 : decode cX11_travel 11 = .ok (.aload_n 0, 1) := by decide +kernel
theorem dX11_travel_12 : decode cX11_travel 12 = .ok (.getfield 7, 3) := by decide +kernel
theorem dX11_travel_15 : decode cX11_travel 15 = .ok (.iconst 0, 1) := by decide +kernel
theorem dX11_travel_16 : decode cX11_travel 16 = .ok (.iload_n 1, 1) := by decide +kernel
theorem dX11_travel_17 : decode cX11_travel 17 = .ok (.invokestatic 150, 3) := by decide +kernel
theorem dX11_travel_20 : decode cX11_travel 20 = .ok (.iconst 1, 1) := by decide +kernel
theorem dX11_travel_21 : decode cX11_travel 21 = .ok (.iadd, 1) := by decide +kernel
theorem dX11_travel_22 : decode cX11_travel 22 = .ok (.iaload, 1) := by decide +kernel
theorem dX11_travel_23 : decode cX11_travel 23 = .ok (.iconst 1, 1) := by decide +kernel
theorem dX11_travel_24 : decode cX11_travel 24 = .ok (.isub, 1) := by decide +kernel
theorem dX11_travel_25 : decode cX11_travel 25 = .ok (.invokestatic 90, 3) := by decide +kernel
theorem dX11_travel_28 : decode cX11_travel 28 = .ok (.ifCond .ne 5, 3) := by decide +kernel
theorem dX11_travel_31 : decode cX11_travel 31 = .ok (.iconst (-1), 1) := by decide +kernel
theorem dX11_travel_32 : decode cX11_travel 32 = .ok (.ireturn, 1) := by decide +kernel
theorem dX11_travel_33 : decode cX11_travel 33 = .ok (.aload_n 0, 1) := by decide +kernel
theorem dX11_travel_34 : decode cX11_travel 34 = .ok (.iconst 0, 1) := by decide +kernel
theorem dX11_travel_35 : decode cX11_travel 35 = .ok (.iload_n 1, 1) := by decide +kernel
theorem dX11_travel_36 : decode cX11_travel 36 = .ok (.invokestatic 150, 3) := by decide +kernel
theorem dX11_travel_39 : decode cX11_travel 39 = .ok (.iload_n 2, 1) := by decide +kernel
theorem dX11_travel_40 : decode cX11_travel 40 = .ok (.iload_n 3, 1) := by decide +kernel
theorem dX11_travel_41 : decode cX11_travel 41 = .ok (.invokevirtual 335, 3) := by decide +kernel
theorem dX11_travel_44 : decode cX11_travel 44 = .ok (.ireturn, 1) := by decide +kernel
theorem dX11_runs_0 : decode cX11_runs 0 = .ok (.aload_n 0, 1) := by decide +kernel
theorem dX11_runs_1 : decode cX11_runs 1 = .ok (.iconst 2, 1) := by decide +kernel
theorem dX11_runs_2 : decode cX11_runs 2 = .ok (.iload_n 1, 1) := by decide +kernel
theorem dX11_runs_3 : decode cX11_runs 3 = .ok (.invokevirtual 130, 3) := by decide +kernel
theorem dX11_runs_6 : decode cX11_runs 6 = .ok (.ifCond .eq 13, 3) := by decide +kernel
theorem dX11_runs_9 : decode cX11_runs 9 = .ok (.iload_n 2, 1) := by decide +kernel
theorem dX11_runs_10 : decode cX11_runs 10 = .ok (.iconst 0, 1) := by decide +kernel
theorem dX11_runs_11 : decode cX11_runs 11 = .ok (.bipush 7, 2) := by decide +kernel
theorem dX11_runs_13 : decode cX11_runs 13 = .ok (.invokestatic 90, 3) := by decide +kernel
theorem dX11_runs_16 : decode cX11_runs 16 = .ok (.ifCond .ne 5, 3) := by decide +kernel
theorem dX11_runs_19 : decode cX11_runs 19 = .ok (.iconst (-1), 1) := by decide +kernel
theorem dX11_runs_20 : decode cX11_runs 20 = .ok (.ireturn, 1) := by decide +kernel
theorem dX11_runs_21 : decode cX11_runs 21 = .ok (.iconst 0, 1) := by decide +kernel
theorem dX11_runs_22 : decode cX11_runs 22 = .ok (.istore 4, 2) := by decide +kernel
theorem dX11_runs_24 : decode cX11_runs 24 = .ok (.iconst 0, 1) := by decide +kernel
theorem dX11_runs_25 : decode cX11_runs 25 = .ok (.istore 5, 2) := by decide +kernel
theorem dX11_runs_27 : decode cX11_runs 27 = .ok (.iconst 0, 1) := by decide +kernel
theorem dX11_runs_28 : decode cX11_runs 28 = .ok (.istore 6, 2) := by decide +kernel
theorem dX11_runs_30 : decode cX11_runs 30 = .ok (.iload 6, 2) := by decide +kernel
theorem dX11_runs_32 : decode cX11_runs 32 = .ok (.aload_n 0, 1) := by decide +kernel
theorem dX11_runs_33 : decode cX11_runs 33 = .ok (.iload_n 1, 1) := by decide +kernel
theorem dX11_runs_34 : decode cX11_runs 34 = .ok (.invokevirtual 153, 3) := by decide +kernel
theorem dX11_runs_37 : decode cX11_runs 37 = .ok (.if_icmp .ge 70, 3) := by decide +kernel
theorem dX11_runs_40 : decode cX11_runs 40 = .ok (.aload_n 0, 1) := by decide +kernel
theorem dX11_runs_41 : decode cX11_runs 41 = .ok (.iload_n 1, 1) := by decide +kernel
theorem dX11_runs_42 : decode cX11_runs 42 = .ok (.iload 6, 2) := by decide +kernel
theorem dX11_runs_44 : decode cX11_runs 44 = .ok (.iload_n 2, 1) := by decide +kernel
theorem dX11_runs_45 : decode cX11_runs 45 = .ok (.invokevirtual 329, 3) := by decide +kernel
theorem dX11_runs_48 : decode cX11_runs 48 = .ok (.ifCond .ne 6, 3) := by decide +kernel
theorem dX11_runs_51 : decode cX11_runs 51 = .ok (.goto 50, 3) := by decide +kernel
theorem dX11_runs_54 : decode cX11_runs 54 = .ok (.aload_n 0, 1) := by decide +kernel
theorem dX11_runs_55 : decode cX11_runs 55 = .ok (.iload_n 1, 1) := by decide +kernel
theorem dX11_runs_56 : decode cX11_runs 56 = .ok (.iload 6, 2) := by decide +kernel
theorem dX11_runs_58 : decode cX11_runs 58 = .ok (.iconst 0, 1) := by decide +kernel
theorem dX11_runs_59 : decode cX11_runs 59 = .ok (.invokevirtual 156, 3) := by decide +kernel
theorem dX11_runs_62 : decode cX11_runs 62 = .ok (.iload_n 2, 1) := by decide +kernel
theorem dX11_runs_63 : decode cX11_runs 63 = .ok (.if_icmp .ne 7, 3) := by decide +kernel
theorem dX11_runs_66 : decode cX11_runs 66 = .ok (.iconst 1, 1) := by decide +kernel
theorem dX11_runs_67 : decode cX11_runs 67 = .ok (.goto 4, 3) := by decide +kernel
theorem dX11_runs_70 : decode cX11_runs 70 = .ok (.iconst 0, 1) := by decide +kernel
theorem dX11_runs_71 : decode cX11_runs 71 = .ok (.iload_n 3, 1) := by decide +kernel
theorem dX11_runs_72 : decode cX11_runs 72 = .ok (.if_icmp .ne 10, 3) := by decide +kernel
theorem dX11_runs_75 : decode cX11_runs 75 = .ok (.iload 4, 2) := by decide +kernel
theorem dX11_runs_77 : decode cX11_runs 77 = .ok (.iconst 1, 1) := by decide +kernel
theorem dX11_runs_78 : decode cX11_runs 78 = .ok (.iadd, 1) := by decide +kernel
theorem dX11_runs_79 : decode cX11_runs 79 = .ok (.goto 4, 3) := by decide +kernel
theorem dX11_runs_82 : decode cX11_runs 82 = .ok (.iconst 0, 1) := by decide +kernel
theorem dX11_runs_83 : decode cX11_runs 83 = .ok (.istore 4, 2) := by decide +kernel
theorem dX11_runs_85 : decode cX11_runs 85 = .ok (.iload 4, 2) := by decide +kernel
theorem dX11_runs_87 : decode cX11_runs 87 = .ok (.iload 5, 2) := by decide +kernel
theorem dX11_runs_89 : decode cX11_runs 89 = .ok (.if_icmp .le 8, 3) := by decide +kernel
theorem dX11_runs_92 : decode cX11_runs 92 = .ok (.iload 4, 2) := by decide +kernel
theorem dX11_runs_94 : decode cX11_runs 94 = .ok (.goto 5, 3) := by decide +kernel
theorem dX11_runs_97 : decode cX11_runs 97 = .ok (.iload 5, 2) := by decide +kernel
theorem dX11_runs_99 : decode cX11_runs 99 = .ok (.istore 5, 2) := by decide +kernel
theorem dX11_runs_101 : decode cX11_runs 101 = .ok (.iinc 6 1, 3) := by decide +kernel
theorem dX11_runs_104 : decode cX11_runs 104 = .ok (.goto (-74), 3) := by decide +kernel
theorem dX11_runs_107 : decode cX11_runs 107 = .ok (.iload 5, 2) := by decide +kernel
theorem dX11_runs_109 : decode cX11_runs 109 = .ok (.ireturn, 1) := by decide +kernel
theorem dX11_early_0 : decode cX11_early 0 = .ok (.aload_n 0, 1) := by decide +kernel
theorem dX11_early_1 : decode cX11_early 1 = .ok (.iload_n 1, 1) := by decide +kernel
theorem dX11_early_2 : decode cX11_early 2 = .ok (.iload_n 2, 1) := by decide +kernel
theorem dX11_early_3 : decode cX11_early 3 = .ok (.invokevirtual 199, 3) := by decide +kernel
theorem dX11_early_6 : decode cX11_early 6 = .ok (.ifCond .eq 16, 3) := by decide +kernel
theorem dX11_early_9 : decode cX11_early 9 = .ok (.iload_n 3, 1) := by decide +kernel
theorem dX11_early_10 : decode cX11_early 10 = .ok (.iconst 0, 1) := by decide +kernel
theorem dX11_early_11 : decode cX11_early 11 = .ok (.aload_n 0, 1) := by decide +kernel
theorem dX11_early_12 : decode cX11_early 12 = .ok (.iload_n 2, 1) := by decide +kernel
theorem dX11_early_13 : decode cX11_early 13 = .ok (.invokevirtual 153, 3) := by decide +kernel
theorem dX11_early_16 : decode cX11_early 16 = .ok (.invokestatic 90, 3) := by decide +kernel
theorem dX11_early_19 : decode cX11_early 19 = .ok (.ifCond .ne 7, 3) := by decide +kernel
theorem dX11_early_22 : decode cX11_early 22 = .ok (.ldc_w 260, 3) := by decide +kernel
theorem dX11_early_25 : decode cX11_early 25 = .ok (.ireturn, 1) := by decide +kernel
theorem dX11_early_26 : decode cX11_early 26 = .ok (.iconst 0, 1) := by decide +kernel
theorem dX11_early_27 : decode cX11_early 27 = .ok (.iload_n 1, 1) := by decide +kernel
theorem dX11_early_28 : decode cX11_early 28 = .ok (.invokestatic 150, 3) := by decide +kernel
theorem dX11_early_31 : decode cX11_early 31 = .ok (.istore 4, 2) := by decide +kernel
theorem dX11_early_33 : decode cX11_early 33 = .ok (.iconst 0, 1) := by decide +kernel
theorem dX11_early_34 : decode cX11_early 34 = .ok (.istore 5, 2) := by decide +kernel
theorem dX11_early_36 : decode cX11_early 36 = .ok (.iconst 0, 1) := by decide +kernel
theorem dX11_early_37 : decode cX11_early 37 = .ok (.istore 6, 2) := by decide +kernel
theorem dX11_early_39 : decode cX11_early 39 = .ok (.iload 6, 2) := by decide +kernel
theorem dX11_early_41 : decode cX11_early 41 = .ok (.iload_n 3, 1) := by decide +kernel
theorem dX11_early_42 : decode cX11_early 42 = .ok (.if_icmp .ge 53, 3) := by decide +kernel
theorem dX11_early_45 : decode cX11_early 45 = .ok (.iload 5, 2) := by decide +kernel
theorem dX11_early_47 : decode cX11_early 47 = .ok (.aload_n 0, 1) := by decide +kernel
theorem dX11_early_48 : decode cX11_early 48 = .ok (.getfield 7, 3) := by decide +kernel
theorem dX11_early_51 : decode cX11_early 51 = .ok (.iload 4, 2) := by decide +kernel
theorem dX11_early_53 : decode cX11_early 53 = .ok (.bipush 40, 2) := by decide +kernel
theorem dX11_early_55 : decode cX11_early 55 = .ok (.iadd, 1) := by decide +kernel
theorem dX11_early_56 : decode cX11_early 56 = .ok (.aload_n 0, 1) := by decide +kernel
theorem dX11_early_57 : decode cX11_early 57 = .ok (.iload_n 2, 1) := by decide +kernel
theorem dX11_early_58 : decode cX11_early 58 = .ok (.iload 6, 2) := by decide +kernel
theorem dX11_early_60 : decode cX11_early 60 = .ok (.iconst 0, 1) := by decide +kernel
theorem dX11_early_61 : decode cX11_early 61 = .ok (.invokevirtual 156, 3) := by decide +kernel
theorem dX11_early_64 : decode cX11_early 64 = .ok (.iadd, 1) := by decide +kernel
theorem dX11_early_65 : decode cX11_early 65 = .ok (.iaload, 1) := by decide +kernel
theorem dX11_early_66 : decode cX11_early 66 = .ok (.aload_n 0, 1) := by decide +kernel
theorem dX11_early_67 : decode cX11_early 67 = .ok (.getfield 7, 3) := by decide +kernel
theorem dX11_early_70 : decode cX11_early 70 = .ok (.iload 4, 2) := by decide +kernel
theorem dX11_early_72 : decode cX11_early 72 = .ok (.bipush 40, 2) := by decide +kernel
theorem dX11_early_74 : decode cX11_early 74 = .ok (.iadd, 1) := by decide +kernel
theorem dX11_early_75 : decode cX11_early 75 = .ok (.aload_n 0, 1) := by decide +kernel
theorem dX11_early_76 : decode cX11_early 76 = .ok (.iload_n 2, 1) := by decide +kernel
theorem dX11_early_77 : decode cX11_early 77 = .ok (.iload 6, 2) := by decide +kernel
theorem dX11_early_79 : decode cX11_early 79 = .ok (.iconst 1, 1) := by decide +kernel
theorem dX11_early_80 : decode cX11_early 80 = .ok (.invokevirtual 156, 3) := by decide +kernel
theorem dX11_early_83 : decode cX11_early 83 = .ok (.iadd, 1) := by decide +kernel
theorem dX11_early_84 : decode cX11_early 84 = .ok (.iaload, 1) := by decide +kernel
theorem dX11_early_85 : decode cX11_early 85 = .ok (.isub, 1) := by decide +kernel
theorem dX11_early_86 : decode cX11_early 86 = .ok (.iadd, 1) := by decide +kernel
theorem dX11_early_87 : decode cX11_early 87 = .ok (.istore 5, 2) := by decide +kernel
theorem dX11_early_89 : decode cX11_early 89 = .ok (.iinc 6 1, 3) := by decide +kernel
theorem dX11_early_92 : decode cX11_early 92 = .ok (.goto (-53), 3) := by decide +kernel
theorem dX11_early_95 : decode cX11_early 95 = .ok (.iload 5, 2) := by decide +kernel
theorem dX11_early_97 : decode cX11_early 97 = .ok (.ireturn, 1) := by decide +kernel
theorem dX11_uneven_0 : decode cX11_uneven 0 = .ok (.aload_n 0, 1) := by decide +kernel
theorem dX11_uneven_1 : decode cX11_uneven 1 = .ok (.iconst 2, 1) := by decide +kernel
theorem dX11_uneven_2 : decode cX11_uneven 2 = .ok (.iload_n 1, 1) := by decide +kernel
theorem dX11_uneven_3 : decode cX11_uneven 3 = .ok (.invokevirtual 130, 3) := by decide +kernel
theorem dX11_uneven_6 : decode cX11_uneven 6 = .ok (.ifCond .ne 5, 3) := by decide +kernel
theorem dX11_uneven_9 : decode cX11_uneven 9 = .ok (.iconst (-1), 1) := by decide +kernel
theorem dX11_uneven_10 : decode cX11_uneven 10 = .ok (.ireturn, 1) := by decide +kernel
theorem dX11_uneven_11 : decode cX11_uneven 11 = .ok (.iconst 0, 1) := by decide +kernel
theorem dX11_uneven_12 : decode cX11_uneven 12 = .ok (.istore_n 2, 1) := by decide +kernel
theorem dX11_uneven_13 : decode cX11_uneven 13 = .ok (.iconst 0, 1) := by decide +kernel
theorem dX11_uneven_14 : decode cX11_uneven 14 = .ok (.istore_n 3, 1) := by decide +kernel
theorem dX11_uneven_15 : decode cX11_uneven 15 = .ok (.iload_n 3, 1) := by decide +kernel
theorem dX11_uneven_16 : decode cX11_uneven 16 = .ok (.bipush 8, 2) := by decide +kernel
theorem dX11_uneven_18 : decode cX11_uneven 18 = .ok (.if_icmp .ge 104, 3) := by decide +kernel
theorem dX11_uneven_21 : decode cX11_uneven 21 = .ok (.iconst 0, 1) := by decide +kernel
theorem dX11_uneven_22 : decode cX11_uneven 22 = .ok (.istore 4, 2) := by decide +kernel
theorem dX11_uneven_24 : decode cX11_uneven 24 = .ok (.iload 4, 2) := by decide +kernel
theorem dX11_uneven_26 : decode cX11_uneven 26 = .ok (.iload_n 3, 1) := by decide +kernel
theorem dX11_uneven_27 : decode cX11_uneven 27 = .ok (.if_icmp .ge 89, 3) := by decide +kernel
theorem dX11_uneven_30 : decode cX11_uneven 30 = .ok (.iconst 0, 1) := by decide +kernel
theorem dX11_uneven_31 : decode cX11_uneven 31 = .ok (.istore 5, 2) := by decide +kernel
theorem dX11_uneven_33 : decode cX11_uneven 33 = .ok (.iconst 0, 1) := by decide +kernel
theorem dX11_uneven_34 : decode cX11_uneven 34 = .ok (.istore 6, 2) := by decide +kernel
theorem dX11_uneven_36 : decode cX11_uneven 36 = .ok (.iload 6, 2) := by decide +kernel
theorem dX11_uneven_38 : decode cX11_uneven 38 = .ok (.aload_n 0, 1) := by decide +kernel
theorem dX11_uneven_39 : decode cX11_uneven 39 = .ok (.iload_n 1, 1) := by decide +kernel
theorem dX11_uneven_40 : decode cX11_uneven 40 = .ok (.invokevirtual 153, 3) := by decide +kernel
theorem dX11_uneven_43 : decode cX11_uneven 43 = .ok (.if_icmp .ge 54, 3) := by decide +kernel
theorem dX11_uneven_46 : decode cX11_uneven 46 = .ok (.aload_n 0, 1) := by decide +kernel
theorem dX11_uneven_47 : decode cX11_uneven 47 = .ok (.iload_n 1, 1) := by decide +kernel
theorem dX11_uneven_48 : decode cX11_uneven 48 = .ok (.iload 6, 2) := by decide +kernel
theorem dX11_uneven_50 : decode cX11_uneven 50 = .ok (.iload_n 3, 1) := by decide +kernel
theorem dX11_uneven_51 : decode cX11_uneven 51 = .ok (.invokevirtual 329, 3) := by decide +kernel
theorem dX11_uneven_54 : decode cX11_uneven 54 = .ok (.ifCond .eq 37, 3) := by decide +kernel
theorem dX11_uneven_57 : decode cX11_uneven 57 = .ok (.aload_n 0, 1) := by decide +kernel
theorem dX11_uneven_58 : decode cX11_uneven 58 = .ok (.iload_n 1, 1) := by decide +kernel
theorem dX11_uneven_59 : decode cX11_uneven 59 = .ok (.iload 6, 2) := by decide +kernel
theorem dX11_uneven_61 : decode cX11_uneven 61 = .ok (.iload 4, 2) := by decide +kernel
theorem dX11_uneven_63 : decode cX11_uneven 63 = .ok (.invokevirtual 329, 3) := by decide +kernel
theorem dX11_uneven_66 : decode cX11_uneven 66 = .ok (.ifCond .eq 25, 3) := by decide +kernel
theorem dX11_uneven_69 : decode cX11_uneven 69 = .ok (.iload 5, 2) := by decide +kernel
theorem dX11_uneven_71 : decode cX11_uneven 71 = .ok (.aload_n 0, 1) := by decide +kernel
theorem dX11_uneven_72 : decode cX11_uneven 72 = .ok (.iload_n 1, 1) := by decide +kernel
theorem dX11_uneven_73 : decode cX11_uneven 73 = .ok (.iload 6, 2) := by decide +kernel
theorem dX11_uneven_75 : decode cX11_uneven 75 = .ok (.iconst 0, 1) := by decide +kernel
theorem dX11_uneven_76 : decode cX11_uneven 76 = .ok (.invokevirtual 156, 3) := by decide +kernel
theorem dX11_uneven_79 : decode cX11_uneven 79 = .ok (.iload_n 3, 1) := by decide +kernel
theorem dX11_uneven_80 : decode cX11_uneven 80 = .ok (.if_icmp .ne 7, 3) := by decide +kernel
theorem dX11_uneven_83 : decode cX11_uneven 83 = .ok (.iconst 1, 1) := by decide +kernel
theorem dX11_uneven_84 : decode cX11_uneven 84 = .ok (.goto 4, 3) := by decide +kernel
theorem dX11_uneven_87 : decode cX11_uneven 87 = .ok (.iconst (-1), 1) := by decide +kernel
theorem dX11_uneven_88 : decode cX11_uneven 88 = .ok (.iadd, 1) := by decide +kernel
theorem dX11_uneven_89 : decode cX11_uneven 89 = .ok (.istore 5, 2) := by decide +kernel
theorem dX11_uneven_91 : decode cX11_uneven 91 = .ok (.iinc 6 1, 3) := by decide +kernel
theorem dX11_uneven_94 : decode cX11_uneven 94 = .ok (.goto (-58), 3) := by decide +kernel
theorem dX11_uneven_97 : decode cX11_uneven 97 = .ok (.iload_n 2, 1) := by decide +kernel
theorem dX11_uneven_98 : decode cX11_uneven 98 = .ok (.iload 5, 2) := by decide +kernel
theorem dX11_uneven_100 : decode cX11_uneven 100 = .ok (.ifCond .ne 7, 3) := by decide +kernel
theorem dX11_uneven_103 : decode cX11_uneven 103 = .ok (.iconst 0, 1) := by decide +kernel
theorem dX11_uneven_104 : decode cX11_uneven 104 = .ok (.goto 4, 3) := by decide +kernel
theorem dX11_uneven_107 : decode cX11_uneven 107 = .ok (.iconst 1, 1) := by decide +kernel
theorem dX11_uneven_108 : decode cX11_uneven 108 = .ok (.iadd, 1) := by decide +kernel
theorem dX11_uneven_109 : decode cX11_uneven 109 = .ok (.istore_n 2, 1) := by decide +kernel
theorem dX11_uneven_110 : decode cX11_uneven 110 = .ok (.iinc 4 1, 3) := by decide +kernel
theorem dX11_uneven_113 : decode cX11_uneven 113 = .ok (.goto (-89), 3) := by decide +kernel
theorem dX11_uneven_116 : decode cX11_uneven 116 = .ok (.iinc 3 1, 3) := by decide +kernel
theorem dX11_uneven_119 : decode cX11_uneven 119 = .ok (.goto (-104), 3) := by decide +kernel
theorem dX11_uneven_122 : decode cX11_uneven 122 = .ok (.iload_n 2, 1) := by decide +kernel
theorem dX11_uneven_123 : decode cX11_uneven 123 = .ok (.ireturn, 1) := by decide +kernel
theorem dX11_exchanges_0 : decode cX11_exchanges 0 = .ok (.iconst 2, 1) := by decide +kernel
theorem dX11_exchanges_1 : decode cX11_exchanges 1 = .ok (.iload_n 1, 1) := by decide +kernel
theorem dX11_exchanges_2 : decode cX11_exchanges 2 = .ok (.invokestatic 150, 3) := by decide +kernel
theorem dX11_exchanges_5 : decode cX11_exchanges 5 = .ok (.iconst 1, 1) := by decide +kernel
theorem dX11_exchanges_6 : decode cX11_exchanges 6 = .ok (.iadd, 1) := by decide +kernel
theorem dX11_exchanges_7 : decode cX11_exchanges 7 = .ok (.bipush 6, 2) := by decide +kernel
theorem dX11_exchanges_9 : decode cX11_exchanges 9 = .ok (.iload_n 2, 1) := by decide +kernel
theorem dX11_exchanges_10 : decode cX11_exchanges 10 = .ok (.imul, 1) := by decide +kernel
theorem dX11_exchanges_11 : decode cX11_exchanges 11 = .ok (.iadd, 1) := by decide +kernel
theorem dX11_exchanges_12 : decode cX11_exchanges 12 = .ok (.istore_n 3, 1) := by decide +kernel
theorem dX11_exchanges_13 : decode cX11_exchanges 13 = .ok (.aload_n 0, 1) := by decide +kernel
theorem dX11_exchanges_14 : decode cX11_exchanges 14 = .ok (.getfield 7, 3) := by decide +kernel
theorem dX11_exchanges_17 : decode cX11_exchanges 17 = .ok (.iload_n 3, 1) := by decide +kernel
theorem dX11_exchanges_18 : decode cX11_exchanges 18 = .ok (.iaload, 1) := by decide +kernel
theorem dX11_exchanges_19 : decode cX11_exchanges 19 = .ok (.istore 4, 2) := by decide +kernel
theorem dX11_exchanges_21 : decode cX11_exchanges 21 = .ok (.aload_n 0, 1) := by decide +kernel
theorem dX11_exchanges_22 : decode cX11_exchanges 22 = .ok (.getfield 7, 3) := by decide +kernel
theorem dX11_exchanges_25 : decode cX11_exchanges 25 = .ok (.iload_n 3, 1) := by decide +kernel
theorem dX11_exchanges_26 : decode cX11_exchanges 26 = .ok (.aload_n 0, 1) := by decide +kernel
theorem dX11_exchanges_27 : decode cX11_exchanges 27 = .ok (.getfield 7, 3) := by decide +kernel
theorem dX11_exchanges_30 : decode cX11_exchanges 30 = .ok (.iload_n 3, 1) := by decide +kernel
theorem dX11_exchanges_31 : decode cX11_exchanges 31 = .ok (.iconst 1, 1) := by decide +kernel
theorem dX11_exchanges_32 : decode cX11_exchanges 32 = .ok (.iadd, 1) := by decide +kernel
theorem dX11_exchanges_33 : decode cX11_exchanges 33 = .ok (.iaload, 1) := by decide +kernel
theorem dX11_exchanges_34 : decode cX11_exchanges 34 = .ok (.iastore, 1) := by decide +kernel
theorem dX11_exchanges_35 : decode cX11_exchanges 35 = .ok (.aload_n 0, 1) := by decide +kernel
theorem dX11_exchanges_36 : decode cX11_exchanges 36 = .ok (.getfield 7, 3) := by decide +kernel
theorem dX11_exchanges_39 : decode cX11_exchanges 39 = .ok (.iload_n 3, 1) := by decide +kernel
theorem dX11_exchanges_40 : decode cX11_exchanges 40 = .ok (.iconst 1, 1) := by decide +kernel
theorem dX11_exchanges_41 : decode cX11_exchanges 41 = .ok (.iadd, 1) := by decide +kernel
theorem dX11_exchanges_42 : decode cX11_exchanges 42 = .ok (.iload 4, 2) := by decide +kernel
theorem dX11_exchanges_44 : decode cX11_exchanges 44 = .ok (.iastore, 1) := by decide +kernel
theorem dX11_exchanges_45 : decode cX11_exchanges 45 = .ok (.return_, 1) := by decide +kernel
theorem dX11_turned_0 : decode cX11_turned 0 = .ok (.aload_n 0, 1) := by decide +kernel
theorem dX11_turned_1 : decode cX11_turned 1 = .ok (.iload_n 1, 1) := by decide +kernel
theorem dX11_turned_2 : decode cX11_turned 2 = .ok (.iload_n 2, 1) := by decide +kernel
theorem dX11_turned_3 : decode cX11_turned 3 = .ok (.invokevirtual 199, 3) := by decide +kernel
theorem dX11_turned_6 : decode cX11_turned 6 = .ok (.ifCond .ne 5, 3) := by decide +kernel
theorem dX11_turned_9 : decode cX11_turned 9 = .ok (.iconst (-1), 1) := by decide +kernel
theorem dX11_turned_10 : decode cX11_turned 10 = .ok (.ireturn, 1) := by decide +kernel
theorem dX11_turned_11 : decode cX11_turned 11 = .ok (.iconst 0, 1) := by decide +kernel
theorem dX11_turned_12 : decode cX11_turned 12 = .ok (.iload_n 1, 1) := by decide +kernel
theorem dX11_turned_13 : decode cX11_turned 13 = .ok (.invokestatic 150, 3) := by decide +kernel
theorem dX11_turned_16 : decode cX11_turned 16 = .ok (.istore_n 3, 1) := by decide +kernel
theorem dX11_turned_17 : decode cX11_turned 17 = .ok (.iconst (-1), 1) := by decide +kernel
theorem dX11_turned_18 : decode cX11_turned 18 = .ok (.istore 4, 2) := by decide +kernel
theorem dX11_turned_20 : decode cX11_turned 20 = .ok (.aload_n 0, 1) := by decide +kernel
theorem dX11_turned_21 : decode cX11_turned 21 = .ok (.iload_n 3, 1) := by decide +kernel
theorem dX11_turned_22 : decode cX11_turned 22 = .ok (.iload_n 2, 1) := by decide +kernel
theorem dX11_turned_23 : decode cX11_turned 23 = .ok (.invokevirtual 338, 3) := by decide +kernel
theorem dX11_turned_26 : decode cX11_turned 26 = .ok (.istore 5, 2) := by decide +kernel
theorem dX11_turned_28 : decode cX11_turned 28 = .ok (.iconst 0, 1) := by decide +kernel
theorem dX11_turned_29 : decode cX11_turned 29 = .ok (.istore 6, 2) := by decide +kernel
theorem dX11_turned_31 : decode cX11_turned 31 = .ok (.iload 6, 2) := by decide +kernel
theorem dX11_turned_33 : decode cX11_turned 33 = .ok (.aload_n 0, 1) := by decide +kernel
theorem dX11_turned_34 : decode cX11_turned 34 = .ok (.iload_n 2, 1) := by decide +kernel
theorem dX11_turned_35 : decode cX11_turned 35 = .ok (.invokevirtual 153, 3) := by decide +kernel
theorem dX11_turned_38 : decode cX11_turned 38 = .ok (.if_icmp .ge 49, 3) := by decide +kernel
theorem dX11_turned_41 : decode cX11_turned 41 = .ok (.aload_n 0, 1) := by decide +kernel
theorem dX11_turned_42 : decode cX11_turned 42 = .ok (.iload_n 2, 1) := by decide +kernel
theorem dX11_turned_43 : decode cX11_turned 43 = .ok (.iload 6, 2) := by decide +kernel
theorem dX11_turned_45 : decode cX11_turned 45 = .ok (.invokevirtual 341, 3) := by decide +kernel
theorem dX11_turned_48 : decode cX11_turned 48 = .ok (.aload_n 0, 1) := by decide +kernel
theorem dX11_turned_49 : decode cX11_turned 49 = .ok (.iload_n 3, 1) := by decide +kernel
theorem dX11_turned_50 : decode cX11_turned 50 = .ok (.iload_n 2, 1) := by decide +kernel
theorem dX11_turned_51 : decode cX11_turned 51 = .ok (.invokevirtual 338, 3) := by decide +kernel
theorem dX11_turned_54 : decode cX11_turned 54 = .ok (.istore 7, 2) := by decide +kernel
theorem dX11_turned_56 : decode cX11_turned 56 = .ok (.aload_n 0, 1) := by decide +kernel
theorem dX11_turned_57 : decode cX11_turned 57 = .ok (.iload_n 2, 1) := by decide +kernel
theorem dX11_turned_58 : decode cX11_turned 58 = .ok (.iload 6, 2) := by decide +kernel
theorem dX11_turned_60 : decode cX11_turned 60 = .ok (.invokevirtual 341, 3) := by decide +kernel
theorem dX11_turned_63 : decode cX11_turned 63 = .ok (.iload 7, 2) := by decide +kernel
theorem dX11_turned_65 : decode cX11_turned 65 = .ok (.iload 5, 2) := by decide +kernel
theorem dX11_turned_67 : decode cX11_turned 67 = .ok (.if_icmp .lt 6, 3) := by decide +kernel
theorem dX11_turned_70 : decode cX11_turned 70 = .ok (.goto 11, 3) := by decide +kernel
theorem dX11_turned_73 : decode cX11_turned 73 = .ok (.iload 6, 2) := by decide +kernel
theorem dX11_turned_75 : decode cX11_turned 75 = .ok (.istore 4, 2) := by decide +kernel
theorem dX11_turned_77 : decode cX11_turned 77 = .ok (.iload 7, 2) := by decide +kernel
theorem dX11_turned_79 : decode cX11_turned 79 = .ok (.istore 5, 2) := by decide +kernel
theorem dX11_turned_81 : decode cX11_turned 81 = .ok (.iinc 6 1, 3) := by decide +kernel
theorem dX11_turned_84 : decode cX11_turned 84 = .ok (.goto (-53), 3) := by decide +kernel
theorem dX11_turned_87 : decode cX11_turned 87 = .ok (.iload 4, 2) := by decide +kernel
theorem dX11_turned_89 : decode cX11_turned 89 = .ok (.ireturn, 1) := by decide +kernel
theorem dX11_isPart_0 : decode cX11_isPart 0 = .ok (.aload_n 0, 1) := by decide +kernel
theorem dX11_isPart_1 : decode cX11_isPart 1 = .ok (.iload_n 1, 1) := by decide +kernel
theorem dX11_isPart_2 : decode cX11_isPart 2 = .ok (.iload_n 3, 1) := by decide +kernel
theorem dX11_isPart_3 : decode cX11_isPart 3 = .ok (.invokevirtual 199, 3) := by decide +kernel
theorem dX11_isPart_6 : decode cX11_isPart 6 = .ok (.ifCond .eq 26, 3) := by decide +kernel
theorem dX11_isPart_9 : decode cX11_isPart 9 = .ok (.aload_n 0, 1) := by decide +kernel
theorem dX11_isPart_10 : decode cX11_isPart 10 = .ok (.iconst 1, 1) := by decide +kernel
theorem dX11_isPart_11 : decode cX11_isPart 11 = .ok (.iload_n 2, 1) := by decide +kernel
theorem dX11_isPart_12 : decode cX11_isPart 12 = .ok (.invokevirtual 130, 3) := by decide +kernel
theorem dX11_isPart_15 : decode cX11_isPart 15 = .ok (.ifCond .eq 17, 3) := by decide +kernel
theorem dX11_isPart_18 : decode cX11_isPart 18 = .ok (.iload 4, 2) := by decide +kernel
theorem dX11_isPart_20 : decode cX11_isPart 20 = .ok (.iconst 0, 1) := by decide +kernel
theorem dX11_isPart_21 : decode cX11_isPart 21 = .ok (.iconst 5, 1) := by decide +kernel
theorem dX11_isPart_22 : decode cX11_isPart 22 = .ok (.invokestatic 90, 3) := by decide +kernel
theorem dX11_isPart_25 : decode cX11_isPart 25 = .ok (.ifCond .eq 7, 3) := by decide +kernel
theorem dX11_isPart_28 : decode cX11_isPart 28 = .ok (.iconst 1, 1) := by decide +kernel
theorem dX11_isPart_29 : decode cX11_isPart 29 = .ok (.goto 4, 3) := by decide +kernel
theorem dX11_isPart_32 : decode cX11_isPart 32 = .ok (.iconst 0, 1) := by decide +kernel
theorem dX11_isPart_33 : decode cX11_isPart 33 = .ok (.ireturn, 1) := by decide +kernel
theorem dX11_isAwake_0 : decode cX11_isAwake 0 = .ok (.aload_n 0, 1) := by decide +kernel
theorem dX11_isAwake_1 : decode cX11_isAwake 1 = .ok (.iload_n 1, 1) := by decide +kernel
theorem dX11_isAwake_2 : decode cX11_isAwake 2 = .ok (.iload_n 2, 1) := by decide +kernel
theorem dX11_isAwake_3 : decode cX11_isAwake 3 = .ok (.iload_n 3, 1) := by decide +kernel
theorem dX11_isAwake_4 : decode cX11_isAwake 4 = .ok (.iload 4, 2) := by decide +kernel
theorem dX11_isAwake_6 : decode cX11_isAwake 6 = .ok (.iload 5, 2) := by decide +kernel
theorem dX11_isAwake_8 : decode cX11_isAwake 8 = .ok (.invokevirtual 175, 3) := by decide +kernel
theorem dX11_isAwake_11 : decode cX11_isAwake 11 = .ok (.ifCond .le 7, 3) := by decide +kernel
theorem dX11_isAwake_14 : decode cX11_isAwake 14 = .ok (.iconst 1, 1) := by decide +kernel
theorem dX11_isAwake_15 : decode cX11_isAwake 15 = .ok (.goto 4, 3) := by decide +kernel
theorem dX11_isAwake_18 : decode cX11_isAwake 18 = .ok (.iconst 0, 1) := by decide +kernel
theorem dX11_isAwake_19 : decode cX11_isAwake 19 = .ok (.ireturn, 1) := by decide +kernel
theorem dX11_like_0 : decode cX11_like 0 = .ok (.aload_n 0, 1) := by decide +kernel
theorem dX11_like_1 : decode cX11_like 1 = .ok (.iload_n 1, 1) := by decide +kernel
theorem dX11_like_2 : decode cX11_like 2 = .ok (.iload_n 2, 1) := by decide +kernel
theorem dX11_like_3 : decode cX11_like 3 = .ok (.iload_n 3, 1) := by decide +kernel
theorem dX11_like_4 : decode cX11_like 4 = .ok (.iload 4, 2) := by decide +kernel
theorem dX11_like_6 : decode cX11_like 6 = .ok (.invokevirtual 344, 3) := by decide +kernel
theorem dX11_like_9 : decode cX11_like 9 = .ok (.ifCond .ne 5, 3) := by decide +kernel
theorem dX11_like_12 : decode cX11_like 12 = .ok (.iconst (-1), 1) := by decide +kernel
theorem dX11_like_13 : decode cX11_like 13 = .ok (.ireturn, 1) := by decide +kernel
theorem dX11_like_14 : decode cX11_like 14 = .ok (.iconst 0, 1) := by decide +kernel
theorem dX11_like_15 : decode cX11_like 15 = .ok (.iload_n 1, 1) := by decide +kernel
theorem dX11_like_16 : decode cX11_like 16 = .ok (.invokestatic 150, 3) := by decide +kernel
theorem dX11_like_19 : decode cX11_like 19 = .ok (.istore 5, 2) := by decide +kernel
theorem dX11_like_21 : decode cX11_like 21 = .ok (.iconst 1, 1) := by decide +kernel
theorem dX11_like_22 : decode cX11_like 22 = .ok (.iload_n 2, 1) := by decide +kernel
theorem dX11_like_23 : decode cX11_like 23 = .ok (.invokestatic 150, 3) := by decide +kernel
theorem dX11_like_26 : decode cX11_like 26 = .ok (.istore 6, 2) := by decide +kernel
theorem dX11_like_28 : decode cX11_like 28 = .ok (.iconst 0, 1) := by decide +kernel
theorem dX11_like_29 : decode cX11_like 29 = .ok (.istore 7, 2) := by decide +kernel
theorem dX11_like_31 : decode cX11_like 31 = .ok (.iconst 0, 1) := by decide +kernel
theorem dX11_like_32 : decode cX11_like 32 = .ok (.istore 8, 2) := by decide +kernel
theorem dX11_like_34 : decode cX11_like 34 = .ok (.iload 8, 2) := by decide +kernel
theorem dX11_like_36 : decode cX11_like 36 = .ok (.bipush 6, 2) := by decide +kernel
theorem dX11_like_38 : decode cX11_like 38 = .ok (.if_icmp .ge 90, 3) := by decide +kernel
theorem dX11_like_41 : decode cX11_like 41 = .ok (.iconst 1, 1) := by decide +kernel
theorem dX11_like_42 : decode cX11_like 42 = .ok (.istore 9, 2) := by decide +kernel
theorem dX11_like_44 : decode cX11_like 44 = .ok (.iconst 0, 1) := by decide +kernel
theorem dX11_like_45 : decode cX11_like 45 = .ok (.istore 10, 2) := by decide +kernel
theorem dX11_like_47 : decode cX11_like 47 = .ok (.iload 10, 2) := by decide +kernel
theorem dX11_like_49 : decode cX11_like 49 = .ok (.aload_n 0, 1) := by decide +kernel
theorem dX11_like_50 : decode cX11_like 50 = .ok (.iload_n 3, 1) := by decide +kernel
theorem dX11_like_51 : decode cX11_like 51 = .ok (.invokevirtual 153, 3) := by decide +kernel
theorem dX11_like_54 : decode cX11_like 54 = .ok (.if_icmp .ge 50, 3) := by decide +kernel
theorem dX11_like_57 : decode cX11_like 57 = .ok (.iload 9, 2) := by decide +kernel
theorem dX11_like_59 : decode cX11_like 59 = .ok (.ifCond .eq 36, 3) := by decide +kernel
theorem dX11_like_62 : decode cX11_like 62 = .ok (.aload_n 0, 1) := by decide +kernel
theorem dX11_like_63 : decode cX11_like 63 = .ok (.iload 5, 2) := by decide +kernel
theorem dX11_like_65 : decode cX11_like 65 = .ok (.iload 6, 2) := by decide +kernel
theorem dX11_like_67 : decode cX11_like 67 = .ok (.iload_n 3, 1) := by decide +kernel
theorem dX11_like_68 : decode cX11_like 68 = .ok (.iload 10, 2) := by decide +kernel
theorem dX11_like_70 : decode cX11_like 70 = .ok (.iload 4, 2) := by decide +kernel
theorem dX11_like_72 : decode cX11_like 72 = .ok (.invokevirtual 347, 3) := by decide +kernel
theorem dX11_like_75 : decode cX11_like 75 = .ok (.aload_n 0, 1) := by decide +kernel
theorem dX11_like_76 : decode cX11_like 76 = .ok (.iload 5, 2) := by decide +kernel
theorem dX11_like_78 : decode cX11_like 78 = .ok (.iload 6, 2) := by decide +kernel
theorem dX11_like_80 : decode cX11_like 80 = .ok (.iload_n 3, 1) := by decide +kernel
theorem dX11_like_81 : decode cX11_like 81 = .ok (.iload 10, 2) := by decide +kernel
theorem dX11_like_83 : decode cX11_like 83 = .ok (.iload 8, 2) := by decide +kernel
theorem dX11_like_85 : decode cX11_like 85 = .ok (.invokevirtual 347, 3) := by decide +kernel
theorem dX11_like_88 : decode cX11_like 88 = .ok (.if_icmp .ne 7, 3) := by decide +kernel
theorem dX11_like_91 : decode cX11_like 91 = .ok (.iconst 1, 1) := by decide +kernel
theorem dX11_like_92 : decode cX11_like 92 = .ok (.goto 4, 3) := by decide +kernel
theorem dX11_like_95 : decode cX11_like 95 = .ok (.iconst 0, 1) := by decide +kernel
theorem dX11_like_96 : decode cX11_like 96 = .ok (.istore 9, 2) := by decide +kernel
theorem dX11_like_98 : decode cX11_like 98 = .ok (.iinc 10 1, 3) := by decide +kernel
theorem dX11_like_101 : decode cX11_like 101 = .ok (.goto (-54), 3) := by decide +kernel
theorem dX11_like_104 : decode cX11_like 104 = .ok (.iload 7, 2) := by decide +kernel
theorem dX11_like_106 : decode cX11_like 106 = .ok (.iload 9, 2) := by decide +kernel
theorem dX11_like_108 : decode cX11_like 108 = .ok (.ifCond .eq 10, 3) := by decide +kernel
theorem dX11_like_111 : decode cX11_like 111 = .ok (.iconst 1, 1) := by decide +kernel
theorem dX11_like_112 : decode cX11_like 112 = .ok (.iload 8, 2) := by decide +kernel
theorem dX11_like_114 : decode cX11_like 114 = .ok (.ishl, 1) := by decide +kernel
theorem dX11_like_115 : decode cX11_like 115 = .ok (.goto 4, 3) := by decide +kernel
theorem dX11_like_118 : decode cX11_like 118 = .ok (.iconst 0, 1) := by decide +kernel
theorem dX11_like_119 : decode cX11_like 119 = .ok (.ior, 1) := by decide +kernel
theorem dX11_like_120 : decode cX11_like 120 = .ok (.istore 7, 2) := by decide +kernel
theorem dX11_like_122 : decode cX11_like 122 = .ok (.iinc 8 1, 3) := by decide +kernel
theorem dX11_like_125 : decode cX11_like 125 = .ok (.goto (-91), 3) := by decide +kernel
theorem dX11_like_128 : decode cX11_like 128 = .ok (.iload 7, 2) := by decide +kernel
theorem dX11_like_130 : decode cX11_like 130 = .ok (.ireturn, 1) := by decide +kernel
theorem dX11_wakes_0 : decode cX11_wakes 0 = .ok (.iconst 0, 1) := by decide +kernel
theorem dX11_wakes_1 : decode cX11_wakes 1 = .ok (.istore 4, 2) := by decide +kernel
theorem dX11_wakes_3 : decode cX11_wakes 3 = .ok (.iload 4, 2) := by decide +kernel
theorem dX11_wakes_5 : decode cX11_wakes 5 = .ok (.aload_n 0, 1) := by decide +kernel
theorem dX11_wakes_6 : decode cX11_wakes 6 = .ok (.iload_n 3, 1) := by decide +kernel
theorem dX11_wakes_7 : decode cX11_wakes 7 = .ok (.invokevirtual 153, 3) := by decide +kernel
theorem dX11_wakes_10 : decode cX11_wakes 10 = .ok (.if_icmp .ge 73, 3) := by decide +kernel
theorem dX11_wakes_13 : decode cX11_wakes 13 = .ok (.aload_n 0, 1) := by decide +kernel
theorem dX11_wakes_14 : decode cX11_wakes 14 = .ok (.getfield 40, 3) := by decide +kernel
theorem dX11_wakes_17 : decode cX11_wakes 17 = .ok (.iload 4, 2) := by decide +kernel
theorem dX11_wakes_19 : decode cX11_wakes 19 = .ok (.iconst 0, 1) := by decide +kernel
theorem dX11_wakes_20 : decode cX11_wakes 20 = .ok (.iastore, 1) := by decide +kernel
theorem dX11_wakes_21 : decode cX11_wakes 21 = .ok (.iconst 0, 1) := by decide +kernel
theorem dX11_wakes_22 : decode cX11_wakes 22 = .ok (.istore 5, 2) := by decide +kernel
theorem dX11_wakes_24 : decode cX11_wakes 24 = .ok (.iload 5, 2) := by decide +kernel
theorem dX11_wakes_26 : decode cX11_wakes 26 = .ok (.bipush 6, 2) := by decide +kernel
theorem dX11_wakes_28 : decode cX11_wakes 28 = .ok (.if_icmp .ge 49, 3) := by decide +kernel
theorem dX11_wakes_31 : decode cX11_wakes 31 = .ok (.aload_n 0, 1) := by decide +kernel
theorem dX11_wakes_32 : decode cX11_wakes 32 = .ok (.getfield 40, 3) := by decide +kernel
theorem dX11_wakes_35 : decode cX11_wakes 35 = .ok (.iload 4, 2) := by decide +kernel
theorem dX11_wakes_37 : decode cX11_wakes 37 = .ok (.dup2, 1) := by decide +kernel
theorem dX11_wakes_38 : decode cX11_wakes 38 = .ok (.iaload, 1) := by decide +kernel
theorem dX11_wakes_39 : decode cX11_wakes 39 = .ok (.aload_n 0, 1) := by decide +kernel
theorem dX11_wakes_40 : decode cX11_wakes 40 = .ok (.iconst 0, 1) := by decide +kernel
theorem dX11_wakes_41 : decode cX11_wakes 41 = .ok (.iload_n 1, 1) := by decide +kernel
theorem dX11_wakes_42 : decode cX11_wakes 42 = .ok (.invokestatic 150, 3) := by decide +kernel
theorem dX11_wakes_45 : decode cX11_wakes 45 = .ok (.iconst 1, 1) := by decide +kernel
theorem dX11_wakes_46 : decode cX11_wakes 46 = .ok (.iload_n 2, 1) := by decide +kernel
theorem dX11_wakes_47 : decode cX11_wakes 47 = .ok (.invokestatic 150, 3) := by decide +kernel
theorem dX11_wakes_50 : decode cX11_wakes 50 = .ok (.iload_n 3, 1) := by decide +kernel
theorem dX11_wakes_51 : decode cX11_wakes 51 = .ok (.iload 4, 2) := by decide +kernel
theorem dX11_wakes_53 : decode cX11_wakes 53 = .ok (.iload 5, 2) := by decide +kernel
theorem dX11_wakes_55 : decode cX11_wakes 55 = .ok (.invokevirtual 347, 3) := by decide +kernel
theorem dX11_wakes_58 : decode cX11_wakes 58 = .ok (.ifCond .eq 10, 3) := by decide +kernel
theorem dX11_wakes_61 : decode cX11_wakes 61 = .ok (.iconst 1, 1) := by decide +kernel
theorem dX11_wakes_62 : decode cX11_wakes 62 = .ok (.iload 5, 2) := by decide +kernel
theorem dX11_wakes_64 : decode cX11_wakes 64 = .ok (.ishl, 1) := by decide +kernel
theorem dX11_wakes_65 : decode cX11_wakes 65 = .ok (.goto 4, 3) := by decide +kernel
theorem dX11_wakes_68 : decode cX11_wakes 68 = .ok (.iconst 0, 1) := by decide +kernel
theorem dX11_wakes_69 : decode cX11_wakes 69 = .ok (.ior, 1) := by decide +kernel
theorem dX11_wakes_70 : decode cX11_wakes 70 = .ok (.iastore, 1) := by decide +kernel
theorem dX11_wakes_71 : decode cX11_wakes 71 = .ok (.iinc 5 1, 3) := by decide +kernel
theorem dX11_wakes_74 : decode cX11_wakes 74 = .ok (.goto (-50), 3) := by decide +kernel
theorem dX11_wakes_77 : decode cX11_wakes 77 = .ok (.iinc 4 1, 3) := by decide +kernel
theorem dX11_wakes_80 : decode cX11_wakes 80 = .ok (.goto (-77), 3) := by decide +kernel
theorem dX11_wakes_83 : decode cX11_wakes 83 = .ok (.return_, 1) := by decide +kernel
theorem dX11_single_0 : decode cX11_single 0 = .ok (.aload_n 0, 1) := by decide +kernel
theorem dX11_single_1 : decode cX11_single 1 = .ok (.iload_n 1, 1) := by decide +kernel
theorem dX11_single_2 : decode cX11_single 2 = .ok (.iload_n 2, 1) := by decide +kernel
theorem dX11_single_3 : decode cX11_single 3 = .ok (.iload_n 3, 1) := by decide +kernel
theorem dX11_single_4 : decode cX11_single 4 = .ok (.iload 4, 2) := by decide +kernel
theorem dX11_single_6 : decode cX11_single 6 = .ok (.invokevirtual 344, 3) := by decide +kernel
theorem dX11_single_9 : decode cX11_single 9 = .ok (.ifCond .ne 5, 3) := by decide +kernel
theorem dX11_single_12 : decode cX11_single 12 = .ok (.iconst (-1), 1) := by decide +kernel
theorem dX11_single_13 : decode cX11_single 13 = .ok (.ireturn, 1) := by decide +kernel
theorem dX11_single_14 : decode cX11_single 14 = .ok (.aload_n 0, 1) := by decide +kernel
theorem dX11_single_15 : decode cX11_single 15 = .ok (.iload_n 1, 1) := by decide +kernel
theorem dX11_single_16 : decode cX11_single 16 = .ok (.iload_n 2, 1) := by decide +kernel
theorem dX11_single_17 : decode cX11_single 17 = .ok (.iload_n 3, 1) := by decide +kernel
theorem dX11_single_18 : decode cX11_single 18 = .ok (.invokevirtual 351, 3) := by decide +kernel
theorem dX11_single_21 : decode cX11_single 21 = .ok (.iconst 0, 1) := by decide +kernel
theorem dX11_single_22 : decode cX11_single 22 = .ok (.istore 5, 2) := by decide +kernel
theorem dX11_single_24 : decode cX11_single 24 = .ok (.iconst 0, 1) := by decide +kernel
theorem dX11_single_25 : decode cX11_single 25 = .ok (.istore 6, 2) := by decide +kernel
theorem dX11_single_27 : decode cX11_single 27 = .ok (.iload 6, 2) := by decide +kernel
theorem dX11_single_29 : decode cX11_single 29 = .ok (.aload_n 0, 1) := by decide +kernel
theorem dX11_single_30 : decode cX11_single 30 = .ok (.iload_n 3, 1) := by decide +kernel
theorem dX11_single_31 : decode cX11_single 31 = .ok (.invokevirtual 153, 3) := by decide +kernel
theorem dX11_single_34 : decode cX11_single 34 = .ok (.if_icmp .ge 57, 3) := by decide +kernel
theorem dX11_single_37 : decode cX11_single 37 = .ok (.iconst 0, 1) := by decide +kernel
theorem dX11_single_38 : decode cX11_single 38 = .ok (.istore 7, 2) := by decide +kernel
theorem dX11_single_40 : decode cX11_single 40 = .ok (.iload 7, 2) := by decide +kernel
theorem dX11_single_42 : decode cX11_single 42 = .ok (.iload 6, 2) := by decide +kernel
theorem dX11_single_44 : decode cX11_single 44 = .ok (.if_icmp .ge 41, 3) := by decide +kernel
theorem dX11_single_47 : decode cX11_single 47 = .ok (.iload 5, 2) := by decide +kernel
theorem dX11_single_49 : decode cX11_single 49 = .ok (.aload_n 0, 1) := by decide +kernel
theorem dX11_single_50 : decode cX11_single 50 = .ok (.getfield 40, 3) := by decide +kernel
theorem dX11_single_53 : decode cX11_single 53 = .ok (.iload 6, 2) := by decide +kernel
theorem dX11_single_55 : decode cX11_single 55 = .ok (.iaload, 1) := by decide +kernel
theorem dX11_single_56 : decode cX11_single 56 = .ok (.aload_n 0, 1) := by decide +kernel
theorem dX11_single_57 : decode cX11_single 57 = .ok (.getfield 40, 3) := by decide +kernel
theorem dX11_single_60 : decode cX11_single 60 = .ok (.iload 7, 2) := by decide +kernel
theorem dX11_single_62 : decode cX11_single 62 = .ok (.iaload, 1) := by decide +kernel
theorem dX11_single_63 : decode cX11_single 63 = .ok (.ixor, 1) := by decide +kernel
theorem dX11_single_64 : decode cX11_single 64 = .ok (.iconst 1, 1) := by decide +kernel
theorem dX11_single_65 : decode cX11_single 65 = .ok (.iload 4, 2) := by decide +kernel
theorem dX11_single_67 : decode cX11_single 67 = .ok (.ishl, 1) := by decide +kernel
theorem dX11_single_68 : decode cX11_single 68 = .ok (.if_icmp .ne 7, 3) := by decide +kernel
theorem dX11_single_71 : decode cX11_single 71 = .ok (.iconst 1, 1) := by decide +kernel
theorem dX11_single_72 : decode cX11_single 72 = .ok (.goto 4, 3) := by decide +kernel
theorem dX11_single_75 : decode cX11_single 75 = .ok (.iconst 0, 1) := by decide +kernel
theorem dX11_single_76 : decode cX11_single 76 = .ok (.iadd, 1) := by decide +kernel
theorem dX11_single_77 : decode cX11_single 77 = .ok (.istore 5, 2) := by decide +kernel
theorem dX11_single_79 : decode cX11_single 79 = .ok (.iinc 7 1, 3) := by decide +kernel
theorem dX11_single_82 : decode cX11_single 82 = .ok (.goto (-42), 3) := by decide +kernel
theorem dX11_single_85 : decode cX11_single 85 = .ok (.iinc 6 1, 3) := by decide +kernel
theorem dX11_single_88 : decode cX11_single 88 = .ok (.goto (-61), 3) := by decide +kernel
theorem dX11_single_91 : decode cX11_single 91 = .ok (.iload 5, 2) := by decide +kernel
theorem dX11_single_93 : decode cX11_single 93 = .ok (.ireturn, 1) := by decide +kernel
theorem dX11_felt_0 : decode cX11_felt 0 = .ok (.aload_n 0, 1) := by decide +kernel
theorem dX11_felt_1 : decode cX11_felt 1 = .ok (.iload_n 1, 1) := by decide +kernel
theorem dX11_felt_2 : decode cX11_felt 2 = .ok (.iload_n 2, 1) := by decide +kernel
theorem dX11_felt_3 : decode cX11_felt 3 = .ok (.iload_n 3, 1) := by decide +kernel
theorem dX11_felt_4 : decode cX11_felt 4 = .ok (.iload 4, 2) := by decide +kernel
theorem dX11_felt_6 : decode cX11_felt 6 = .ok (.invokevirtual 344, 3) := by decide +kernel
theorem dX11_felt_9 : decode cX11_felt 9 = .ok (.ifCond .ne 7, 3) := by decide +kernel
theorem dX11_felt_12 : decode cX11_felt 12 = .ok (.ldc_w 260, 3) := by decide +kernel
theorem dX11_felt_15 : decode cX11_felt 15 = .ok (.ireturn, 1) := by decide +kernel
theorem dX11_felt_16 : decode cX11_felt 16 = .ok (.aload_n 0, 1) := by decide +kernel
theorem dX11_felt_17 : decode cX11_felt 17 = .ok (.iload 5, 2) := by decide +kernel
theorem dX11_felt_19 : decode cX11_felt 19 = .ok (.iload 5, 2) := by decide +kernel
theorem dX11_felt_21 : decode cX11_felt 21 = .ok (.invokevirtual 323, 3) := by decide +kernel
theorem dX11_felt_24 : decode cX11_felt 24 = .ok (.aload_n 0, 1) := by decide +kernel
theorem dX11_felt_25 : decode cX11_felt 25 = .ok (.getfield 320, 3) := by decide +kernel
theorem dX11_felt_28 : decode cX11_felt 28 = .ok (.aload_n 0, 1) := by decide +kernel
theorem dX11_felt_29 : decode cX11_felt 29 = .ok (.iload_n 3, 1) := by decide +kernel
theorem dX11_felt_30 : decode cX11_felt 30 = .ok (.invokevirtual 153, 3) := by decide +kernel
theorem dX11_felt_33 : decode cX11_felt 33 = .ok (.if_icmp .ge 7, 3) := by decide +kernel
theorem dX11_felt_36 : decode cX11_felt 36 = .ok (.ldc_w 260, 3) := by decide +kernel
theorem dX11_felt_39 : decode cX11_felt 39 = .ok (.ireturn, 1) := by decide +kernel
theorem dX11_felt_40 : decode cX11_felt 40 = .ok (.aload_n 0, 1) := by decide +kernel
theorem dX11_felt_41 : decode cX11_felt 41 = .ok (.iload_n 1, 1) := by decide +kernel
theorem dX11_felt_42 : decode cX11_felt 42 = .ok (.iload_n 2, 1) := by decide +kernel
theorem dX11_felt_43 : decode cX11_felt 43 = .ok (.iload_n 3, 1) := by decide +kernel
theorem dX11_felt_44 : decode cX11_felt 44 = .ok (.invokevirtual 351, 3) := by decide +kernel
theorem dX11_felt_47 : decode cX11_felt 47 = .ok (.iconst 0, 1) := by decide +kernel
theorem dX11_felt_48 : decode cX11_felt 48 = .ok (.istore 7, 2) := by decide +kernel
theorem dX11_felt_50 : decode cX11_felt 50 = .ok (.iconst 0, 1) := by decide +kernel
theorem dX11_felt_51 : decode cX11_felt 51 = .ok (.istore 8, 2) := by decide +kernel
theorem dX11_felt_53 : decode cX11_felt 53 = .ok (.iconst 0, 1) := by decide +kernel
theorem dX11_felt_54 : decode cX11_felt 54 = .ok (.istore 9, 2) := by decide +kernel
theorem dX11_felt_56 : decode cX11_felt 56 = .ok (.iload 9, 2) := by decide +kernel
theorem dX11_felt_58 : decode cX11_felt 58 = .ok (.aload_n 0, 1) := by decide +kernel
theorem dX11_felt_59 : decode cX11_felt 59 = .ok (.iload_n 3, 1) := by decide +kernel
theorem dX11_felt_60 : decode cX11_felt 60 = .ok (.invokevirtual 153, 3) := by decide +kernel
theorem dX11_felt_63 : decode cX11_felt 63 = .ok (.if_icmp .ge 99, 3) := by decide +kernel
theorem dX11_felt_66 : decode cX11_felt 66 = .ok (.iconst 0, 1) := by decide +kernel
theorem dX11_felt_67 : decode cX11_felt 67 = .ok (.istore 10, 2) := by decide +kernel
theorem dX11_felt_69 : decode cX11_felt 69 = .ok (.iload 10, 2) := by decide +kernel
theorem dX11_felt_71 : decode cX11_felt 71 = .ok (.aload_n 0, 1) := by decide +kernel
theorem dX11_felt_72 : decode cX11_felt 72 = .ok (.iload_n 3, 1) := by decide +kernel
theorem dX11_felt_73 : decode cX11_felt 73 = .ok (.invokevirtual 153, 3) := by decide +kernel
theorem dX11_felt_76 : decode cX11_felt 76 = .ok (.if_icmp .ge 80, 3) := by decide +kernel
theorem dX11_felt_79 : decode cX11_felt 79 = .ok (.aload_n 0, 1) := by decide +kernel
theorem dX11_felt_80 : decode cX11_felt 80 = .ok (.getfield 40, 3) := by decide +kernel
theorem dX11_felt_83 : decode cX11_felt 83 = .ok (.iload 9, 2) := by decide +kernel
theorem dX11_felt_85 : decode cX11_felt 85 = .ok (.iaload, 1) := by decide +kernel
theorem dX11_felt_86 : decode cX11_felt 86 = .ok (.aload_n 0, 1) := by decide +kernel
theorem dX11_felt_87 : decode cX11_felt 87 = .ok (.getfield 40, 3) := by decide +kernel
theorem dX11_felt_90 : decode cX11_felt 90 = .ok (.iload 10, 2) := by decide +kernel
theorem dX11_felt_92 : decode cX11_felt 92 = .ok (.iaload, 1) := by decide +kernel
theorem dX11_felt_93 : decode cX11_felt 93 = .ok (.ixor, 1) := by decide +kernel
theorem dX11_felt_94 : decode cX11_felt 94 = .ok (.iconst 1, 1) := by decide +kernel
theorem dX11_felt_95 : decode cX11_felt 95 = .ok (.iload 4, 2) := by decide +kernel
theorem dX11_felt_97 : decode cX11_felt 97 = .ok (.ishl, 1) := by decide +kernel
theorem dX11_felt_98 : decode cX11_felt 98 = .ok (.if_icmp .ne 52, 3) := by decide +kernel
theorem dX11_felt_101 : decode cX11_felt 101 = .ok (.aload_n 0, 1) := by decide +kernel
theorem dX11_felt_102 : decode cX11_felt 102 = .ok (.getfield 40, 3) := by decide +kernel
theorem dX11_felt_105 : decode cX11_felt 105 = .ok (.iload 9, 2) := by decide +kernel
theorem dX11_felt_107 : decode cX11_felt 107 = .ok (.iaload, 1) := by decide +kernel
theorem dX11_felt_108 : decode cX11_felt 108 = .ok (.iload 4, 2) := by decide +kernel
theorem dX11_felt_110 : decode cX11_felt 110 = .ok (.ishr, 1) := by decide +kernel
theorem dX11_felt_111 : decode cX11_felt 111 = .ok (.iconst 1, 1) := by decide +kernel
theorem dX11_felt_112 : decode cX11_felt 112 = .ok (.iand, 1) := by decide +kernel
theorem dX11_felt_113 : decode cX11_felt 113 = .ok (.ifCond .ne 6, 3) := by decide +kernel
theorem dX11_felt_116 : decode cX11_felt 116 = .ok (.goto 34, 3) := by decide +kernel
theorem dX11_felt_119 : decode cX11_felt 119 = .ok (.iinc 7 1, 3) := by decide +kernel
theorem dX11_felt_122 : decode cX11_felt 122 = .ok (.iload 8, 2) := by decide +kernel
theorem dX11_felt_124 : decode cX11_felt 124 = .ok (.aload_n 0, 1) := by decide +kernel
theorem dX11_felt_125 : decode cX11_felt 125 = .ok (.aload_n 0, 1) := by decide +kernel
theorem dX11_felt_126 : decode cX11_felt 126 = .ok (.getfield 37, 3) := by decide +kernel
theorem dX11_felt_129 : decode cX11_felt 129 = .ok (.iload 9, 2) := by decide +kernel
theorem dX11_felt_131 : decode cX11_felt 131 = .ok (.iaload, 1) := by decide +kernel
theorem dX11_felt_132 : decode cX11_felt 132 = .ok (.invokevirtual 232, 3) := by decide +kernel
theorem dX11_felt_135 : decode cX11_felt 135 = .ok (.aload_n 0, 1) := by decide +kernel
theorem dX11_felt_136 : decode cX11_felt 136 = .ok (.aload_n 0, 1) := by decide +kernel
theorem dX11_felt_137 : decode cX11_felt 137 = .ok (.getfield 37, 3) := by decide +kernel
theorem dX11_felt_140 : decode cX11_felt 140 = .ok (.iload 10, 2) := by decide +kernel
theorem dX11_felt_142 : decode cX11_felt 142 = .ok (.iaload, 1) := by decide +kernel
theorem dX11_felt_143 : decode cX11_felt 143 = .ok (.invokevirtual 232, 3) := by decide +kernel
theorem dX11_felt_146 : decode cX11_felt 146 = .ok (.isub, 1) := by decide +kernel
theorem dX11_felt_147 : decode cX11_felt 147 = .ok (.iadd, 1) := by decide +kernel
theorem dX11_felt_148 : decode cX11_felt 148 = .ok (.istore 8, 2) := by decide +kernel
theorem dX11_felt_150 : decode cX11_felt 150 = .ok (.iinc 10 1, 3) := by decide +kernel
theorem dX11_felt_153 : decode cX11_felt 153 = .ok (.goto (-84), 3) := by decide +kernel
theorem dX11_felt_156 : decode cX11_felt 156 = .ok (.iinc 9 1, 3) := by decide +kernel
theorem dX11_felt_159 : decode cX11_felt 159 = .ok (.goto (-103), 3) := by decide +kernel
theorem dX11_felt_162 : decode cX11_felt 162 = .ok (.iload 7, 2) := by decide +kernel
theorem dX11_felt_164 : decode cX11_felt 164 = .ok (.ifCond .ne 9, 3) := by decide +kernel
theorem dX11_felt_167 : decode cX11_felt 167 = .ok (.ldc_w 260, 3) := by decide +kernel
theorem dX11_felt_170 : decode cX11_felt 170 = .ok (.goto 15, 3) := by decide +kernel
theorem dX11_felt_173 : decode cX11_felt 173 = .ok (.iload 8, 2) := by decide +kernel
theorem dX11_felt_175 : decode cX11_felt 175 = .ok (.i2l, 1) := by decide +kernel
theorem dX11_felt_176 : decode cX11_felt 176 = .ok (.iload 7, 2) := by decide +kernel
theorem dX11_felt_178 : decode cX11_felt 178 = .ok (.i2l, 1) := by decide +kernel
theorem dX11_felt_179 : decode cX11_felt 179 = .ok (.iload 6, 2) := by decide +kernel
theorem dX11_felt_181 : decode cX11_felt 181 = .ok (.invokestatic 261, 3) := by decide +kernel
theorem dX11_felt_184 : decode cX11_felt 184 = .ok (.l2i, 1) := by decide +kernel
theorem dX11_felt_185 : decode cX11_felt 185 = .ok (.ireturn, 1) := by decide +kernel
theorem dX11_hopes_0 : decode cX11_hopes 0 = .ok (.lconst 0, 1) := by decide +kernel
theorem dX11_hopes_1 : decode cX11_hopes 1 = .ok (.lstore 4, 2) := by decide +kernel
theorem dX11_hopes_3 : decode cX11_hopes 3 = .ok (.iconst 0, 1) := by decide +kernel
theorem dX11_hopes_4 : decode cX11_hopes 4 = .ok (.istore 6, 2) := by decide +kernel
theorem dX11_hopes_6 : decode cX11_hopes 6 = .ok (.iload 6, 2) := by decide +kernel
theorem dX11_hopes_8 : decode cX11_hopes 8 = .ok (.aload_n 0, 1) := by decide +kernel
theorem dX11_hopes_9 : decode cX11_hopes 9 = .ok (.iload_n 3, 1) := by decide +kernel
theorem dX11_hopes_10 : decode cX11_hopes 10 = .ok (.invokevirtual 153, 3) := by decide +kernel
theorem dX11_hopes_13 : decode cX11_hopes 13 = .ok (.if_icmp .ge 23, 3) := by decide +kernel
theorem dX11_hopes_16 : decode cX11_hopes 16 = .ok (.lload 4, 2) := by decide +kernel
theorem dX11_hopes_18 : decode cX11_hopes 18 = .ok (.aload_n 0, 1) := by decide +kernel
theorem dX11_hopes_19 : decode cX11_hopes 19 = .ok (.iload_n 1, 1) := by decide +kernel
theorem dX11_hopes_20 : decode cX11_hopes 20 = .ok (.iload_n 2, 1) := by decide +kernel
theorem dX11_hopes_21 : decode cX11_hopes 21 = .ok (.iload_n 3, 1) := by decide +kernel
theorem dX11_hopes_22 : decode cX11_hopes 22 = .ok (.iload 6, 2) := by decide +kernel
theorem dX11_hopes_24 : decode cX11_hopes 24 = .ok (.invokevirtual 208, 3) := by decide +kernel
theorem dX11_hopes_27 : decode cX11_hopes 27 = .ok (.ladd, 1) := by decide +kernel
theorem dX11_hopes_28 : decode cX11_hopes 28 = .ok (.lstore 4, 2) := by decide +kernel
theorem dX11_hopes_30 : decode cX11_hopes 30 = .ok (.iinc 6 1, 3) := by decide +kernel
theorem dX11_hopes_33 : decode cX11_hopes 33 = .ok (.goto (-27), 3) := by decide +kernel
theorem dX11_hopes_36 : decode cX11_hopes 36 = .ok (.lload 4, 2) := by decide +kernel
theorem dX11_hopes_38 : decode cX11_hopes 38 = .ok (.lreturn, 1) := by decide +kernel
theorem dX11_rule_0 : decode cX11_rule 0 = .ok (.aload_n 0, 1) := by decide +kernel
theorem dX11_rule_1 : decode cX11_rule 1 = .ok (.iload_n 1, 1) := by decide +kernel
theorem dX11_rule_2 : decode cX11_rule 2 = .ok (.iload 4, 2) := by decide +kernel
theorem dX11_rule_4 : decode cX11_rule 4 = .ok (.invokevirtual 199, 3) := by decide +kernel
theorem dX11_rule_7 : decode cX11_rule 7 = .ok (.ifCond .eq 21, 3) := by decide +kernel
theorem dX11_rule_10 : decode cX11_rule 10 = .ok (.aload_n 0, 1) := by decide +kernel
theorem dX11_rule_11 : decode cX11_rule 11 = .ok (.iconst 1, 1) := by decide +kernel
theorem dX11_rule_12 : decode cX11_rule 12 = .ok (.iload_n 2, 1) := by decide +kernel
theorem dX11_rule_13 : decode cX11_rule 13 = .ok (.invokevirtual 130, 3) := by decide +kernel
theorem dX11_rule_16 : decode cX11_rule 16 = .ok (.ifCond .eq 12, 3) := by decide +kernel
theorem dX11_rule_19 : decode cX11_rule 19 = .ok (.aload_n 0, 1) := by decide +kernel
theorem dX11_rule_20 : decode cX11_rule 20 = .ok (.iconst 1, 1) := by decide +kernel
theorem dX11_rule_21 : decode cX11_rule 21 = .ok (.iload_n 3, 1) := by decide +kernel
theorem dX11_rule_22 : decode cX11_rule 22 = .ok (.invokevirtual 130, 3) := by decide +kernel
theorem dX11_rule_25 : decode cX11_rule 25 = .ok (.ifCond .ne 7, 3) := by decide +kernel
theorem dX11_rule_28 : decode cX11_rule 28 = .ok (.ldc2_w 354, 3) := by decide +kernel
theorem dX11_rule_31 : decode cX11_rule 31 = .ok (.lreturn, 1) := by decide +kernel
theorem dX11_rule_32 : decode cX11_rule 32 = .ok (.aload_n 0, 1) := by decide +kernel
theorem dX11_rule_33 : decode cX11_rule 33 = .ok (.iconst 0, 1) := by decide +kernel
theorem dX11_rule_34 : decode cX11_rule 34 = .ok (.iload_n 1, 1) := by decide +kernel
theorem dX11_rule_35 : decode cX11_rule 35 = .ok (.invokestatic 150, 3) := by decide +kernel
theorem dX11_rule_38 : decode cX11_rule 38 = .ok (.iconst 1, 1) := by decide +kernel
theorem dX11_rule_39 : decode cX11_rule 39 = .ok (.iload_n 2, 1) := by decide +kernel
theorem dX11_rule_40 : decode cX11_rule 40 = .ok (.invokestatic 150, 3) := by decide +kernel
theorem dX11_rule_43 : decode cX11_rule 43 = .ok (.iload 4, 2) := by decide +kernel
theorem dX11_rule_45 : decode cX11_rule 45 = .ok (.invokevirtual 356, 3) := by decide +kernel
theorem dX11_rule_48 : decode cX11_rule 48 = .ok (.aload_n 0, 1) := by decide +kernel
theorem dX11_rule_49 : decode cX11_rule 49 = .ok (.iconst 0, 1) := by decide +kernel
theorem dX11_rule_50 : decode cX11_rule 50 = .ok (.iload_n 1, 1) := by decide +kernel
theorem dX11_rule_51 : decode cX11_rule 51 = .ok (.invokestatic 150, 3) := by decide +kernel
theorem dX11_rule_54 : decode cX11_rule 54 = .ok (.iconst 1, 1) := by decide +kernel
theorem dX11_rule_55 : decode cX11_rule 55 = .ok (.iload_n 3, 1) := by decide +kernel
theorem dX11_rule_56 : decode cX11_rule 56 = .ok (.invokestatic 150, 3) := by decide +kernel
theorem dX11_rule_59 : decode cX11_rule 59 = .ok (.iload 4, 2) := by decide +kernel
theorem dX11_rule_61 : decode cX11_rule 61 = .ok (.invokevirtual 356, 3) := by decide +kernel
theorem dX11_rule_64 : decode cX11_rule 64 = .ok (.lsub, 1) := by decide +kernel
theorem dX11_rule_65 : decode cX11_rule 65 = .ok (.lreturn, 1) := by decide +kernel
theorem dX11_less_0 : decode cX11_less 0 = .ok (.aload_n 0, 1) := by decide +kernel
theorem dX11_less_1 : decode cX11_less 1 = .ok (.iload_n 1, 1) := by decide +kernel
theorem dX11_less_2 : decode cX11_less 2 = .ok (.iload_n 2, 1) := by decide +kernel
theorem dX11_less_3 : decode cX11_less 3 = .ok (.iload_n 3, 1) := by decide +kernel
theorem dX11_less_4 : decode cX11_less 4 = .ok (.iload 4, 2) := by decide +kernel
theorem dX11_less_6 : decode cX11_less 6 = .ok (.invokevirtual 344, 3) := by decide +kernel
theorem dX11_less_9 : decode cX11_less 9 = .ok (.ifCond .ne 7, 3) := by decide +kernel
theorem dX11_less_12 : decode cX11_less 12 = .ok (.ldc2_w 354, 3) := by decide +kernel
theorem dX11_less_15 : decode cX11_less 15 = .ok (.lreturn, 1) := by decide +kernel
theorem dX11_less_16 : decode cX11_less 16 = .ok (.aload_n 0, 1) := by decide +kernel
theorem dX11_less_17 : decode cX11_less 17 = .ok (.iconst 0, 1) := by decide +kernel
theorem dX11_less_18 : decode cX11_less 18 = .ok (.iload_n 1, 1) := by decide +kernel
theorem dX11_less_19 : decode cX11_less 19 = .ok (.invokestatic 150, 3) := by decide +kernel
theorem dX11_less_22 : decode cX11_less 22 = .ok (.iconst 1, 1) := by decide +kernel
theorem dX11_less_23 : decode cX11_less 23 = .ok (.iload_n 2, 1) := by decide +kernel
theorem dX11_less_24 : decode cX11_less 24 = .ok (.invokestatic 150, 3) := by decide +kernel
theorem dX11_less_27 : decode cX11_less 27 = .ok (.iload_n 3, 1) := by decide +kernel
theorem dX11_less_28 : decode cX11_less 28 = .ok (.invokevirtual 356, 3) := by decide +kernel
theorem dX11_less_31 : decode cX11_less 31 = .ok (.lstore 5, 2) := by decide +kernel
theorem dX11_less_33 : decode cX11_less 33 = .ok (.aload_n 0, 1) := by decide +kernel
theorem dX11_less_34 : decode cX11_less 34 = .ok (.iload 4, 2) := by decide +kernel
theorem dX11_less_36 : decode cX11_less 36 = .ok (.putfield 23, 3) := by decide +kernel
theorem dX11_less_39 : decode cX11_less 39 = .ok (.aload_n 0, 1) := by decide +kernel
theorem dX11_less_40 : decode cX11_less 40 = .ok (.iconst 0, 1) := by decide +kernel
theorem dX11_less_41 : decode cX11_less 41 = .ok (.iload_n 1, 1) := by decide +kernel
theorem dX11_less_42 : decode cX11_less 42 = .ok (.invokestatic 150, 3) := by decide +kernel
theorem dX11_less_45 : decode cX11_less 45 = .ok (.iconst 1, 1) := by decide +kernel
theorem dX11_less_46 : decode cX11_less 46 = .ok (.iload_n 2, 1) := by decide +kernel
theorem dX11_less_47 : decode cX11_less 47 = .ok (.invokestatic 150, 3) := by decide +kernel
theorem dX11_less_50 : decode cX11_less 50 = .ok (.iload_n 3, 1) := by decide +kernel
theorem dX11_less_51 : decode cX11_less 51 = .ok (.invokevirtual 356, 3) := by decide +kernel
theorem dX11_less_54 : decode cX11_less 54 = .ok (.lstore 7, 2) := by decide +kernel
theorem dX11_less_56 : decode cX11_less 56 = .ok (.aload_n 0, 1) := by decide +kernel
theorem dX11_less_57 : decode cX11_less 57 = .ok (.iconst (-1), 1) := by decide +kernel
theorem dX11_less_58 : decode cX11_less 58 = .ok (.putfield 23, 3) := by decide +kernel
theorem dX11_less_61 : decode cX11_less 61 = .ok (.lload 7, 2) := by decide +kernel
theorem dX11_less_63 : decode cX11_less 63 = .ok (.lload 5, 2) := by decide +kernel
theorem dX11_less_65 : decode cX11_less 65 = .ok (.lsub, 1) := by decide +kernel
theorem dX11_less_66 : decode cX11_less 66 = .ok (.lreturn, 1) := by decide +kernel
theorem dX11_betOf_0 : decode cX11_betOf 0 = .ok (.aload_n 0, 1) := by decide +kernel
theorem dX11_betOf_1 : decode cX11_betOf 1 = .ok (.iload_n 1, 1) := by decide +kernel
theorem dX11_betOf_2 : decode cX11_betOf 2 = .ok (.iload_n 2, 1) := by decide +kernel
theorem dX11_betOf_3 : decode cX11_betOf 3 = .ok (.iload_n 3, 1) := by decide +kernel
theorem dX11_betOf_4 : decode cX11_betOf 4 = .ok (.iload 4, 2) := by decide +kernel
theorem dX11_betOf_6 : decode cX11_betOf 6 = .ok (.iconst 0, 1) := by decide +kernel
theorem dX11_betOf_7 : decode cX11_betOf 7 = .ok (.invokevirtual 195, 3) := by decide +kernel
theorem dX11_betOf_10 : decode cX11_betOf 10 = .ok (.iload 5, 2) := by decide +kernel
theorem dX11_betOf_12 : decode cX11_betOf 12 = .ok (.i2l, 1) := by decide +kernel
theorem dX11_betOf_13 : decode cX11_betOf 13 = .ok (.lmul, 1) := by decide +kernel
theorem dX11_betOf_14 : decode cX11_betOf 14 = .ok (.ldc2_w 360, 3) := by decide +kernel
theorem dX11_betOf_17 : decode cX11_betOf 17 = .ok (.lsub, 1) := by decide +kernel
theorem dX11_betOf_18 : decode cX11_betOf 18 = .ok (.lreturn, 1) := by decide +kernel
theorem dX11_bet_0 : decode cX11_bet 0 = .ok (.aload_n 0, 1) := by decide +kernel
theorem dX11_bet_1 : decode cX11_bet 1 = .ok (.iload_n 1, 1) := by decide +kernel
theorem dX11_bet_2 : decode cX11_bet 2 = .ok (.iload_n 2, 1) := by decide +kernel
theorem dX11_bet_3 : decode cX11_bet 3 = .ok (.iload_n 3, 1) := by decide +kernel
theorem dX11_bet_4 : decode cX11_bet 4 = .ok (.iload 4, 2) := by decide +kernel
theorem dX11_bet_6 : decode cX11_bet 6 = .ok (.invokevirtual 202, 3) := by decide +kernel
theorem dX11_bet_9 : decode cX11_bet 9 = .ok (.ifCond .eq 33, 3) := by decide +kernel
theorem dX11_bet_12 : decode cX11_bet 12 = .ok (.iload 5, 2) := by decide +kernel
theorem dX11_bet_14 : decode cX11_bet 14 = .ok (.invokestatic 326, 3) := by decide +kernel
theorem dX11_bet_17 : decode cX11_bet 17 = .ok (.ifCond .eq 25, 3) := by decide +kernel
theorem dX11_bet_20 : decode cX11_bet 20 = .ok (.aload_n 0, 1) := by decide +kernel
theorem dX11_bet_21 : decode cX11_bet 21 = .ok (.iconst 0, 1) := by decide +kernel
theorem dX11_bet_22 : decode cX11_bet 22 = .ok (.iload_n 1, 1) := by decide +kernel
theorem dX11_bet_23 : decode cX11_bet 23 = .ok (.invokestatic 150, 3) := by decide +kernel
theorem dX11_bet_26 : decode cX11_bet 26 = .ok (.iconst 1, 1) := by decide +kernel
theorem dX11_bet_27 : decode cX11_bet 27 = .ok (.iload_n 2, 1) := by decide +kernel
theorem dX11_bet_28 : decode cX11_bet 28 = .ok (.invokestatic 150, 3) := by decide +kernel
theorem dX11_bet_31 : decode cX11_bet 31 = .ok (.iload_n 3, 1) := by decide +kernel
theorem dX11_bet_32 : decode cX11_bet 32 = .ok (.iload 4, 2) := by decide +kernel
theorem dX11_bet_34 : decode cX11_bet 34 = .ok (.iload 5, 2) := by decide +kernel
theorem dX11_bet_36 : decode cX11_bet 36 = .ok (.invokevirtual 362, 3) := by decide +kernel
theorem dX11_bet_39 : decode cX11_bet 39 = .ok (.goto 6, 3) := by decide +kernel
theorem dX11_bet_42 : decode cX11_bet 42 = .ok (.ldc2_w 354, 3) := by decide +kernel
theorem dX11_bet_45 : decode cX11_bet 45 = .ok (.lreturn, 1) := by decide +kernel
theorem dX11_best_0 : decode cX11_best 0 = .ok (.aload_n 0, 1) := by decide +kernel
theorem dX11_best_1 : decode cX11_best 1 = .ok (.iload_n 1, 1) := by decide +kernel
theorem dX11_best_2 : decode cX11_best 2 = .ok (.iload_n 3, 1) := by decide +kernel
theorem dX11_best_3 : decode cX11_best 3 = .ok (.invokevirtual 199, 3) := by decide +kernel
theorem dX11_best_6 : decode cX11_best 6 = .ok (.ifCond .eq 20, 3) := by decide +kernel
theorem dX11_best_9 : decode cX11_best 9 = .ok (.aload_n 0, 1) := by decide +kernel
theorem dX11_best_10 : decode cX11_best 10 = .ok (.iconst 1, 1) := by decide +kernel
theorem dX11_best_11 : decode cX11_best 11 = .ok (.iload_n 2, 1) := by decide +kernel
theorem dX11_best_12 : decode cX11_best 12 = .ok (.invokevirtual 130, 3) := by decide +kernel
theorem dX11_best_15 : decode cX11_best 15 = .ok (.ifCond .eq 11, 3) := by decide +kernel
theorem dX11_best_18 : decode cX11_best 18 = .ok (.iload 4, 2) := by decide +kernel
theorem dX11_best_20 : decode cX11_best 20 = .ok (.invokestatic 326, 3) := by decide +kernel
theorem dX11_best_23 : decode cX11_best 23 = .ok (.ifCond .ne 5, 3) := by decide +kernel
theorem dX11_best_26 : decode cX11_best 26 = .ok (.iconst (-1), 1) := by decide +kernel
theorem dX11_best_27 : decode cX11_best 27 = .ok (.ireturn, 1) := by decide +kernel
theorem dX11_best_28 : decode cX11_best 28 = .ok (.iconst (-1), 1) := by decide +kernel
theorem dX11_best_29 : decode cX11_best 29 = .ok (.istore 5, 2) := by decide +kernel
theorem dX11_best_31 : decode cX11_best 31 = .ok (.lconst 0, 1) := by decide +kernel
theorem dX11_best_32 : decode cX11_best 32 = .ok (.lstore 6, 2) := by decide +kernel
theorem dX11_best_34 : decode cX11_best 34 = .ok (.iconst 0, 1) := by decide +kernel
theorem dX11_best_35 : decode cX11_best 35 = .ok (.istore 8, 2) := by decide +kernel
theorem dX11_best_37 : decode cX11_best 37 = .ok (.iload 8, 2) := by decide +kernel
theorem dX11_best_39 : decode cX11_best 39 = .ok (.aload_n 0, 1) := by decide +kernel
theorem dX11_best_40 : decode cX11_best 40 = .ok (.iload_n 3, 1) := by decide +kernel
theorem dX11_best_41 : decode cX11_best 41 = .ok (.invokevirtual 153, 3) := by decide +kernel
theorem dX11_best_44 : decode cX11_best 44 = .ok (.if_icmp .ge 49, 3) := by decide +kernel
theorem dX11_best_47 : decode cX11_best 47 = .ok (.aload_n 0, 1) := by decide +kernel
theorem dX11_best_48 : decode cX11_best 48 = .ok (.iconst 0, 1) := by decide +kernel
theorem dX11_best_49 : decode cX11_best 49 = .ok (.iload_n 1, 1) := by decide +kernel
theorem dX11_best_50 : decode cX11_best 50 = .ok (.invokestatic 150, 3) := by decide +kernel
theorem dX11_best_53 : decode cX11_best 53 = .ok (.iconst 1, 1) := by decide +kernel
theorem dX11_best_54 : decode cX11_best 54 = .ok (.iload_n 2, 1) := by decide +kernel
theorem dX11_best_55 : decode cX11_best 55 = .ok (.invokestatic 150, 3) := by decide +kernel
theorem dX11_best_58 : decode cX11_best 58 = .ok (.iload_n 3, 1) := by decide +kernel
theorem dX11_best_59 : decode cX11_best 59 = .ok (.iload 8, 2) := by decide +kernel
theorem dX11_best_61 : decode cX11_best 61 = .ok (.iload 4, 2) := by decide +kernel
theorem dX11_best_63 : decode cX11_best 63 = .ok (.invokevirtual 362, 3) := by decide +kernel
theorem dX11_best_66 : decode cX11_best 66 = .ok (.lstore 9, 2) := by decide +kernel
theorem dX11_best_68 : decode cX11_best 68 = .ok (.lload 9, 2) := by decide +kernel
theorem dX11_best_70 : decode cX11_best 70 = .ok (.lload 6, 2) := by decide +kernel
theorem dX11_best_72 : decode cX11_best 72 = .ok (.lcmp, 1) := by decide +kernel
theorem dX11_best_73 : decode cX11_best 73 = .ok (.ifCond .gt 6, 3) := by decide +kernel
theorem dX11_best_76 : decode cX11_best 76 = .ok (.goto 11, 3) := by decide +kernel
theorem dX11_best_79 : decode cX11_best 79 = .ok (.iload 8, 2) := by decide +kernel
theorem dX11_best_81 : decode cX11_best 81 = .ok (.istore 5, 2) := by decide +kernel
theorem dX11_best_83 : decode cX11_best 83 = .ok (.lload 9, 2) := by decide +kernel
theorem dX11_best_85 : decode cX11_best 85 = .ok (.lstore 6, 2) := by decide +kernel
theorem dX11_best_87 : decode cX11_best 87 = .ok (.iinc 8 1, 3) := by decide +kernel
theorem dX11_best_90 : decode cX11_best 90 = .ok (.goto (-53), 3) := by decide +kernel
theorem dX11_best_93 : decode cX11_best 93 = .ok (.iload 5, 2) := by decide +kernel
theorem dX11_best_95 : decode cX11_best 95 = .ok (.ireturn, 1) := by decide +kernel
theorem dX11_fair_0 : decode cX11_fair 0 = .ok (.aload_n 0, 1) := by decide +kernel
theorem dX11_fair_1 : decode cX11_fair 1 = .ok (.iload_n 1, 1) := by decide +kernel
theorem dX11_fair_2 : decode cX11_fair 2 = .ok (.iload_n 2, 1) := by decide +kernel
theorem dX11_fair_3 : decode cX11_fair 3 = .ok (.iload_n 3, 1) := by decide +kernel
theorem dX11_fair_4 : decode cX11_fair 4 = .ok (.iload 4, 2) := by decide +kernel
theorem dX11_fair_6 : decode cX11_fair 6 = .ok (.invokevirtual 202, 3) := by decide +kernel
theorem dX11_fair_9 : decode cX11_fair 9 = .ok (.ifCond .ne 5, 3) := by decide +kernel
theorem dX11_fair_12 : decode cX11_fair 12 = .ok (.iconst (-1), 1) := by decide +kernel
theorem dX11_fair_13 : decode cX11_fair 13 = .ok (.ireturn, 1) := by decide +kernel
theorem dX11_fair_14 : decode cX11_fair 14 = .ok (.bipush 101, 2) := by decide +kernel
theorem dX11_fair_16 : decode cX11_fair 16 = .ok (.istore 5, 2) := by decide +kernel
theorem dX11_fair_18 : decode cX11_fair 18 = .ok (.iload 5, 2) := by decide +kernel
theorem dX11_fair_20 : decode cX11_fair 20 = .ok (.sipush 1000, 3) := by decide +kernel
theorem dX11_fair_23 : decode cX11_fair 23 = .ok (.if_icmp .ge 36, 3) := by decide +kernel
theorem dX11_fair_26 : decode cX11_fair 26 = .ok (.aload_n 0, 1) := by decide +kernel
theorem dX11_fair_27 : decode cX11_fair 27 = .ok (.iconst 0, 1) := by decide +kernel
theorem dX11_fair_28 : decode cX11_fair 28 = .ok (.iload_n 1, 1) := by decide +kernel
theorem dX11_fair_29 : decode cX11_fair 29 = .ok (.invokestatic 150, 3) := by decide +kernel
theorem dX11_fair_32 : decode cX11_fair 32 = .ok (.iconst 1, 1) := by decide +kernel
theorem dX11_fair_33 : decode cX11_fair 33 = .ok (.iload_n 2, 1) := by decide +kernel
theorem dX11_fair_34 : decode cX11_fair 34 = .ok (.invokestatic 150, 3) := by decide +kernel
theorem dX11_fair_37 : decode cX11_fair 37 = .ok (.iload_n 3, 1) := by decide +kernel
theorem dX11_fair_38 : decode cX11_fair 38 = .ok (.iload 4, 2) := by decide +kernel
theorem dX11_fair_40 : decode cX11_fair 40 = .ok (.iload 5, 2) := by decide +kernel
theorem dX11_fair_42 : decode cX11_fair 42 = .ok (.invokevirtual 362, 3) := by decide +kernel
theorem dX11_fair_45 : decode cX11_fair 45 = .ok (.lconst 0, 1) := by decide +kernel
theorem dX11_fair_46 : decode cX11_fair 46 = .ok (.lcmp, 1) := by decide +kernel
theorem dX11_fair_47 : decode cX11_fair 47 = .ok (.ifCond .lt 6, 3) := by decide +kernel
theorem dX11_fair_50 : decode cX11_fair 50 = .ok (.iload 5, 2) := by decide +kernel
theorem dX11_fair_52 : decode cX11_fair 52 = .ok (.ireturn, 1) := by decide +kernel
theorem dX11_fair_53 : decode cX11_fair 53 = .ok (.iinc 5 1, 3) := by decide +kernel
theorem dX11_fair_56 : decode cX11_fair 56 = .ok (.goto (-38), 3) := by decide +kernel
theorem dX11_fair_59 : decode cX11_fair 59 = .ok (.iconst (-1), 1) := by decide +kernel
theorem dX11_fair_60 : decode cX11_fair 60 = .ok (.ireturn, 1) := by decide +kernel
theorem dX11_count_0 : decode cX11_count 0 = .ok (.iload_n 1, 1) := by decide +kernel
theorem dX11_count_1 : decode cX11_count 1 = .ok (.iconst 0, 1) := by decide +kernel
theorem dX11_count_2 : decode cX11_count 2 = .ok (.iconst 3, 1) := by decide +kernel
theorem dX11_count_3 : decode cX11_count 3 = .ok (.invokestatic 90, 3) := by decide +kernel
theorem dX11_count_6 : decode cX11_count 6 = .ok (.ifCond .eq 12, 3) := by decide +kernel
theorem dX11_count_9 : decode cX11_count 9 = .ok (.aload_n 0, 1) := by decide +kernel
theorem dX11_count_10 : decode cX11_count 10 = .ok (.getfield 7, 3) := by decide +kernel
theorem dX11_count_13 : decode cX11_count 13 = .ok (.iload_n 1, 1) := by decide +kernel
theorem dX11_count_14 : decode cX11_count 14 = .ok (.iaload, 1) := by decide +kernel
theorem dX11_count_15 : decode cX11_count 15 = .ok (.goto 5, 3) := by decide +kernel
theorem dX11_count_18 : decode cX11_count 18 = .ok (.bipush (-2), 2) := by decide +kernel
theorem dX11_count_20 : decode cX11_count 20 = .ok (.ireturn, 1) := by decide +kernel
theorem dX11_image_0 : decode cX11_image 0 = .ok (.iload_n 1, 1) := by decide +kernel
theorem dX11_image_1 : decode cX11_image 1 = .ok (.iconst 0, 1) := by decide +kernel
theorem dX11_image_2 : decode cX11_image 2 = .ok (.iconst 2, 1) := by decide +kernel
theorem dX11_image_3 : decode cX11_image 3 = .ok (.invokestatic 90, 3) := by decide +kernel
theorem dX11_image_6 : decode cX11_image 6 = .ok (.ifCond .ne 5, 3) := by decide +kernel
theorem dX11_image_9 : decode cX11_image 9 = .ok (.iconst 0, 1) := by decide +kernel
theorem dX11_image_10 : decode cX11_image 10 = .ok (.ireturn, 1) := by decide +kernel
theorem dX11_image_11 : decode cX11_image 11 = .ok (.aload_n 0, 1) := by decide +kernel
theorem dX11_image_12 : decode cX11_image 12 = .ok (.getfield 13, 3) := by decide +kernel
theorem dX11_image_15 : decode cX11_image 15 = .ok (.iload_n 1, 1) := by decide +kernel
theorem dX11_image_16 : decode cX11_image 16 = .ok (.iconst 1, 1) := by decide +kernel
theorem dX11_image_17 : decode cX11_image 17 = .ok (.bastore, 1) := by decide +kernel
theorem dX11_image_18 : decode cX11_image 18 = .ok (.iconst 0, 1) := by decide +kernel
theorem dX11_image_19 : decode cX11_image 19 = .ok (.istore_n 2, 1) := by decide +kernel
theorem dX11_image_20 : decode cX11_image 20 = .ok (.iload_n 2, 1) := by decide +kernel
theorem dX11_image_21 : decode cX11_image 21 = .ok (.sipush 2562, 3) := by decide +kernel
theorem dX11_image_24 : decode cX11_image 24 = .ok (.if_icmp .ge 29, 3) := by decide +kernel
theorem dX11_image_27 : decode cX11_image 27 = .ok (.aload_n 0, 1) := by decide +kernel
theorem dX11_image_28 : decode cX11_image 28 = .ok (.getfield 7, 3) := by decide +kernel
theorem dX11_image_31 : decode cX11_image 31 = .ok (.sipush 2562, 3) := by decide +kernel
theorem dX11_image_34 : decode cX11_image 34 = .ok (.iload_n 1, 1) := by decide +kernel
theorem dX11_image_35 : decode cX11_image 35 = .ok (.iconst 1, 1) := by decide +kernel
theorem dX11_image_36 : decode cX11_image 36 = .ok (.iadd, 1) := by decide +kernel
theorem dX11_image_37 : decode cX11_image 37 = .ok (.imul, 1) := by decide +kernel
theorem dX11_image_38 : decode cX11_image 38 = .ok (.iload_n 2, 1) := by decide +kernel
theorem dX11_image_39 : decode cX11_image 39 = .ok (.iadd, 1) := by decide +kernel
theorem dX11_image_40 : decode cX11_image 40 = .ok (.aload_n 0, 1) := by decide +kernel
theorem dX11_image_41 : decode cX11_image 41 = .ok (.getfield 7, 3) := by decide +kernel
theorem dX11_image_44 : decode cX11_image 44 = .ok (.iload_n 2, 1) := by decide +kernel
theorem dX11_image_45 : decode cX11_image 45 = .ok (.iaload, 1) := by decide +kernel
theorem dX11_image_46 : decode cX11_image 46 = .ok (.iastore, 1) := by decide +kernel
theorem dX11_image_47 : decode cX11_image 47 = .ok (.iinc 2 1, 3) := by decide +kernel
theorem dX11_image_50 : decode cX11_image 50 = .ok (.goto (-30), 3) := by decide +kernel
theorem dX11_image_53 : decode cX11_image 53 = .ok (.iconst 1, 1) := by decide +kernel
theorem dX11_image_54 : decode cX11_image 54 = .ok (.ireturn, 1) := by decide +kernel
theorem dX11_again_0 : decode cX11_again 0 = .ok (.iload_n 1, 1) := by decide +kernel
theorem dX11_again_1 : decode cX11_again 1 = .ok (.iconst 0, 1) := by decide +kernel
theorem dX11_again_2 : decode cX11_again 2 = .ok (.iconst 2, 1) := by decide +kernel
theorem dX11_again_3 : decode cX11_again 3 = .ok (.invokestatic 90, 3) := by decide +kernel
theorem dX11_again_6 : decode cX11_again 6 = .ok (.ifCond .eq 12, 3) := by decide +kernel
theorem dX11_again_9 : decode cX11_again 9 = .ok (.aload_n 0, 1) := by decide +kernel
theorem dX11_again_10 : decode cX11_again 10 = .ok (.getfield 13, 3) := by decide +kernel
theorem dX11_again_13 : decode cX11_again 13 = .ok (.iload_n 1, 1) := by decide +kernel
theorem dX11_again_14 : decode cX11_again 14 = .ok (.baload, 1) := by decide +kernel
theorem dX11_again_15 : decode cX11_again 15 = .ok (.ifCond .ne 5, 3) := by decide +kernel
theorem dX11_again_18 : decode cX11_again 18 = .ok (.iconst 0, 1) := by decide +kernel
theorem dX11_again_19 : decode cX11_again 19 = .ok (.ireturn, 1) := by decide +kernel
theorem dX11_again_20 : decode cX11_again 20 = .ok (.iconst 0, 1) := by decide +kernel
theorem dX11_again_21 : decode cX11_again 21 = .ok (.istore_n 2, 1) := by decide +kernel
theorem dX11_again_22 : decode cX11_again 22 = .ok (.iload_n 2, 1) := by decide +kernel
theorem dX11_again_23 : decode cX11_again 23 = .ok (.sipush 2562, 3) := by decide +kernel
theorem dX11_again_26 : decode cX11_again 26 = .ok (.if_icmp .ge 29, 3) := by decide +kernel
theorem dX11_again_29 : decode cX11_again 29 = .ok (.aload_n 0, 1) := by decide +kernel
theorem dX11_again_30 : decode cX11_again 30 = .ok (.getfield 7, 3) := by decide +kernel
theorem dX11_again_33 : decode cX11_again 33 = .ok (.iload_n 2, 1) := by decide +kernel
theorem dX11_again_34 : decode cX11_again 34 = .ok (.aload_n 0, 1) := by decide +kernel
theorem dX11_again_35 : decode cX11_again 35 = .ok (.getfield 7, 3) := by decide +kernel
theorem dX11_again_38 : decode cX11_again 38 = .ok (.sipush 2562, 3) := by decide +kernel
theorem dX11_again_41 : decode cX11_again 41 = .ok (.iload_n 1, 1) := by decide +kernel
theorem dX11_again_42 : decode cX11_again 42 = .ok (.iconst 1, 1) := by decide +kernel
theorem dX11_again_43 : decode cX11_again 43 = .ok (.iadd, 1) := by decide +kernel
theorem dX11_again_44 : decode cX11_again 44 = .ok (.imul, 1) := by decide +kernel
theorem dX11_again_45 : decode cX11_again 45 = .ok (.iload_n 2, 1) := by decide +kernel
theorem dX11_again_46 : decode cX11_again 46 = .ok (.iadd, 1) := by decide +kernel
theorem dX11_again_47 : decode cX11_again 47 = .ok (.iaload, 1) := by decide +kernel
theorem dX11_again_48 : decode cX11_again 48 = .ok (.iastore, 1) := by decide +kernel
theorem dX11_again_49 : decode cX11_again 49 = .ok (.iinc 2 1, 3) := by decide +kernel
theorem dX11_again_52 : decode cX11_again 52 = .ok (.goto (-30), 3) := by decide +kernel
theorem dX11_again_55 : decode cX11_again 55 = .ok (.iconst 1, 1) := by decide +kernel
theorem dX11_again_56 : decode cX11_again 56 = .ok (.ireturn, 1) := by decide +kernel
