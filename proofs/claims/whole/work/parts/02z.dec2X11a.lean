/-! printed: decode rows -/
theorem dX11_init_0 : decode cX11_init 0 = .ok (.aload_n 0, 1) := by decide +kernel
theorem dX11_init_1 : decode cX11_init 1 = .ok (.invokespecial 1, 3) := by decide +kernel
theorem dX11_init_4 : decode cX11_init 4 = .ok (.aload_n 0, 1) := by decide +kernel
theorem dX11_init_5 : decode cX11_init 5 = .ok (.sipush 10250, 3) := by decide +kernel
theorem dX11_init_8 : decode cX11_init 8 = .ok (.newarray .int, 2) := by decide +kernel
theorem dX11_init_10 : decode cX11_init 10 = .ok (.putfield 7, 3) := by decide +kernel
theorem dX11_init_13 : decode cX11_init 13 = .ok (.aload_n 0, 1) := by decide +kernel
theorem dX11_init_14 : decode cX11_init 14 = .ok (.iconst 3, 1) := by decide +kernel
theorem dX11_init_15 : decode cX11_init 15 = .ok (.newarray .boolean, 2) := by decide +kernel
theorem dX11_init_17 : decode cX11_init 17 = .ok (.putfield 13, 3) := by decide +kernel
theorem dX11_init_20 : decode cX11_init 20 = .ok (.aload_n 0, 1) := by decide +kernel
theorem dX11_init_21 : decode cX11_init 21 = .ok (.sipush 242, 3) := by decide +kernel
theorem dX11_init_24 : decode cX11_init 24 = .ok (.newarray .int, 2) := by decide +kernel
theorem dX11_init_26 : decode cX11_init 26 = .ok (.putfield 17, 3) := by decide +kernel
theorem dX11_init_29 : decode cX11_init 29 = .ok (.aload_n 0, 1) := by decide +kernel
theorem dX11_init_30 : decode cX11_init 30 = .ok (.bipush 6, 2) := by decide +kernel
theorem dX11_init_32 : decode cX11_init 32 = .ok (.newarray .int, 2) := by decide +kernel
theorem dX11_init_34 : decode cX11_init 34 = .ok (.putfield 20, 3) := by decide +kernel
theorem dX11_init_37 : decode cX11_init 37 = .ok (.aload_n 0, 1) := by decide +kernel
theorem dX11_init_38 : decode cX11_init 38 = .ok (.iconst (-1), 1) := by decide +kernel
theorem dX11_init_39 : decode cX11_init 39 = .ok (.putfield 23, 3) := by decide +kernel
theorem dX11_init_42 : decode cX11_init 42 = .ok (.aload_n 0, 1) := by decide +kernel
theorem dX11_init_43 : decode cX11_init 43 = .ok (.bipush 42, 2) := by decide +kernel
theorem dX11_init_45 : decode cX11_init 45 = .ok (.newarray .long, 2) := by decide +kernel
theorem dX11_init_47 : decode cX11_init 47 = .ok (.putfield 27, 3) := by decide +kernel
theorem dX11_init_50 : decode cX11_init 50 = .ok (.aload_n 0, 1) := by decide +kernel
theorem dX11_init_51 : decode cX11_init 51 = .ok (.bipush 8, 2) := by decide +kernel
theorem dX11_init_53 : decode cX11_init 53 = .ok (.newarray .int, 2) := by decide +kernel
theorem dX11_init_55 : decode cX11_init 55 = .ok (.putfield 31, 3) := by decide +kernel
theorem dX11_init_58 : decode cX11_init 58 = .ok (.aload_n 0, 1) := by decide +kernel
theorem dX11_init_59 : decode cX11_init 59 = .ok (.bipush 61, 2) := by decide +kernel
theorem dX11_init_61 : decode cX11_init 61 = .ok (.newarray .long, 2) := by decide +kernel
theorem dX11_init_63 : decode cX11_init 63 = .ok (.putfield 34, 3) := by decide +kernel
theorem dX11_init_66 : decode cX11_init 66 = .ok (.aload_n 0, 1) := by decide +kernel
theorem dX11_init_67 : decode cX11_init 67 = .ok (.bipush 80, 2) := by decide +kernel
theorem dX11_init_69 : decode cX11_init 69 = .ok (.newarray .int, 2) := by decide +kernel
theorem dX11_init_71 : decode cX11_init 71 = .ok (.putfield 37, 3) := by decide +kernel
theorem dX11_init_74 : decode cX11_init 74 = .ok (.aload_n 0, 1) := by decide +kernel
theorem dX11_init_75 : decode cX11_init 75 = .ok (.bipush 40, 2) := by decide +kernel
theorem dX11_init_77 : decode cX11_init 77 = .ok (.newarray .int, 2) := by decide +kernel
theorem dX11_init_79 : decode cX11_init 79 = .ok (.putfield 40, 3) := by decide +kernel
theorem dX11_init_82 : decode cX11_init 82 = .ok (.aload_n 0, 1) := by decide +kernel
theorem dX11_init_83 : decode cX11_init 83 = .ok (.getfield 7, 3) := by decide +kernel
theorem dX11_init_86 : decode cX11_init 86 = .ok (.bipush 6, 2) := by decide +kernel
theorem dX11_init_88 : decode cX11_init 88 = .ok (.iconst (-1), 1) := by decide +kernel
theorem dX11_init_89 : decode cX11_init 89 = .ok (.iastore, 1) := by decide +kernel
theorem dX11_init_90 : decode cX11_init 90 = .ok (.return_, 1) := by decide +kernel
theorem dX11_isIn_0 : decode cX11_isIn 0 = .ok (.iload_n 0, 1) := by decide +kernel
theorem dX11_isIn_1 : decode cX11_isIn 1 = .ok (.iload_n 1, 1) := by decide +kernel
theorem dX11_isIn_2 : decode cX11_isIn 2 = .ok (.if_icmp .lt 12, 3) := by decide +kernel
theorem dX11_isIn_5 : decode cX11_isIn 5 = .ok (.iload_n 0, 1) := by decide +kernel
theorem dX11_isIn_6 : decode cX11_isIn 6 = .ok (.iload_n 2, 1) := by decide +kernel
theorem dX11_isIn_7 : decode cX11_isIn 7 = .ok (.if_icmp .gt 7, 3) := by decide +kernel
theorem dX11_isIn_10 : decode cX11_isIn 10 = .ok (.iconst 1, 1) := by decide +kernel
theorem dX11_isIn_11 : decode cX11_isIn 11 = .ok (.goto 4, 3) := by decide +kernel
theorem dX11_isIn_14 : decode cX11_isIn 14 = .ok (.iconst 0, 1) := by decide +kernel
theorem dX11_isIn_15 : decode cX11_isIn 15 = .ok (.ireturn, 1) := by decide +kernel
theorem dX11_feed_0 : decode cX11_feed 0 = .ok (.aload_n 0, 1) := by decide +kernel
theorem dX11_feed_1 : decode cX11_feed 1 = .ok (.getfield 7, 3) := by decide +kernel
theorem dX11_feed_4 : decode cX11_feed 4 = .ok (.iconst 4, 1) := by decide +kernel
theorem dX11_feed_5 : decode cX11_feed 5 = .ok (.iaload, 1) := by decide +kernel
theorem dX11_feed_6 : decode cX11_feed 6 = .ok (.bipush 20, 2) := by decide +kernel
theorem dX11_feed_8 : decode cX11_feed 8 = .ok (.iadd, 1) := by decide +kernel
theorem dX11_feed_9 : decode cX11_feed 9 = .ok (.sipush 500, 3) := by decide +kernel
theorem dX11_feed_12 : decode cX11_feed 12 = .ok (.if_icmp .le 5, 3) := by decide +kernel
theorem dX11_feed_15 : decode cX11_feed 15 = .ok (.iconst (-1), 1) := by decide +kernel
theorem dX11_feed_16 : decode cX11_feed 16 = .ok (.ireturn, 1) := by decide +kernel
theorem dX11_feed_17 : decode cX11_feed 17 = .ok (.iconst 0, 1) := by decide +kernel
theorem dX11_feed_18 : decode cX11_feed 18 = .ok (.istore 6, 2) := by decide +kernel
theorem dX11_feed_20 : decode cX11_feed 20 = .ok (.iload 6, 2) := by decide +kernel
theorem dX11_feed_22 : decode cX11_feed 22 = .ok (.bipush 20, 2) := by decide +kernel
theorem dX11_feed_24 : decode cX11_feed 24 = .ok (.if_icmp .ge 98, 3) := by decide +kernel
theorem dX11_feed_27 : decode cX11_feed 27 = .ok (.iload 6, 2) := by decide +kernel
theorem dX11_feed_29 : decode cX11_feed 29 = .ok (.iconst 4, 1) := by decide +kernel
theorem dX11_feed_30 : decode cX11_feed 30 = .ok (.if_icmp .ge 7, 3) := by decide +kernel
theorem dX11_feed_33 : decode cX11_feed 33 = .ok (.iload_n 1, 1) := by decide +kernel
theorem dX11_feed_34 : decode cX11_feed 34 = .ok (.goto 39, 3) := by decide +kernel
theorem dX11_feed_37 : decode cX11_feed 37 = .ok (.iload 6, 2) := by decide +kernel
theorem dX11_feed_39 : decode cX11_feed 39 = .ok (.bipush 8, 2) := by decide +kernel
theorem dX11_feed_41 : decode cX11_feed 41 = .ok (.if_icmp .ge 7, 3) := by decide +kernel
theorem dX11_feed_44 : decode cX11_feed 44 = .ok (.iload_n 2, 1) := by decide +kernel
theorem dX11_feed_45 : decode cX11_feed 45 = .ok (.goto 28, 3) := by decide +kernel
theorem dX11_feed_48 : decode cX11_feed 48 = .ok (.iload 6, 2) := by decide +kernel
theorem dX11_feed_50 : decode cX11_feed 50 = .ok (.bipush 12, 2) := by decide +kernel
theorem dX11_feed_52 : decode cX11_feed 52 = .ok (.if_icmp .ge 7, 3) := by decide +kernel
theorem dX11_feed_55 : decode cX11_feed 55 = .ok (.iload_n 3, 1) := by decide +kernel
theorem dX11_feed_56 : decode cX11_feed 56 = .ok (.goto 17, 3) := by decide +kernel
theorem dX11_feed_59 : decode cX11_feed 59 = .ok (.iload 6, 2) := by decide +kernel
theorem dX11_feed_61 : decode cX11_feed 61 = .ok (.bipush 16, 2) := by decide +kernel
theorem dX11_feed_63 : decode cX11_feed 63 = .ok (.if_icmp .ge 8, 3) := by decide +kernel
theorem dX11_feed_66 : decode cX11_feed 66 = .ok (.iload 4, 2) := by decide +kernel
theorem dX11_feed_68 : decode cX11_feed 68 = .ok (.goto 5, 3) := by decide +kernel
theorem dX11_feed_71 : decode cX11_feed 71 = .ok (.iload 5, 2) := by decide +kernel
theorem dX11_feed_73 : decode cX11_feed 73 = .ok (.istore 7, 2) := by decide +kernel
theorem dX11_feed_75 : decode cX11_feed 75 = .ok (.aload_n 0, 1) := by decide +kernel
theorem dX11_feed_76 : decode cX11_feed 76 = .ok (.getfield 7, 3) := by decide +kernel
theorem dX11_feed_79 : decode cX11_feed 79 = .ok (.bipush 10, 2) := by decide +kernel
theorem dX11_feed_81 : decode cX11_feed 81 = .ok (.aload_n 0, 1) := by decide +kernel
theorem dX11_feed_82 : decode cX11_feed 82 = .ok (.getfield 7, 3) := by decide +kernel
theorem dX11_feed_85 : decode cX11_feed 85 = .ok (.iconst 4, 1) := by decide +kernel
theorem dX11_feed_86 : decode cX11_feed 86 = .ok (.iaload, 1) := by decide +kernel
theorem dX11_feed_87 : decode cX11_feed 87 = .ok (.iadd, 1) := by decide +kernel
theorem dX11_feed_88 : decode cX11_feed 88 = .ok (.iload 7, 2) := by decide +kernel
theorem dX11_feed_90 : decode cX11_feed 90 = .ok (.bipush 24, 2) := by decide +kernel
theorem dX11_feed_92 : decode cX11_feed 92 = .ok (.bipush 8, 2) := by decide +kernel
theorem dX11_feed_94 : decode cX11_feed 94 = .ok (.iload 6, 2) := by decide +kernel
theorem dX11_feed_96 : decode cX11_feed 96 = .ok (.iconst 4, 1) := by decide +kernel
theorem dX11_feed_97 : decode cX11_feed 97 = .ok (.irem, 1) := by decide +kernel
theorem dX11_feed_98 : decode cX11_feed 98 = .ok (.imul, 1) := by decide +kernel
theorem dX11_feed_99 : decode cX11_feed 99 = .ok (.isub, 1) := by decide +kernel
theorem dX11_feed_100 : decode cX11_feed 100 = .ok (.ishr, 1) := by decide +kernel
theorem dX11_feed_101 : decode cX11_feed 101 = .ok (.sipush 255, 3) := by decide +kernel
theorem dX11_feed_104 : decode cX11_feed 104 = .ok (.iand, 1) := by decide +kernel
theorem dX11_feed_105 : decode cX11_feed 105 = .ok (.iastore, 1) := by decide +kernel
theorem dX11_feed_106 : decode cX11_feed 106 = .ok (.aload_n 0, 1) := by decide +kernel
theorem dX11_feed_107 : decode cX11_feed 107 = .ok (.getfield 7, 3) := by decide +kernel
theorem dX11_feed_110 : decode cX11_feed 110 = .ok (.iconst 4, 1) := by decide +kernel
theorem dX11_feed_111 : decode cX11_feed 111 = .ok (.dup2, 1) := by decide +kernel
theorem dX11_feed_112 : decode cX11_feed 112 = .ok (.iaload, 1) := by decide +kernel
theorem dX11_feed_113 : decode cX11_feed 113 = .ok (.iconst 1, 1) := by decide +kernel
theorem dX11_feed_114 : decode cX11_feed 114 = .ok (.iadd, 1) := by decide +kernel
theorem dX11_feed_115 : decode cX11_feed 115 = .ok (.iastore, 1) := by decide +kernel
theorem dX11_feed_116 : decode cX11_feed 116 = .ok (.iinc 6 1, 3) := by decide +kernel
theorem dX11_feed_119 : decode cX11_feed 119 = .ok (.goto (-99), 3) := by decide +kernel
theorem dX11_feed_122 : decode cX11_feed 122 = .ok (.aload_n 0, 1) := by decide +kernel
theorem dX11_feed_123 : decode cX11_feed 123 = .ok (.getfield 7, 3) := by decide +kernel
theorem dX11_feed_126 : decode cX11_feed 126 = .ok (.iconst 4, 1) := by decide +kernel
theorem dX11_feed_127 : decode cX11_feed 127 = .ok (.iaload, 1) := by decide +kernel
theorem dX11_feed_128 : decode cX11_feed 128 = .ok (.ireturn, 1) := by decide +kernel
theorem dX11_end_0 : decode cX11_end 0 = .ok (.iload_n 1, 1) := by decide +kernel
theorem dX11_end_1 : decode cX11_end 1 = .ok (.ifCond .lt 13, 3) := by decide +kernel
theorem dX11_end_4 : decode cX11_end 4 = .ok (.iload_n 1, 1) := by decide +kernel
theorem dX11_end_5 : decode cX11_end 5 = .ok (.aload_n 0, 1) := by decide +kernel
theorem dX11_end_6 : decode cX11_end 6 = .ok (.getfield 7, 3) := by decide +kernel
theorem dX11_end_9 : decode cX11_end 9 = .ok (.iconst 4, 1) := by decide +kernel
theorem dX11_end_10 : decode cX11_end 10 = .ok (.iaload, 1) := by decide +kernel
theorem dX11_end_11 : decode cX11_end 11 = .ok (.if_icmp .le 5, 3) := by decide +kernel
theorem dX11_end_14 : decode cX11_end 14 = .ok (.iconst (-1), 1) := by decide +kernel
theorem dX11_end_15 : decode cX11_end 15 = .ok (.ireturn, 1) := by decide +kernel
theorem dX11_end_16 : decode cX11_end 16 = .ok (.aload_n 0, 1) := by decide +kernel
theorem dX11_end_17 : decode cX11_end 17 = .ok (.getfield 7, 3) := by decide +kernel
theorem dX11_end_20 : decode cX11_end 20 = .ok (.iconst 4, 1) := by decide +kernel
theorem dX11_end_21 : decode cX11_end 21 = .ok (.iload_n 1, 1) := by decide +kernel
theorem dX11_end_22 : decode cX11_end 22 = .ok (.iastore, 1) := by decide +kernel
theorem dX11_end_23 : decode cX11_end 23 = .ok (.iload_n 1, 1) := by decide +kernel
theorem dX11_end_24 : decode cX11_end 24 = .ok (.ireturn, 1) := by decide +kernel
theorem dX11_byteAt_0 : decode cX11_byteAt 0 = .ok (.iload_n 1, 1) := by decide +kernel
theorem dX11_byteAt_1 : decode cX11_byteAt 1 = .ok (.aload_n 0, 1) := by decide +kernel
theorem dX11_byteAt_2 : decode cX11_byteAt 2 = .ok (.getfield 43, 3) := by decide +kernel
theorem dX11_byteAt_5 : decode cX11_byteAt 5 = .ok (.if_icmp .ge 15, 3) := by decide +kernel
theorem dX11_byteAt_8 : decode cX11_byteAt 8 = .ok (.aload_n 0, 1) := by decide +kernel
theorem dX11_byteAt_9 : decode cX11_byteAt 9 = .ok (.getfield 7, 3) := by decide +kernel
theorem dX11_byteAt_12 : decode cX11_byteAt 12 = .ok (.bipush 10, 2) := by decide +kernel
theorem dX11_byteAt_14 : decode cX11_byteAt 14 = .ok (.iload_n 1, 1) := by decide +kernel
theorem dX11_byteAt_15 : decode cX11_byteAt 15 = .ok (.iadd, 1) := by decide +kernel
theorem dX11_byteAt_16 : decode cX11_byteAt 16 = .ok (.iaload, 1) := by decide +kernel
theorem dX11_byteAt_17 : decode cX11_byteAt 17 = .ok (.goto 4, 3) := by decide +kernel
theorem dX11_byteAt_20 : decode cX11_byteAt 20 = .ok (.iconst (-1), 1) := by decide +kernel
theorem dX11_byteAt_21 : decode cX11_byteAt 21 = .ok (.ireturn, 1) := by decide +kernel
theorem dX11_isLetter_0 : decode cX11_isLetter 0 = .ok (.iload_n 0, 1) := by decide +kernel
theorem dX11_isLetter_1 : decode cX11_isLetter 1 = .ok (.bipush 97, 2) := by decide +kernel
theorem dX11_isLetter_3 : decode cX11_isLetter 3 = .ok (.if_icmp .lt 13, 3) := by decide +kernel
theorem dX11_isLetter_6 : decode cX11_isLetter 6 = .ok (.iload_n 0, 1) := by decide +kernel
theorem dX11_isLetter_7 : decode cX11_isLetter 7 = .ok (.bipush 122, 2) := by decide +kernel
theorem dX11_isLetter_9 : decode cX11_isLetter 9 = .ok (.if_icmp .gt 7, 3) := by decide +kernel
theorem dX11_isLetter_12 : decode cX11_isLetter 12 = .ok (.iconst 1, 1) := by decide +kernel
theorem dX11_isLetter_13 : decode cX11_isLetter 13 = .ok (.goto 4, 3) := by decide +kernel
theorem dX11_isLetter_16 : decode cX11_isLetter 16 = .ok (.iconst 0, 1) := by decide +kernel
theorem dX11_isLetter_17 : decode cX11_isLetter 17 = .ok (.ireturn, 1) := by decide +kernel
theorem dX11_isDigit_0 : decode cX11_isDigit 0 = .ok (.iload_n 0, 1) := by decide +kernel
theorem dX11_isDigit_1 : decode cX11_isDigit 1 = .ok (.bipush 48, 2) := by decide +kernel
theorem dX11_isDigit_3 : decode cX11_isDigit 3 = .ok (.if_icmp .lt 13, 3) := by decide +kernel
theorem dX11_isDigit_6 : decode cX11_isDigit 6 = .ok (.iload_n 0, 1) := by decide +kernel
theorem dX11_isDigit_7 : decode cX11_isDigit 7 = .ok (.bipush 57, 2) := by decide +kernel
theorem dX11_isDigit_9 : decode cX11_isDigit 9 = .ok (.if_icmp .gt 7, 3) := by decide +kernel
theorem dX11_isDigit_12 : decode cX11_isDigit 12 = .ok (.iconst 1, 1) := by decide +kernel
theorem dX11_isDigit_13 : decode cX11_isDigit 13 = .ok (.goto 4, 3) := by decide +kernel
theorem dX11_isDigit_16 : decode cX11_isDigit 16 = .ok (.iconst 0, 1) := by decide +kernel
theorem dX11_isDigit_17 : decode cX11_isDigit 17 = .ok (.ireturn, 1) := by decide +kernel
theorem dX11_three_0 : decode cX11_three 0 = .ok (.bipush 32, 2) := by decide +kernel
theorem dX11_three_2 : decode cX11_three 2 = .ok (.iload_n 0, 1) := by decide +kernel
theorem dX11_three_3 : decode cX11_three 3 = .ok (.imul, 1) := by decide +kernel
theorem dX11_three_4 : decode cX11_three 4 = .ok (.iload_n 1, 1) := by decide +kernel
theorem dX11_three_5 : decode cX11_three 5 = .ok (.iadd, 1) := by decide +kernel
theorem dX11_three_6 : decode cX11_three 6 = .ok (.bipush 32, 2) := by decide +kernel
theorem dX11_three_8 : decode cX11_three 8 = .ok (.imul, 1) := by decide +kernel
theorem dX11_three_9 : decode cX11_three 9 = .ok (.iload_n 2, 1) := by decide +kernel
theorem dX11_three_10 : decode cX11_three 10 = .ok (.iadd, 1) := by decide +kernel
theorem dX11_three_11 : decode cX11_three 11 = .ok (.ireturn, 1) := by decide +kernel
theorem dX11_wordOf_0 : decode cX11_wordOf 0 = .ok (.iload_n 0, 1) := by decide +kernel
theorem dX11_wordOf_1 : decode cX11_wordOf 1 = .ok (.ldc 46, 2) := by decide +kernel
theorem dX11_wordOf_3 : decode cX11_wordOf 3 = .ok (.bipush 7, 2) := by decide +kernel
theorem dX11_wordOf_5 : decode cX11_wordOf 5 = .ok (.bipush 18, 2) := by decide +kernel
theorem dX11_wordOf_7 : decode cX11_wordOf 7 = .ok (.bipush 15, 2) := by decide +kernel
theorem dX11_wordOf_9 : decode cX11_wordOf 9 = .ok (.invokestatic 47, 3) := by decide +kernel
theorem dX11_wordOf_12 : decode cX11_wordOf 12 = .ok (.imul, 1) := by decide +kernel
theorem dX11_wordOf_13 : decode cX11_wordOf 13 = .ok (.bipush 21, 2) := by decide +kernel
theorem dX11_wordOf_15 : decode cX11_wordOf 15 = .ok (.bipush 14, 2) := by decide +kernel
theorem dX11_wordOf_17 : decode cX11_wordOf 17 = .ok (.iconst 4, 1) := by decide +kernel
theorem dX11_wordOf_18 : decode cX11_wordOf 18 = .ok (.invokestatic 47, 3) := by decide +kernel
theorem dX11_wordOf_21 : decode cX11_wordOf 21 = .ok (.iadd, 1) := by decide +kernel
theorem dX11_wordOf_22 : decode cX11_wordOf 22 = .ok (.if_icmp .ne 5, 3) := by decide +kernel
theorem dX11_wordOf_25 : decode cX11_wordOf 25 = .ok (.iconst 1, 1) := by decide +kernel
theorem dX11_wordOf_26 : decode cX11_wordOf 26 = .ok (.ireturn, 1) := by decide +kernel
theorem dX11_wordOf_27 : decode cX11_wordOf 27 = .ok (.iload_n 0, 1) := by decide +kernel
theorem dX11_wordOf_28 : decode cX11_wordOf 28 = .ok (.bipush 32, 2) := by decide +kernel
theorem dX11_wordOf_30 : decode cX11_wordOf 30 = .ok (.bipush 19, 2) := by decide +kernel
theorem dX11_wordOf_32 : decode cX11_wordOf 32 = .ok (.bipush 9, 2) := by decide +kernel
theorem dX11_wordOf_34 : decode cX11_wordOf 34 = .ok (.iconst 4, 1) := by decide +kernel
theorem dX11_wordOf_35 : decode cX11_wordOf 35 = .ok (.invokestatic 47, 3) := by decide +kernel
theorem dX11_wordOf_38 : decode cX11_wordOf 38 = .ok (.imul, 1) := by decide +kernel
theorem dX11_wordOf_39 : decode cX11_wordOf 39 = .ok (.iconst 5, 1) := by decide +kernel
theorem dX11_wordOf_40 : decode cX11_wordOf 40 = .ok (.iadd, 1) := by decide +kernel
theorem dX11_wordOf_41 : decode cX11_wordOf 41 = .ok (.if_icmp .ne 5, 3) := by decide +kernel
theorem dX11_wordOf_44 : decode cX11_wordOf 44 = .ok (.iconst 2, 1) := by decide +kernel
theorem dX11_wordOf_45 : decode cX11_wordOf 45 = .ok (.ireturn, 1) := by decide +kernel
theorem dX11_wordOf_46 : decode cX11_wordOf 46 = .ok (.iload_n 0, 1) := by decide +kernel
theorem dX11_wordOf_47 : decode cX11_wordOf 47 = .ok (.bipush 32, 2) := by decide +kernel
theorem dX11_wordOf_49 : decode cX11_wordOf 49 = .ok (.iconst 2, 1) := by decide +kernel
theorem dX11_wordOf_50 : decode cX11_wordOf 50 = .ok (.iconst 1, 1) := by decide +kernel
theorem dX11_wordOf_51 : decode cX11_wordOf 51 = .ok (.bipush 19, 2) := by decide +kernel
theorem dX11_wordOf_53 : decode cX11_wordOf 53 = .ok (.invokestatic 47, 3) := by decide +kernel
theorem dX11_wordOf_56 : decode cX11_wordOf 56 = .ok (.imul, 1) := by decide +kernel
theorem dX11_wordOf_57 : decode cX11_wordOf 57 = .ok (.iconst 5, 1) := by decide +kernel
theorem dX11_wordOf_58 : decode cX11_wordOf 58 = .ok (.iadd, 1) := by decide +kernel
theorem dX11_wordOf_59 : decode cX11_wordOf 59 = .ok (.if_icmp .ne 6, 3) := by decide +kernel
theorem dX11_wordOf_62 : decode cX11_wordOf 62 = .ok (.bipush 11, 2) := by decide +kernel
theorem dX11_wordOf_64 : decode cX11_wordOf 64 = .ok (.ireturn, 1) := by decide +kernel
theorem dX11_wordOf_65 : decode cX11_wordOf 65 = .ok (.iload_n 0, 1) := by decide +kernel
theorem dX11_wordOf_66 : decode cX11_wordOf 66 = .ok (.sipush 1024, 3) := by decide +kernel
theorem dX11_wordOf_69 : decode cX11_wordOf 69 = .ok (.bipush 11, 2) := by decide +kernel
theorem dX11_wordOf_71 : decode cX11_wordOf 71 = .ok (.bipush 14, 2) := by decide +kernel
theorem dX11_wordOf_73 : decode cX11_wordOf 73 = .ok (.bipush 15, 2) := by decide +kernel
theorem dX11_wordOf_75 : decode cX11_wordOf 75 = .ok (.invokestatic 47, 3) := by decide +kernel
theorem dX11_wordOf_78 : decode cX11_wordOf 78 = .ok (.imul, 1) := by decide +kernel
theorem dX11_wordOf_79 : decode cX11_wordOf 79 = .ok (.sipush 736, 3) := by decide +kernel
theorem dX11_wordOf_82 : decode cX11_wordOf 82 = .ok (.iadd, 1) := by decide +kernel
theorem dX11_wordOf_83 : decode cX11_wordOf 83 = .ok (.bipush 14, 2) := by decide +kernel
theorem dX11_wordOf_85 : decode cX11_wordOf 85 = .ok (.iadd, 1) := by decide +kernel
theorem dX11_wordOf_86 : decode cX11_wordOf 86 = .ok (.if_icmp .ne 6, 3) := by decide +kernel
theorem dX11_wordOf_89 : decode cX11_wordOf 89 = .ok (.bipush 12, 2) := by decide +kernel
theorem dX11_wordOf_91 : decode cX11_wordOf 91 = .ok (.ireturn, 1) := by decide +kernel
theorem dX11_wordOf_92 : decode cX11_wordOf 92 = .ok (.iload_n 0, 1) := by decide +kernel
theorem dX11_wordOf_93 : decode cX11_wordOf 93 = .ok (.sipush 1024, 3) := by decide +kernel
theorem dX11_wordOf_96 : decode cX11_wordOf 96 = .ok (.bipush 13, 2) := by decide +kernel
theorem dX11_wordOf_98 : decode cX11_wordOf 98 = .ok (.bipush 9, 2) := by decide +kernel
theorem dX11_wordOf_100 : decode cX11_wordOf 100 = .ok (.bipush 12, 2) := by decide +kernel
theorem dX11_wordOf_102 : decode cX11_wordOf 102 = .ok (.invokestatic 47, 3) := by decide +kernel
theorem dX11_wordOf_105 : decode cX11_wordOf 105 = .ok (.imul, 1) := by decide +kernel
theorem dX11_wordOf_106 : decode cX11_wordOf 106 = .ok (.sipush 160, 3) := by decide +kernel
theorem dX11_wordOf_109 : decode cX11_wordOf 109 = .ok (.iadd, 1) := by decide +kernel
theorem dX11_wordOf_110 : decode cX11_wordOf 110 = .ok (.bipush 19, 2) := by decide +kernel
theorem dX11_wordOf_112 : decode cX11_wordOf 112 = .ok (.iadd, 1) := by decide +kernel
theorem dX11_wordOf_113 : decode cX11_wordOf 113 = .ok (.if_icmp .ne 6, 3) := by decide +kernel
theorem dX11_wordOf_116 : decode cX11_wordOf 116 = .ok (.bipush 13, 2) := by decide +kernel
theorem dX11_wordOf_118 : decode cX11_wordOf 118 = .ok (.ireturn, 1) := by decide +kernel
theorem dX11_wordOf_119 : decode cX11_wordOf 119 = .ok (.iload_n 0, 1) := by decide +kernel
theorem dX11_wordOf_120 : decode cX11_wordOf 120 = .ok (.bipush 32, 2) := by decide +kernel
theorem dX11_wordOf_122 : decode cX11_wordOf 122 = .ok (.bipush 18, 2) := by decide +kernel
theorem dX11_wordOf_124 : decode cX11_wordOf 124 = .ok (.iconst 5, 1) := by decide +kernel
theorem dX11_wordOf_125 : decode cX11_wordOf 125 = .ok (.bipush 19, 2) := by decide +kernel
theorem dX11_wordOf_127 : decode cX11_wordOf 127 = .ok (.invokestatic 47, 3) := by decide +kernel
theorem dX11_wordOf_130 : decode cX11_wordOf 130 = .ok (.imul, 1) := by decide +kernel
theorem dX11_wordOf_131 : decode cX11_wordOf 131 = .ok (.bipush 20, 2) := by decide +kernel
theorem dX11_wordOf_133 : decode cX11_wordOf 133 = .ok (.iadd, 1) := by decide +kernel
theorem dX11_wordOf_134 : decode cX11_wordOf 134 = .ok (.if_icmp .ne 6, 3) := by decide +kernel
theorem dX11_wordOf_137 : decode cX11_wordOf 137 = .ok (.bipush 14, 2) := by decide +kernel
theorem dX11_wordOf_139 : decode cX11_wordOf 139 = .ok (.ireturn, 1) := by decide +kernel
theorem dX11_wordOf_140 : decode cX11_wordOf 140 = .ok (.iload_n 0, 1) := by decide +kernel
theorem dX11_wordOf_141 : decode cX11_wordOf 141 = .ok (.bipush 32, 2) := by decide +kernel
theorem dX11_wordOf_143 : decode cX11_wordOf 143 = .ok (.bipush 19, 2) := by decide +kernel
theorem dX11_wordOf_145 : decode cX11_wordOf 145 = .ok (.bipush 21, 2) := by decide +kernel
theorem dX11_wordOf_147 : decode cX11_wordOf 147 = .ok (.bipush 14, 2) := by decide +kernel
theorem dX11_wordOf_149 : decode cX11_wordOf 149 = .ok (.invokestatic 47, 3) := by decide +kernel
theorem dX11_wordOf_152 : decode cX11_wordOf 152 = .ok (.imul, 1) := by decide +kernel
theorem dX11_wordOf_153 : decode cX11_wordOf 153 = .ok (.bipush 7, 2) := by decide +kernel
theorem dX11_wordOf_155 : decode cX11_wordOf 155 = .ok (.iadd, 1) := by decide +kernel
theorem dX11_wordOf_156 : decode cX11_wordOf 156 = .ok (.if_icmp .ne 6, 3) := by decide +kernel
theorem dX11_wordOf_159 : decode cX11_wordOf 159 = .ok (.bipush 15, 2) := by decide +kernel
theorem dX11_wordOf_161 : decode cX11_wordOf 161 = .ok (.ireturn, 1) := by decide +kernel
theorem dX11_wordOf_162 : decode cX11_wordOf 162 = .ok (.iload_n 0, 1) := by decide +kernel
theorem dX11_wordOf_163 : decode cX11_wordOf 163 = .ok (.ldc 46, 2) := by decide +kernel
theorem dX11_wordOf_165 : decode cX11_wordOf 165 = .ok (.bipush 10, 2) := by decide +kernel
theorem dX11_wordOf_167 : decode cX11_wordOf 167 = .ok (.bipush 21, 2) := by decide +kernel
theorem dX11_wordOf_169 : decode cX11_wordOf 169 = .ok (.iconst 4, 1) := by decide +kernel
theorem dX11_wordOf_170 : decode cX11_wordOf 170 = .ok (.invokestatic 47, 3) := by decide +kernel
theorem dX11_wordOf_173 : decode cX11_wordOf 173 = .ok (.imul, 1) := by decide +kernel
theorem dX11_wordOf_174 : decode cX11_wordOf 174 = .ok (.bipush 7, 2) := by decide +kernel
theorem dX11_wordOf_176 : decode cX11_wordOf 176 = .ok (.iconst 5, 1) := by decide +kernel
theorem dX11_wordOf_177 : decode cX11_wordOf 177 = .ok (.iconst 4, 1) := by decide +kernel
theorem dX11_wordOf_178 : decode cX11_wordOf 178 = .ok (.invokestatic 47, 3) := by decide +kernel
theorem dX11_wordOf_181 : decode cX11_wordOf 181 = .ok (.iadd, 1) := by decide +kernel
theorem dX11_wordOf_182 : decode cX11_wordOf 182 = .ok (.if_icmp .ne 6, 3) := by decide +kernel
theorem dX11_wordOf_185 : decode cX11_wordOf 185 = .ok (.bipush 16, 2) := by decide +kernel
theorem dX11_wordOf_187 : decode cX11_wordOf 187 = .ok (.ireturn, 1) := by decide +kernel
theorem dX11_wordOf_188 : decode cX11_wordOf 188 = .ok (.iload_n 0, 1) := by decide +kernel
theorem dX11_wordOf_189 : decode cX11_wordOf 189 = .ok (.ldc 46, 2) := by decide +kernel
theorem dX11_wordOf_191 : decode cX11_wordOf 191 = .ok (.bipush 8, 2) := by decide +kernel
theorem dX11_wordOf_193 : decode cX11_wordOf 193 = .ok (.iconst 5, 1) := by decide +kernel
theorem dX11_wordOf_194 : decode cX11_wordOf 194 = .ok (.bipush 9, 2) := by decide +kernel
theorem dX11_wordOf_196 : decode cX11_wordOf 196 = .ok (.invokestatic 47, 3) := by decide +kernel
theorem dX11_wordOf_199 : decode cX11_wordOf 199 = .ok (.imul, 1) := by decide +kernel
theorem dX11_wordOf_200 : decode cX11_wordOf 200 = .ok (.bipush 7, 2) := by decide +kernel
theorem dX11_wordOf_202 : decode cX11_wordOf 202 = .ok (.bipush 8, 2) := by decide +kernel
theorem dX11_wordOf_204 : decode cX11_wordOf 204 = .ok (.bipush 20, 2) := by decide +kernel
theorem dX11_wordOf_206 : decode cX11_wordOf 206 = .ok (.invokestatic 47, 3) := by decide +kernel
theorem dX11_wordOf_209 : decode cX11_wordOf 209 = .ok (.iadd, 1) := by decide +kernel
theorem dX11_wordOf_210 : decode cX11_wordOf 210 = .ok (.if_icmp .ne 6, 3) := by decide +kernel
theorem dX11_wordOf_213 : decode cX11_wordOf 213 = .ok (.bipush 17, 2) := by decide +kernel
theorem dX11_wordOf_215 : decode cX11_wordOf 215 = .ok (.ireturn, 1) := by decide +kernel
theorem dX11_wordOf_216 : decode cX11_wordOf 216 = .ok (.iload_n 0, 1) := by decide +kernel
theorem dX11_wordOf_217 : decode cX11_wordOf 217 = .ok (.iconst 4, 1) := by decide +kernel
theorem dX11_wordOf_218 : decode cX11_wordOf 218 = .ok (.iconst 1, 1) := by decide +kernel
theorem dX11_wordOf_219 : decode cX11_wordOf 219 = .ok (.bipush 25, 2) := by decide +kernel
theorem dX11_wordOf_221 : decode cX11_wordOf 221 = .ok (.invokestatic 47, 3) := by decide +kernel
theorem dX11_wordOf_224 : decode cX11_wordOf 224 = .ok (.if_icmp .ne 6, 3) := by decide +kernel
theorem dX11_wordOf_227 : decode cX11_wordOf 227 = .ok (.bipush 21, 2) := by decide +kernel
theorem dX11_wordOf_229 : decode cX11_wordOf 229 = .ok (.ireturn, 1) := by decide +kernel
theorem dX11_wordOf_230 : decode cX11_wordOf 230 = .ok (.iload_n 0, 1) := by decide +kernel
theorem dX11_wordOf_231 : decode cX11_wordOf 231 = .ok (.ldc 46, 2) := by decide +kernel
theorem dX11_wordOf_233 : decode cX11_wordOf 233 = .ok (.bipush 16, 2) := by decide +kernel
theorem dX11_wordOf_235 : decode cX11_wordOf 235 = .ok (.iconst 5, 1) := by decide +kernel
theorem dX11_wordOf_236 : decode cX11_wordOf 236 = .ok (.bipush 15, 2) := by decide +kernel
theorem dX11_wordOf_238 : decode cX11_wordOf 238 = .ok (.invokestatic 47, 3) := by decide +kernel
theorem dX11_wordOf_241 : decode cX11_wordOf 241 = .ok (.imul, 1) := by decide +kernel
theorem dX11_wordOf_242 : decode cX11_wordOf 242 = .ok (.bipush 16, 2) := by decide +kernel
theorem dX11_wordOf_244 : decode cX11_wordOf 244 = .ok (.bipush 12, 2) := by decide +kernel
theorem dX11_wordOf_246 : decode cX11_wordOf 246 = .ok (.iconst 5, 1) := by decide +kernel
theorem dX11_wordOf_247 : decode cX11_wordOf 247 = .ok (.invokestatic 47, 3) := by decide +kernel
theorem dX11_wordOf_250 : decode cX11_wordOf 250 = .ok (.iadd, 1) := by decide +kernel
theorem dX11_wordOf_251 : decode cX11_wordOf 251 = .ok (.if_icmp .ne 6, 3) := by decide +kernel
theorem dX11_wordOf_254 : decode cX11_wordOf 254 = .ok (.bipush 22, 2) := by decide +kernel
theorem dX11_wordOf_256 : decode cX11_wordOf 256 = .ok (.ireturn, 1) := by decide +kernel
theorem dX11_wordOf_257 : decode cX11_wordOf 257 = .ok (.iload_n 0, 1) := by decide +kernel
theorem dX11_wordOf_258 : decode cX11_wordOf 258 = .ok (.sipush 1024, 3) := by decide +kernel
theorem dX11_wordOf_261 : decode cX11_wordOf 261 = .ok (.iconst 5, 1) := by decide +kernel
theorem dX11_wordOf_262 : decode cX11_wordOf 262 = .ok (.bipush 13, 2) := by decide +kernel
theorem dX11_wordOf_264 : decode cX11_wordOf 264 = .ok (.bipush 16, 2) := by decide +kernel
theorem dX11_wordOf_266 : decode cX11_wordOf 266 = .ok (.invokestatic 47, 3) := by decide +kernel
theorem dX11_wordOf_269 : decode cX11_wordOf 269 = .ok (.imul, 1) := by decide +kernel
theorem dX11_wordOf_270 : decode cX11_wordOf 270 = .ok (.sipush 640, 3) := by decide +kernel
theorem dX11_wordOf_273 : decode cX11_wordOf 273 = .ok (.iadd, 1) := by decide +kernel
theorem dX11_wordOf_274 : decode cX11_wordOf 274 = .ok (.bipush 25, 2) := by decide +kernel
theorem dX11_wordOf_276 : decode cX11_wordOf 276 = .ok (.iadd, 1) := by decide +kernel
theorem dX11_wordOf_277 : decode cX11_wordOf 277 = .ok (.if_icmp .ne 6, 3) := by decide +kernel
theorem dX11_wordOf_280 : decode cX11_wordOf 280 = .ok (.bipush 23, 2) := by decide +kernel
theorem dX11_wordOf_282 : decode cX11_wordOf 282 = .ok (.ireturn, 1) := by decide +kernel
theorem dX11_wordOf_283 : decode cX11_wordOf 283 = .ok (.iload_n 0, 1) := by decide +kernel
theorem dX11_wordOf_284 : decode cX11_wordOf 284 = .ok (.bipush 32, 2) := by decide +kernel
theorem dX11_wordOf_286 : decode cX11_wordOf 286 = .ok (.bipush 19, 2) := by decide +kernel
theorem dX11_wordOf_288 : decode cX11_wordOf 288 = .ok (.bipush 15, 2) := by decide +kernel
theorem dX11_wordOf_290 : decode cX11_wordOf 290 = .ok (.bipush 6, 2) := by decide +kernel
theorem dX11_wordOf_292 : decode cX11_wordOf 292 = .ok (.invokestatic 47, 3) := by decide +kernel
theorem dX11_wordOf_295 : decode cX11_wordOf 295 = .ok (.imul, 1) := by decide +kernel
theorem dX11_wordOf_296 : decode cX11_wordOf 296 = .ok (.bipush 20, 2) := by decide +kernel
theorem dX11_wordOf_298 : decode cX11_wordOf 298 = .ok (.iadd, 1) := by decide +kernel
theorem dX11_wordOf_299 : decode cX11_wordOf 299 = .ok (.if_icmp .ne 6, 3) := by decide +kernel
theorem dX11_wordOf_302 : decode cX11_wordOf 302 = .ok (.bipush 24, 2) := by decide +kernel
theorem dX11_wordOf_304 : decode cX11_wordOf 304 = .ok (.ireturn, 1) := by decide +kernel
theorem dX11_wordOf_305 : decode cX11_wordOf 305 = .ok (.iload_n 0, 1) := by decide +kernel
theorem dX11_wordOf_306 : decode cX11_wordOf 306 = .ok (.ldc 46, 2) := by decide +kernel
theorem dX11_wordOf_308 : decode cX11_wordOf 308 = .ok (.bipush 19, 2) := by decide +kernel
theorem dX11_wordOf_310 : decode cX11_wordOf 310 = .ok (.bipush 20, 2) := by decide +kernel
theorem dX11_wordOf_312 : decode cX11_wordOf 312 = .ok (.bipush 18, 2) := by decide +kernel
theorem dX11_wordOf_314 : decode cX11_wordOf 314 = .ok (.invokestatic 47, 3) := by decide +kernel
theorem dX11_wordOf_317 : decode cX11_wordOf 317 = .ok (.imul, 1) := by decide +kernel
theorem dX11_wordOf_318 : decode cX11_wordOf 318 = .ok (.bipush 9, 2) := by decide +kernel
theorem dX11_wordOf_320 : decode cX11_wordOf 320 = .ok (.iconst 3, 1) := by decide +kernel
theorem dX11_wordOf_321 : decode cX11_wordOf 321 = .ok (.bipush 20, 2) := by decide +kernel
theorem dX11_wordOf_323 : decode cX11_wordOf 323 = .ok (.invokestatic 47, 3) := by decide +kernel
theorem dX11_wordOf_326 : decode cX11_wordOf 326 = .ok (.iadd, 1) := by decide +kernel
theorem dX11_wordOf_327 : decode cX11_wordOf 327 = .ok (.if_icmp .ne 6, 3) := by decide +kernel
theorem dX11_wordOf_330 : decode cX11_wordOf 330 = .ok (.bipush 25, 2) := by decide +kernel
theorem dX11_wordOf_332 : decode cX11_wordOf 332 = .ok (.ireturn, 1) := by decide +kernel
theorem dX11_wordOf_333 : decode cX11_wordOf 333 = .ok (.iload_n 0, 1) := by decide +kernel
theorem dX11_wordOf_334 : decode cX11_wordOf 334 = .ok (.iconst 0, 1) := by decide +kernel
theorem dX11_wordOf_335 : decode cX11_wordOf 335 = .ok (.iconst 1, 1) := by decide +kernel
theorem dX11_wordOf_336 : decode cX11_wordOf 336 = .ok (.bipush 20, 2) := by decide +kernel
theorem dX11_wordOf_338 : decode cX11_wordOf 338 = .ok (.invokestatic 47, 3) := by decide +kernel
theorem dX11_wordOf_341 : decode cX11_wordOf 341 = .ok (.if_icmp .ne 6, 3) := by decide +kernel
theorem dX11_wordOf_344 : decode cX11_wordOf 344 = .ok (.bipush 26, 2) := by decide +kernel
theorem dX11_wordOf_346 : decode cX11_wordOf 346 = .ok (.ireturn, 1) := by decide +kernel
theorem dX11_wordOf_347 : decode cX11_wordOf 347 = .ok (.iload_n 0, 1) := by decide +kernel
theorem dX11_wordOf_348 : decode cX11_wordOf 348 = .ok (.bipush 32, 2) := by decide +kernel
theorem dX11_wordOf_350 : decode cX11_wordOf 350 = .ok (.bipush 7, 2) := by decide +kernel
theorem dX11_wordOf_352 : decode cX11_wordOf 352 = .ok (.iconst 1, 1) := by decide +kernel
theorem dX11_wordOf_353 : decode cX11_wordOf 353 = .ok (.bipush 13, 2) := by decide +kernel
theorem dX11_wordOf_355 : decode cX11_wordOf 355 = .ok (.invokestatic 47, 3) := by decide +kernel
theorem dX11_wordOf_358 : decode cX11_wordOf 358 = .ok (.imul, 1) := by decide +kernel
theorem dX11_wordOf_359 : decode cX11_wordOf 359 = .ok (.iconst 5, 1) := by decide +kernel
theorem dX11_wordOf_360 : decode cX11_wordOf 360 = .ok (.iadd, 1) := by decide +kernel
theorem dX11_wordOf_361 : decode cX11_wordOf 361 = .ok (.if_icmp .ne 8, 3) := by decide +kernel
theorem dX11_wordOf_364 : decode cX11_wordOf 364 = .ok (.bipush 27, 2) := by decide +kernel
theorem dX11_wordOf_366 : decode cX11_wordOf 366 = .ok (.goto 5, 3) := by decide +kernel
theorem dX11_wordOf_369 : decode cX11_wordOf 369 = .ok (.bipush 99, 2) := by decide +kernel
theorem dX11_wordOf_371 : decode cX11_wordOf 371 = .ok (.ireturn, 1) := by decide +kernel
theorem dX11_advance_0 : decode cX11_advance 0 = .ok (.aload_n 0, 1) := by decide +kernel
theorem dX11_advance_1 : decode cX11_advance 1 = .ok (.aload_n 0, 1) := by decide +kernel
theorem dX11_advance_2 : decode cX11_advance 2 = .ok (.getfield 51, 3) := by decide +kernel
theorem dX11_advance_5 : decode cX11_advance 5 = .ok (.invokevirtual 54, 3) := by decide +kernel
theorem dX11_advance_8 : decode cX11_advance 8 = .ok (.bipush 10, 2) := by decide +kernel
theorem dX11_advance_10 : decode cX11_advance 10 = .ok (.if_icmp .eq 16, 3) := by decide +kernel
theorem dX11_advance_13 : decode cX11_advance 13 = .ok (.aload_n 0, 1) := by decide +kernel
theorem dX11_advance_14 : decode cX11_advance 14 = .ok (.aload_n 0, 1) := by decide +kernel
theorem dX11_advance_15 : decode cX11_advance 15 = .ok (.getfield 51, 3) := by decide +kernel
theorem dX11_advance_18 : decode cX11_advance 18 = .ok (.invokevirtual 54, 3) := by decide +kernel
theorem dX11_advance_21 : decode cX11_advance 21 = .ok (.bipush 32, 2) := by decide +kernel
theorem dX11_advance_23 : decode cX11_advance 23 = .ok (.if_icmp .ne 16, 3) := by decide +kernel
theorem dX11_advance_26 : decode cX11_advance 26 = .ok (.aload_n 0, 1) := by decide +kernel
theorem dX11_advance_27 : decode cX11_advance 27 = .ok (.dup, 1) := by decide +kernel
theorem dX11_advance_28 : decode cX11_advance 28 = .ok (.getfield 51, 3) := by decide +kernel
theorem dX11_advance_31 : decode cX11_advance 31 = .ok (.iconst 1, 1) := by decide +kernel
theorem dX11_advance_32 : decode cX11_advance 32 = .ok (.iadd, 1) := by decide +kernel
theorem dX11_advance_33 : decode cX11_advance 33 = .ok (.putfield 51, 3) := by decide +kernel
theorem dX11_advance_36 : decode cX11_advance 36 = .ok (.goto (-36), 3) := by decide +kernel
theorem dX11_advance_39 : decode cX11_advance 39 = .ok (.aload_n 0, 1) := by decide +kernel
theorem dX11_advance_40 : decode cX11_advance 40 = .ok (.aload_n 0, 1) := by decide +kernel
theorem dX11_advance_41 : decode cX11_advance 41 = .ok (.getfield 51, 3) := by decide +kernel
theorem dX11_advance_44 : decode cX11_advance 44 = .ok (.putfield 58, 3) := by decide +kernel
theorem dX11_advance_47 : decode cX11_advance 47 = .ok (.aload_n 0, 1) := by decide +kernel
theorem dX11_advance_48 : decode cX11_advance 48 = .ok (.aload_n 0, 1) := by decide +kernel
theorem dX11_advance_49 : decode cX11_advance 49 = .ok (.getfield 51, 3) := by decide +kernel
theorem dX11_advance_52 : decode cX11_advance 52 = .ok (.invokevirtual 54, 3) := by decide +kernel
theorem dX11_advance_55 : decode cX11_advance 55 = .ok (.istore_n 1, 1) := by decide +kernel
theorem dX11_advance_56 : decode cX11_advance 56 = .ok (.iload_n 1, 1) := by decide +kernel
theorem dX11_advance_57 : decode cX11_advance 57 = .ok (.ifCond .ge 11, 3) := by decide +kernel
theorem dX11_advance_60 : decode cX11_advance 60 = .ok (.aload_n 0, 1) := by decide +kernel
theorem dX11_advance_61 : decode cX11_advance 61 = .ok (.iconst 0, 1) := by decide +kernel
theorem dX11_advance_62 : decode cX11_advance 62 = .ok (.putfield 61, 3) := by decide +kernel
theorem dX11_advance_65 : decode cX11_advance 65 = .ok (.goto 243, 3) := by decide +kernel
theorem dX11_advance_68 : decode cX11_advance 68 = .ok (.iload_n 1, 1) := by decide +kernel
theorem dX11_advance_69 : decode cX11_advance 69 = .ok (.invokestatic 64, 3) := by decide +kernel
theorem dX11_advance_72 : decode cX11_advance 72 = .ok (.ifCond .eq 111, 3) := by decide +kernel
theorem dX11_advance_75 : decode cX11_advance 75 = .ok (.iconst 0, 1) := by decide +kernel
theorem dX11_advance_76 : decode cX11_advance 76 = .ok (.istore_n 2, 1) := by decide +kernel
theorem dX11_advance_77 : decode cX11_advance 77 = .ok (.aload_n 0, 1) := by decide +kernel
theorem dX11_advance_78 : decode cX11_advance 78 = .ok (.aload_n 0, 1) := by decide +kernel
theorem dX11_advance_79 : decode cX11_advance 79 = .ok (.getfield 51, 3) := by decide +kernel
theorem dX11_advance_82 : decode cX11_advance 82 = .ok (.invokevirtual 54, 3) := by decide +kernel
theorem dX11_advance_85 : decode cX11_advance 85 = .ok (.invokestatic 64, 3) := by decide +kernel
theorem dX11_advance_88 : decode cX11_advance 88 = .ok (.ifCond .eq 47, 3) := by decide +kernel
theorem dX11_advance_91 : decode cX11_advance 91 = .ok (.aload_n 0, 1) := by decide +kernel
theorem dX11_advance_92 : decode cX11_advance 92 = .ok (.getfield 51, 3) := by decide +kernel
theorem dX11_advance_95 : decode cX11_advance 95 = .ok (.aload_n 0, 1) := by decide +kernel
theorem dX11_advance_96 : decode cX11_advance 96 = .ok (.getfield 58, 3) := by decide +kernel
theorem dX11_advance_99 : decode cX11_advance 99 = .ok (.isub, 1) := by decide +kernel
theorem dX11_advance_100 : decode cX11_advance 100 = .ok (.bipush 6, 2) := by decide +kernel
theorem dX11_advance_102 : decode cX11_advance 102 = .ok (.if_icmp .ge 20, 3) := by decide +kernel
theorem dX11_advance_105 : decode cX11_advance 105 = .ok (.bipush 32, 2) := by decide +kernel
theorem dX11_advance_107 : decode cX11_advance 107 = .ok (.iload_n 2, 1) := by decide +kernel
theorem dX11_advance_108 : decode cX11_advance 108 = .ok (.imul, 1) := by decide +kernel
theorem dX11_advance_109 : decode cX11_advance 109 = .ok (.aload_n 0, 1) := by decide +kernel
theorem dX11_advance_110 : decode cX11_advance 110 = .ok (.aload_n 0, 1) := by decide +kernel
theorem dX11_advance_111 : decode cX11_advance 111 = .ok (.getfield 51, 3) := by decide +kernel
theorem dX11_advance_114 : decode cX11_advance 114 = .ok (.invokevirtual 54, 3) := by decide +kernel
theorem dX11_advance_117 : decode cX11_advance 117 = .ok (.iadd, 1) := by decide +kernel
theorem dX11_advance_118 : decode cX11_advance 118 = .ok (.bipush 96, 2) := by decide +kernel
theorem dX11_advance_120 : decode cX11_advance 120 = .ok (.isub, 1) := by decide +kernel
theorem dX11_advance_121 : decode cX11_advance 121 = .ok (.istore_n 2, 1) := by decide +kernel
theorem dX11_advance_122 : decode cX11_advance 122 = .ok (.aload_n 0, 1) := by decide +kernel
theorem dX11_advance_123 : decode cX11_advance 123 = .ok (.dup, 1) := by decide +kernel
theorem dX11_advance_124 : decode cX11_advance 124 = .ok (.getfield 51, 3) := by decide +kernel
theorem dX11_advance_127 : decode cX11_advance 127 = .ok (.iconst 1, 1) := by decide +kernel
theorem dX11_advance_128 : decode cX11_advance 128 = .ok (.iadd, 1) := by decide +kernel
theorem dX11_advance_129 : decode cX11_advance 129 = .ok (.putfield 51, 3) := by decide +kernel
theorem dX11_advance_132 : decode cX11_advance 132 = .ok (.goto (-55), 3) := by decide +kernel
theorem dX11_advance_135 : decode cX11_advance 135 = .ok (.aload_n 0, 1) := by decide +kernel
theorem dX11_advance_136 : decode cX11_advance 136 = .ok (.aload_n 0, 1) := by decide +kernel
theorem dX11_advance_137 : decode cX11_advance 137 = .ok (.getfield 51, 3) := by decide +kernel
theorem dX11_advance_140 : decode cX11_advance 140 = .ok (.aload_n 0, 1) := by decide +kernel
theorem dX11_advance_141 : decode cX11_advance 141 = .ok (.getfield 58, 3) := by decide +kernel
theorem dX11_advance_144 : decode cX11_advance 144 = .ok (.isub, 1) := by decide +kernel
theorem dX11_advance_145 : decode cX11_advance 145 = .ok (.bipush 6, 2) := by decide +kernel
theorem dX11_advance_147 : decode cX11_advance 147 = .ok (.if_icmp .le 8, 3) := by decide +kernel
theorem dX11_advance_150 : decode cX11_advance 150 = .ok (.bipush 99, 2) := by decide +kernel
theorem dX11_advance_152 : decode cX11_advance 152 = .ok (.goto 7, 3) := by decide +kernel
theorem dX11_advance_155 : decode cX11_advance 155 = .ok (.iload_n 2, 1) := by decide +kernel
theorem dX11_advance_156 : decode cX11_advance 156 = .ok (.invokestatic 68, 3) := by decide +kernel
theorem dX11_advance_159 : decode cX11_advance 159 = .ok (.putfield 71, 3) := by decide +kernel
theorem dX11_advance_162 : decode cX11_advance 162 = .ok (.aload_n 0, 1) := by decide +kernel
theorem dX11_advance_163 : decode cX11_advance 163 = .ok (.aload_n 0, 1) := by decide +kernel
theorem dX11_advance_164 : decode cX11_advance 164 = .ok (.getfield 71, 3) := by decide +kernel
theorem dX11_advance_167 : decode cX11_advance 167 = .ok (.bipush 99, 2) := by decide +kernel
theorem dX11_advance_169 : decode cX11_advance 169 = .ok (.if_icmp .ne 7, 3) := by decide +kernel
theorem dX11_advance_172 : decode cX11_advance 172 = .ok (.iconst 4, 1) := by decide +kernel
theorem dX11_advance_173 : decode cX11_advance 173 = .ok (.goto 4, 3) := by decide +kernel
theorem dX11_advance_176 : decode cX11_advance 176 = .ok (.iconst 3, 1) := by decide +kernel
theorem dX11_advance_177 : decode cX11_advance 177 = .ok (.putfield 61, 3) := by decide +kernel
theorem dX11_advance_180 : decode cX11_advance 180 = .ok (.goto 128, 3) := by decide +kernel
theorem dX11_advance_183 : decode cX11_advance 183 = .ok (.iload_n 1, 1) := by decide +kernel
theorem dX11_advance_184 : decode cX11_advance 184 = .ok (.invokestatic 74, 3) := by decide +kernel
theorem dX11_advance_187 : decode cX11_advance 187 = .ok (.ifCond .eq 96, 3) := by decide +kernel
theorem dX11_advance_190 : decode cX11_advance 190 = .ok (.aload_n 0, 1) := by decide +kernel
theorem dX11_advance_191 : decode cX11_advance 191 = .ok (.iconst 0, 1) := by decide +kernel
theorem dX11_advance_192 : decode cX11_advance 192 = .ok (.putfield 77, 3) := by decide +kernel
theorem dX11_advance_195 : decode cX11_advance 195 = .ok (.aload_n 0, 1) := by decide +kernel
theorem dX11_advance_196 : decode cX11_advance 196 = .ok (.aload_n 0, 1) := by decide +kernel
theorem dX11_advance_197 : decode cX11_advance 197 = .ok (.getfield 51, 3) := by decide +kernel
theorem dX11_advance_200 : decode cX11_advance 200 = .ok (.invokevirtual 54, 3) := by decide +kernel
theorem dX11_advance_203 : decode cX11_advance 203 = .ok (.invokestatic 74, 3) := by decide +kernel
theorem dX11_advance_206 : decode cX11_advance 206 = .ok (.ifCond .eq 52, 3) := by decide +kernel
theorem dX11_advance_209 : decode cX11_advance 209 = .ok (.aload_n 0, 1) := by decide +kernel
theorem dX11_advance_210 : decode cX11_advance 210 = .ok (.getfield 51, 3) := by decide +kernel
theorem dX11_advance_213 : decode cX11_advance 213 = .ok (.aload_n 0, 1) := by decide +kernel
theorem dX11_advance_214 : decode cX11_advance 214 = .ok (.getfield 58, 3) := by decide +kernel
theorem dX11_advance_217 : decode cX11_advance 217 = .ok (.isub, 1) := by decide +kernel
theorem dX11_advance_218 : decode cX11_advance 218 = .ok (.iconst 4, 1) := by decide +kernel
theorem dX11_advance_219 : decode cX11_advance 219 = .ok (.if_icmp .ge 26, 3) := by decide +kernel
theorem dX11_advance_222 : decode cX11_advance 222 = .ok (.aload_n 0, 1) := by decide +kernel
theorem dX11_advance_223 : decode cX11_advance 223 = .ok (.bipush 10, 2) := by decide +kernel
theorem dX11_advance_225 : decode cX11_advance 225 = .ok (.aload_n 0, 1) := by decide +kernel
theorem dX11_advance_226 : decode cX11_advance 226 = .ok (.getfield 77, 3) := by decide +kernel
theorem dX11_advance_229 : decode cX11_advance 229 = .ok (.imul, 1) := by decide +kernel
theorem dX11_advance_230 : decode cX11_advance 230 = .ok (.aload_n 0, 1) := by decide +kernel
theorem dX11_advance_231 : decode cX11_advance 231 = .ok (.aload_n 0, 1) := by decide +kernel
theorem dX11_advance_232 : decode cX11_advance 232 = .ok (.getfield 51, 3) := by decide +kernel
theorem dX11_advance_235 : decode cX11_advance 235 = .ok (.invokevirtual 54, 3) := by decide +kernel
theorem dX11_advance_238 : decode cX11_advance 238 = .ok (.iadd, 1) := by decide +kernel
theorem dX11_advance_239 : decode cX11_advance 239 = .ok (.bipush 48, 2) := by decide +kernel
theorem dX11_advance_241 : decode cX11_advance 241 = .ok (.isub, 1) := by decide +kernel
theorem dX11_advance_242 : decode cX11_advance 242 = .ok (.putfield 77, 3) := by decide +kernel
theorem dX11_advance_245 : decode cX11_advance 245 = .ok (.aload_n 0, 1) := by decide +kernel
theorem dX11_advance_246 : decode cX11_advance 246 = .ok (.dup, 1) := by decide +kernel
theorem dX11_advance_247 : decode cX11_advance 247 = .ok (.getfield 51, 3) := by decide +kernel
theorem dX11_advance_250 : decode cX11_advance 250 = .ok (.iconst 1, 1) := by decide +kernel
theorem dX11_advance_251 : decode cX11_advance 251 = .ok (.iadd, 1) := by decide +kernel
theorem dX11_advance_252 : decode cX11_advance 252 = .ok (.putfield 51, 3) := by decide +kernel
theorem dX11_advance_255 : decode cX11_advance 255 = .ok (.goto (-60), 3) := by decide +kernel
theorem dX11_advance_258 : decode cX11_advance 258 = .ok (.aload_n 0, 1) := by decide +kernel
theorem dX11_advance_259 : decode cX11_advance 259 = .ok (.aload_n 0, 1) := by decide +kernel
theorem dX11_advance_260 : decode cX11_advance 260 = .ok (.getfield 51, 3) := by decide +kernel
theorem dX11_advance_263 : decode cX11_advance 263 = .ok (.aload_n 0, 1) := by decide +kernel
theorem dX11_advance_264 : decode cX11_advance 264 = .ok (.getfield 58, 3) := by decide +kernel
theorem dX11_advance_267 : decode cX11_advance 267 = .ok (.isub, 1) := by decide +kernel
theorem dX11_advance_268 : decode cX11_advance 268 = .ok (.iconst 4, 1) := by decide +kernel
theorem dX11_advance_269 : decode cX11_advance 269 = .ok (.if_icmp .le 7, 3) := by decide +kernel
theorem dX11_advance_272 : decode cX11_advance 272 = .ok (.iconst 4, 1) := by decide +kernel
theorem dX11_advance_273 : decode cX11_advance 273 = .ok (.goto 4, 3) := by decide +kernel
theorem dX11_advance_276 : decode cX11_advance 276 = .ok (.iconst 1, 1) := by decide +kernel
theorem dX11_advance_277 : decode cX11_advance 277 = .ok (.putfield 61, 3) := by decide +kernel
theorem dX11_advance_280 : decode cX11_advance 280 = .ok (.goto 28, 3) := by decide +kernel
theorem dX11_advance_283 : decode cX11_advance 283 = .ok (.aload_n 0, 1) := by decide +kernel
theorem dX11_advance_284 : decode cX11_advance 284 = .ok (.dup, 1) := by decide +kernel
theorem dX11_advance_285 : decode cX11_advance 285 = .ok (.getfield 51, 3) := by decide +kernel
theorem dX11_advance_288 : decode cX11_advance 288 = .ok (.iconst 1, 1) := by decide +kernel
theorem dX11_advance_289 : decode cX11_advance 289 = .ok (.iadd, 1) := by decide +kernel
theorem dX11_advance_290 : decode cX11_advance 290 = .ok (.putfield 51, 3) := by decide +kernel
theorem dX11_advance_293 : decode cX11_advance 293 = .ok (.aload_n 0, 1) := by decide +kernel
theorem dX11_advance_294 : decode cX11_advance 294 = .ok (.iload_n 1, 1) := by decide +kernel
theorem dX11_advance_295 : decode cX11_advance 295 = .ok (.bipush 59, 2) := by decide +kernel
theorem dX11_advance_297 : decode cX11_advance 297 = .ok (.if_icmp .ne 7, 3) := by decide +kernel
theorem dX11_advance_300 : decode cX11_advance 300 = .ok (.iconst 2, 1) := by decide +kernel
theorem dX11_advance_301 : decode cX11_advance 301 = .ok (.goto 4, 3) := by decide +kernel
theorem dX11_advance_304 : decode cX11_advance 304 = .ok (.iconst 4, 1) := by decide +kernel
theorem dX11_advance_305 : decode cX11_advance 305 = .ok (.putfield 61, 3) := by decide +kernel
theorem dX11_advance_308 : decode cX11_advance 308 = .ok (.return_, 1) := by decide +kernel
theorem dX11_ends_0 : decode cX11_ends 0 = .ok (.aload_n 0, 1) := by decide +kernel
theorem dX11_ends_1 : decode cX11_ends 1 = .ok (.getfield 80, 3) := by decide +kernel
theorem dX11_ends_4 : decode cX11_ends 4 = .ok (.ifCond .eq 4, 3) := by decide +kernel
theorem dX11_ends_7 : decode cX11_ends 7 = .ok (.return_, 1) := by decide +kernel
theorem dX11_ends_8 : decode cX11_ends 8 = .ok (.aload_n 0, 1) := by decide +kernel
theorem dX11_ends_9 : decode cX11_ends 9 = .ok (.iconst 1, 1) := by decide +kernel
theorem dX11_ends_10 : decode cX11_ends 10 = .ok (.putfield 80, 3) := by decide +kernel
theorem dX11_ends_13 : decode cX11_ends 13 = .ok (.aload_n 0, 1) := by decide +kernel
theorem dX11_ends_14 : decode cX11_ends 14 = .ok (.getfield 7, 3) := by decide +kernel
theorem dX11_ends_17 : decode cX11_ends 17 = .ok (.iconst 5, 1) := by decide +kernel
theorem dX11_ends_18 : decode cX11_ends 18 = .ok (.iconst 1, 1) := by decide +kernel
theorem dX11_ends_19 : decode cX11_ends 19 = .ok (.iastore, 1) := by decide +kernel
theorem dX11_ends_20 : decode cX11_ends 20 = .ok (.aload_n 0, 1) := by decide +kernel
theorem dX11_ends_21 : decode cX11_ends 21 = .ok (.getfield 7, 3) := by decide +kernel
theorem dX11_ends_24 : decode cX11_ends 24 = .ok (.bipush 6, 2) := by decide +kernel
theorem dX11_ends_26 : decode cX11_ends 26 = .ok (.aload_n 0, 1) := by decide +kernel
theorem dX11_ends_27 : decode cX11_ends 27 = .ok (.getfield 58, 3) := by decide +kernel
theorem dX11_ends_30 : decode cX11_ends 30 = .ok (.iastore, 1) := by decide +kernel
theorem dX11_ends_31 : decode cX11_ends 31 = .ok (.return_, 1) := by decide +kernel
theorem dX11_also_0 : decode cX11_also 0 = .ok (.aload_n 0, 1) := by decide +kernel
theorem dX11_also_1 : decode cX11_also 1 = .ok (.getfield 80, 3) := by decide +kernel
theorem dX11_also_4 : decode cX11_also 4 = .ok (.ifCond .ne 44, 3) := by decide +kernel
theorem dX11_also_7 : decode cX11_also 7 = .ok (.aload_n 0, 1) := by decide +kernel
theorem dX11_also_8 : decode cX11_also 8 = .ok (.getfield 7, 3) := by decide +kernel
theorem dX11_also_11 : decode cX11_also 11 = .ok (.iconst 5, 1) := by decide +kernel
theorem dX11_also_12 : decode cX11_also 12 = .ok (.iaload, 1) := by decide +kernel
theorem dX11_also_13 : decode cX11_also 13 = .ok (.ifCond .eq 36, 3) := by decide +kernel
theorem dX11_also_16 : decode cX11_also 16 = .ok (.aload_n 0, 1) := by decide +kernel
theorem dX11_also_17 : decode cX11_also 17 = .ok (.getfield 7, 3) := by decide +kernel
theorem dX11_also_20 : decode cX11_also 20 = .ok (.bipush 6, 2) := by decide +kernel
theorem dX11_also_22 : decode cX11_also 22 = .ok (.iaload, 1) := by decide +kernel
theorem dX11_also_23 : decode cX11_also 23 = .ok (.iload_n 2, 1) := by decide +kernel
theorem dX11_also_24 : decode cX11_also 24 = .ok (.if_icmp .lt 24, 3) := by decide +kernel
theorem dX11_also_27 : decode cX11_also 27 = .ok (.aload_n 0, 1) := by decide +kernel
theorem dX11_also_28 : decode cX11_also 28 = .ok (.getfield 7, 3) := by decide +kernel
theorem dX11_also_31 : decode cX11_also 31 = .ok (.bipush 6, 2) := by decide +kernel
theorem dX11_also_33 : decode cX11_also 33 = .ok (.iaload, 1) := by decide +kernel
theorem dX11_also_34 : decode cX11_also 34 = .ok (.iload_n 2, 1) := by decide +kernel
theorem dX11_also_35 : decode cX11_also 35 = .ok (.if_icmp .ne 14, 3) := by decide +kernel
theorem dX11_also_38 : decode cX11_also 38 = .ok (.aload_n 0, 1) := by decide +kernel
theorem dX11_also_39 : decode cX11_also 39 = .ok (.getfield 7, 3) := by decide +kernel
theorem dX11_also_42 : decode cX11_also 42 = .ok (.iconst 5, 1) := by decide +kernel
theorem dX11_also_43 : decode cX11_also 43 = .ok (.iaload, 1) := by decide +kernel
theorem dX11_also_44 : decode cX11_also 44 = .ok (.iload_n 1, 1) := by decide +kernel
theorem dX11_also_45 : decode cX11_also 45 = .ok (.if_icmp .gt 4, 3) := by decide +kernel
theorem dX11_also_48 : decode cX11_also 48 = .ok (.return_, 1) := by decide +kernel
theorem dX11_also_49 : decode cX11_also 49 = .ok (.aload_n 0, 1) := by decide +kernel
theorem dX11_also_50 : decode cX11_also 50 = .ok (.getfield 7, 3) := by decide +kernel
theorem dX11_also_53 : decode cX11_also 53 = .ok (.iconst 5, 1) := by decide +kernel
theorem dX11_also_54 : decode cX11_also 54 = .ok (.iload_n 1, 1) := by decide +kernel
theorem dX11_also_55 : decode cX11_also 55 = .ok (.iastore, 1) := by decide +kernel
theorem dX11_also_56 : decode cX11_also 56 = .ok (.aload_n 0, 1) := by decide +kernel
theorem dX11_also_57 : decode cX11_also 57 = .ok (.getfield 7, 3) := by decide +kernel
theorem dX11_also_60 : decode cX11_also 60 = .ok (.bipush 6, 2) := by decide +kernel
theorem dX11_also_62 : decode cX11_also 62 = .ok (.iload_n 2, 1) := by decide +kernel
theorem dX11_also_63 : decode cX11_also 63 = .ok (.iastore, 1) := by decide +kernel
theorem dX11_also_64 : decode cX11_also 64 = .ok (.return_, 1) := by decide +kernel
theorem dX11_numbered_0 : decode cX11_numbered 0 = .ok (.aload_n 0, 1) := by decide +kernel
theorem dX11_numbered_1 : decode cX11_numbered 1 = .ok (.getfield 80, 3) := by decide +kernel
theorem dX11_numbered_4 : decode cX11_numbered 4 = .ok (.ifCond .ne 11, 3) := by decide +kernel
theorem dX11_numbered_7 : decode cX11_numbered 7 = .ok (.aload_n 0, 1) := by decide +kernel
theorem dX11_numbered_8 : decode cX11_numbered 8 = .ok (.getfield 61, 3) := by decide +kernel
theorem dX11_numbered_11 : decode cX11_numbered 11 = .ok (.iconst 1, 1) := by decide +kernel
theorem dX11_numbered_12 : decode cX11_numbered 12 = .ok (.if_icmp .eq 9, 3) := by decide +kernel
theorem dX11_numbered_15 : decode cX11_numbered 15 = .ok (.aload_n 0, 1) := by decide +kernel
theorem dX11_numbered_16 : decode cX11_numbered 16 = .ok (.invokevirtual 84, 3) := by decide +kernel
theorem dX11_numbered_19 : decode cX11_numbered 19 = .ok (.iconst (-1), 1) := by decide +kernel
theorem dX11_numbered_20 : decode cX11_numbered 20 = .ok (.ireturn, 1) := by decide +kernel
theorem dX11_numbered_21 : decode cX11_numbered 21 = .ok (.aload_n 0, 1) := by decide +kernel
theorem dX11_numbered_22 : decode cX11_numbered 22 = .ok (.getfield 77, 3) := by decide +kernel
theorem dX11_numbered_25 : decode cX11_numbered 25 = .ok (.istore_n 3, 1) := by decide +kernel
theorem dX11_numbered_26 : decode cX11_numbered 26 = .ok (.aload_n 0, 1) := by decide +kernel
theorem dX11_numbered_27 : decode cX11_numbered 27 = .ok (.getfield 58, 3) := by decide +kernel
theorem dX11_numbered_30 : decode cX11_numbered 30 = .ok (.istore 4, 2) := by decide +kernel
theorem dX11_numbered_32 : decode cX11_numbered 32 = .ok (.aload_n 0, 1) := by decide +kernel
theorem dX11_numbered_33 : decode cX11_numbered 33 = .ok (.invokevirtual 87, 3) := by decide +kernel
theorem dX11_numbered_36 : decode cX11_numbered 36 = .ok (.iload_n 3, 1) := by decide +kernel
theorem dX11_numbered_37 : decode cX11_numbered 37 = .ok (.iload_n 1, 1) := by decide +kernel
theorem dX11_numbered_38 : decode cX11_numbered 38 = .ok (.iload_n 2, 1) := by decide +kernel
theorem dX11_numbered_39 : decode cX11_numbered 39 = .ok (.invokestatic 90, 3) := by decide +kernel
theorem dX11_numbered_42 : decode cX11_numbered 42 = .ok (.ifCond .eq 5, 3) := by decide +kernel
theorem dX11_numbered_45 : decode cX11_numbered 45 = .ok (.iload_n 3, 1) := by decide +kernel
theorem dX11_numbered_46 : decode cX11_numbered 46 = .ok (.ireturn, 1) := by decide +kernel
theorem dX11_numbered_47 : decode cX11_numbered 47 = .ok (.aload_n 0, 1) := by decide +kernel
theorem dX11_numbered_48 : decode cX11_numbered 48 = .ok (.iconst 2, 1) := by decide +kernel
theorem dX11_numbered_49 : decode cX11_numbered 49 = .ok (.iload 4, 2) := by decide +kernel
theorem dX11_numbered_51 : decode cX11_numbered 51 = .ok (.invokevirtual 94, 3) := by decide +kernel
theorem dX11_numbered_54 : decode cX11_numbered 54 = .ok (.iconst (-1), 1) := by decide +kernel
theorem dX11_numbered_55 : decode cX11_numbered 55 = .ok (.ireturn, 1) := by decide +kernel
theorem dX11_another_0 : decode cX11_another 0 = .ok (.aload_n 0, 1) := by decide +kernel
theorem dX11_another_1 : decode cX11_another 1 = .ok (.getfield 58, 3) := by decide +kernel
theorem dX11_another_4 : decode cX11_another 4 = .ok (.istore 4, 2) := by decide +kernel
theorem dX11_another_6 : decode cX11_another 6 = .ok (.aload_n 0, 1) := by decide +kernel
theorem dX11_another_7 : decode cX11_another 7 = .ok (.iload_n 1, 1) := by decide +kernel
theorem dX11_another_8 : decode cX11_another 8 = .ok (.iload_n 2, 1) := by decide +kernel
theorem dX11_another_9 : decode cX11_another 9 = .ok (.invokevirtual 98, 3) := by decide +kernel
theorem dX11_another_12 : decode cX11_another 12 = .ok (.istore 5, 2) := by decide +kernel
theorem dX11_another_14 : decode cX11_another 14 = .ok (.iload 5, 2) := by decide +kernel
theorem dX11_another_16 : decode cX11_another 16 = .ok (.ifCond .lt 16, 3) := by decide +kernel
theorem dX11_another_19 : decode cX11_another 19 = .ok (.iload 5, 2) := by decide +kernel
theorem dX11_another_21 : decode cX11_another 21 = .ok (.iload_n 3, 1) := by decide +kernel
theorem dX11_another_22 : decode cX11_another 22 = .ok (.if_icmp .ne 10, 3) := by decide +kernel
theorem dX11_another_25 : decode cX11_another 25 = .ok (.aload_n 0, 1) := by decide +kernel
theorem dX11_another_26 : decode cX11_another 26 = .ok (.iconst 2, 1) := by decide +kernel
theorem dX11_another_27 : decode cX11_another 27 = .ok (.iload 4, 2) := by decide +kernel
theorem dX11_another_29 : decode cX11_another 29 = .ok (.invokevirtual 94, 3) := by decide +kernel
theorem dX11_another_32 : decode cX11_another 32 = .ok (.iload 5, 2) := by decide +kernel
theorem dX11_another_34 : decode cX11_another 34 = .ok (.ireturn, 1) := by decide +kernel
theorem dX11_takes_0 : decode cX11_takes 0 = .ok (.aload_n 0, 1) := by decide +kernel
theorem dX11_takes_1 : decode cX11_takes 1 = .ok (.getfield 80, 3) := by decide +kernel
theorem dX11_takes_4 : decode cX11_takes 4 = .ok (.ifCond .ne 23, 3) := by decide +kernel
theorem dX11_takes_7 : decode cX11_takes 7 = .ok (.aload_n 0, 1) := by decide +kernel
theorem dX11_takes_8 : decode cX11_takes 8 = .ok (.getfield 61, 3) := by decide +kernel
theorem dX11_takes_11 : decode cX11_takes 11 = .ok (.iconst 3, 1) := by decide +kernel
theorem dX11_takes_12 : decode cX11_takes 12 = .ok (.if_icmp .ne 15, 3) := by decide +kernel
theorem dX11_takes_15 : decode cX11_takes 15 = .ok (.aload_n 0, 1) := by decide +kernel
theorem dX11_takes_16 : decode cX11_takes 16 = .ok (.getfield 71, 3) := by decide +kernel
theorem dX11_takes_19 : decode cX11_takes 19 = .ok (.iload_n 1, 1) := by decide +kernel
theorem dX11_takes_20 : decode cX11_takes 20 = .ok (.iload_n 2, 1) := by decide +kernel
theorem dX11_takes_21 : decode cX11_takes 21 = .ok (.invokestatic 90, 3) := by decide +kernel
theorem dX11_takes_24 : decode cX11_takes 24 = .ok (.ifCond .ne 9, 3) := by decide +kernel
theorem dX11_takes_27 : decode cX11_takes 27 = .ok (.aload_n 0, 1) := by decide +kernel
theorem dX11_takes_28 : decode cX11_takes 28 = .ok (.invokevirtual 84, 3) := by decide +kernel
theorem dX11_takes_31 : decode cX11_takes 31 = .ok (.iconst (-1), 1) := by decide +kernel
theorem dX11_takes_32 : decode cX11_takes 32 = .ok (.ireturn, 1) := by decide +kernel
theorem dX11_takes_33 : decode cX11_takes 33 = .ok (.aload_n 0, 1) := by decide +kernel
theorem dX11_takes_34 : decode cX11_takes 34 = .ok (.getfield 71, 3) := by decide +kernel
theorem dX11_takes_37 : decode cX11_takes 37 = .ok (.istore_n 3, 1) := by decide +kernel
theorem dX11_takes_38 : decode cX11_takes 38 = .ok (.aload_n 0, 1) := by decide +kernel
theorem dX11_takes_39 : decode cX11_takes 39 = .ok (.invokevirtual 87, 3) := by decide +kernel
theorem dX11_takes_42 : decode cX11_takes 42 = .ok (.iload_n 3, 1) := by decide +kernel
theorem dX11_takes_43 : decode cX11_takes 43 = .ok (.ireturn, 1) := by decide +kernel
theorem dX11_endsLine_0 : decode cX11_endsLine 0 = .ok (.aload_n 0, 1) := by decide +kernel
theorem dX11_endsLine_1 : decode cX11_endsLine 1 = .ok (.getfield 80, 3) := by decide +kernel
theorem dX11_endsLine_4 : decode cX11_endsLine 4 = .ok (.ifCond .ne 18, 3) := by decide +kernel
theorem dX11_endsLine_7 : decode cX11_endsLine 7 = .ok (.aload_n 0, 1) := by decide +kernel
theorem dX11_endsLine_8 : decode cX11_endsLine 8 = .ok (.getfield 61, 3) := by decide +kernel
theorem dX11_endsLine_11 : decode cX11_endsLine 11 = .ok (.iconst 2, 1) := by decide +kernel
theorem dX11_endsLine_12 : decode cX11_endsLine 12 = .ok (.if_icmp .ne 10, 3) := by decide +kernel
theorem dX11_endsLine_15 : decode cX11_endsLine 15 = .ok (.aload_n 0, 1) := by decide +kernel
theorem dX11_endsLine_16 : decode cX11_endsLine 16 = .ok (.invokevirtual 87, 3) := by decide +kernel
theorem dX11_endsLine_19 : decode cX11_endsLine 19 = .ok (.goto 7, 3) := by decide +kernel
theorem dX11_endsLine_22 : decode cX11_endsLine 22 = .ok (.aload_n 0, 1) := by decide +kernel
theorem dX11_endsLine_23 : decode cX11_endsLine 23 = .ok (.invokevirtual 84, 3) := by decide +kernel
theorem dX11_endsLine_26 : decode cX11_endsLine 26 = .ok (.return_, 1) := by decide +kernel
theorem dX11_leagueLine_0 : decode cX11_leagueLine 0 = .ok (.aload_n 0, 1) := by decide +kernel
theorem dX11_leagueLine_1 : decode cX11_leagueLine 1 = .ok (.getfield 58, 3) := by decide +kernel
theorem dX11_leagueLine_4 : decode cX11_leagueLine 4 = .ok (.istore_n 1, 1) := by decide +kernel
theorem dX11_leagueLine_5 : decode cX11_leagueLine 5 = .ok (.aload_n 0, 1) := by decide +kernel
theorem dX11_leagueLine_6 : decode cX11_leagueLine 6 = .ok (.getfield 61, 3) := by decide +kernel
theorem dX11_leagueLine_9 : decode cX11_leagueLine 9 = .ok (.iconst 3, 1) := by decide +kernel
theorem dX11_leagueLine_10 : decode cX11_leagueLine 10 = .ok (.if_icmp .ne 23, 3) := by decide +kernel
theorem dX11_leagueLine_13 : decode cX11_leagueLine 13 = .ok (.aload_n 0, 1) := by decide +kernel
theorem dX11_leagueLine_14 : decode cX11_leagueLine 14 = .ok (.getfield 71, 3) := by decide +kernel
theorem dX11_leagueLine_17 : decode cX11_leagueLine 17 = .ok (.bipush 13, 2) := by decide +kernel
theorem dX11_leagueLine_19 : decode cX11_leagueLine 19 = .ok (.if_icmp .ne 14, 3) := by decide +kernel
theorem dX11_leagueLine_22 : decode cX11_leagueLine 22 = .ok (.aload_n 0, 1) := by decide +kernel
theorem dX11_leagueLine_23 : decode cX11_leagueLine 23 = .ok (.bipush 13, 2) := by decide +kernel
theorem dX11_leagueLine_25 : decode cX11_leagueLine 25 = .ok (.bipush 13, 2) := by decide +kernel
theorem dX11_leagueLine_27 : decode cX11_leagueLine 27 = .ok (.invokevirtual 102, 3) := by decide +kernel
theorem dX11_leagueLine_30 : decode cX11_leagueLine 30 = .ok (.goto 9, 3) := by decide +kernel
theorem dX11_leagueLine_33 : decode cX11_leagueLine 33 = .ok (.aload_n 0, 1) := by decide +kernel
theorem dX11_leagueLine_34 : decode cX11_leagueLine 34 = .ok (.iconst 1, 1) := by decide +kernel
theorem dX11_leagueLine_35 : decode cX11_leagueLine 35 = .ok (.iconst 2, 1) := by decide +kernel
theorem dX11_leagueLine_36 : decode cX11_leagueLine 36 = .ok (.invokevirtual 102, 3) := by decide +kernel
theorem dX11_leagueLine_39 : decode cX11_leagueLine 39 = .ok (.istore_n 2, 1) := by decide +kernel
theorem dX11_leagueLine_40 : decode cX11_leagueLine 40 = .ok (.iload_n 2, 1) := by decide +kernel
theorem dX11_leagueLine_41 : decode cX11_leagueLine 41 = .ok (.iconst 1, 1) := by decide +kernel
theorem dX11_leagueLine_42 : decode cX11_leagueLine 42 = .ok (.if_icmp .ne 117, 3) := by decide +kernel
theorem dX11_leagueLine_45 : decode cX11_leagueLine 45 = .ok (.aload_n 0, 1) := by decide +kernel
theorem dX11_leagueLine_46 : decode cX11_leagueLine 46 = .ok (.getfield 17, 3) := by decide +kernel
theorem dX11_leagueLine_49 : decode cX11_leagueLine 49 = .ok (.iconst 0, 1) := by decide +kernel
theorem dX11_leagueLine_50 : decode cX11_leagueLine 50 = .ok (.iaload, 1) := by decide +kernel
theorem dX11_leagueLine_51 : decode cX11_leagueLine 51 = .ok (.bipush 10, 2) := by decide +kernel
theorem dX11_leagueLine_53 : decode cX11_leagueLine 53 = .ok (.if_icmp .lt 9, 3) := by decide +kernel
theorem dX11_leagueLine_56 : decode cX11_leagueLine 56 = .ok (.aload_n 0, 1) := by decide +kernel
theorem dX11_leagueLine_57 : decode cX11_leagueLine 57 = .ok (.iconst 3, 1) := by decide +kernel
theorem dX11_leagueLine_58 : decode cX11_leagueLine 58 = .ok (.iload_n 1, 1) := by decide +kernel
theorem dX11_leagueLine_59 : decode cX11_leagueLine 59 = .ok (.invokevirtual 94, 3) := by decide +kernel
theorem dX11_leagueLine_62 : decode cX11_leagueLine 62 = .ok (.aload_n 0, 1) := by decide +kernel
theorem dX11_leagueLine_63 : decode cX11_leagueLine 63 = .ok (.iconst 0, 1) := by decide +kernel
theorem dX11_leagueLine_64 : decode cX11_leagueLine 64 = .ok (.bipush 99, 2) := by decide +kernel
theorem dX11_leagueLine_66 : decode cX11_leagueLine 66 = .ok (.invokevirtual 98, 3) := by decide +kernel
theorem dX11_leagueLine_69 : decode cX11_leagueLine 69 = .ok (.istore_n 3, 1) := by decide +kernel
theorem dX11_leagueLine_70 : decode cX11_leagueLine 70 = .ok (.aload_n 0, 1) := by decide +kernel
theorem dX11_leagueLine_71 : decode cX11_leagueLine 71 = .ok (.iconst 0, 1) := by decide +kernel
theorem dX11_leagueLine_72 : decode cX11_leagueLine 72 = .ok (.bipush 99, 2) := by decide +kernel
theorem dX11_leagueLine_74 : decode cX11_leagueLine 74 = .ok (.invokevirtual 98, 3) := by decide +kernel
theorem dX11_leagueLine_77 : decode cX11_leagueLine 77 = .ok (.istore 4, 2) := by decide +kernel
theorem dX11_leagueLine_79 : decode cX11_leagueLine 79 = .ok (.aload_n 0, 1) := by decide +kernel
theorem dX11_leagueLine_80 : decode cX11_leagueLine 80 = .ok (.iconst 0, 1) := by decide +kernel
theorem dX11_leagueLine_81 : decode cX11_leagueLine 81 = .ok (.sipush 999, 3) := by decide +kernel
theorem dX11_leagueLine_84 : decode cX11_leagueLine 84 = .ok (.invokevirtual 98, 3) := by decide +kernel
theorem dX11_leagueLine_87 : decode cX11_leagueLine 87 = .ok (.istore 5, 2) := by decide +kernel
theorem dX11_leagueLine_89 : decode cX11_leagueLine 89 = .ok (.aload_n 0, 1) := by decide +kernel
theorem dX11_leagueLine_90 : decode cX11_leagueLine 90 = .ok (.getfield 17, 3) := by decide +kernel
theorem dX11_leagueLine_93 : decode cX11_leagueLine 93 = .ok (.iconst 0, 1) := by decide +kernel
theorem dX11_leagueLine_94 : decode cX11_leagueLine 94 = .ok (.iaload, 1) := by decide +kernel
theorem dX11_leagueLine_95 : decode cX11_leagueLine 95 = .ok (.bipush 10, 2) := by decide +kernel
theorem dX11_leagueLine_97 : decode cX11_leagueLine 97 = .ok (.if_icmp .ge 49, 3) := by decide +kernel
theorem dX11_leagueLine_100 : decode cX11_leagueLine 100 = .ok (.aload_n 0, 1) := by decide +kernel
theorem dX11_leagueLine_101 : decode cX11_leagueLine 101 = .ok (.getfield 17, 3) := by decide +kernel
theorem dX11_leagueLine_104 : decode cX11_leagueLine 104 = .ok (.iconst 2, 1) := by decide +kernel
theorem dX11_leagueLine_105 : decode cX11_leagueLine 105 = .ok (.aload_n 0, 1) := by decide +kernel
theorem dX11_leagueLine_106 : decode cX11_leagueLine 106 = .ok (.getfield 17, 3) := by decide +kernel
theorem dX11_leagueLine_109 : decode cX11_leagueLine 109 = .ok (.iconst 0, 1) := by decide +kernel
theorem dX11_leagueLine_110 : decode cX11_leagueLine 110 = .ok (.iaload, 1) := by decide +kernel
theorem dX11_leagueLine_111 : decode cX11_leagueLine 111 = .ok (.iadd, 1) := by decide +kernel
theorem dX11_leagueLine_112 : decode cX11_leagueLine 112 = .ok (.iload_n 3, 1) := by decide +kernel
theorem dX11_leagueLine_113 : decode cX11_leagueLine 113 = .ok (.iastore, 1) := by decide +kernel
theorem dX11_leagueLine_114 : decode cX11_leagueLine 114 = .ok (.aload_n 0, 1) := by decide +kernel
theorem dX11_leagueLine_115 : decode cX11_leagueLine 115 = .ok (.getfield 17, 3) := by decide +kernel
theorem dX11_leagueLine_118 : decode cX11_leagueLine 118 = .ok (.bipush 12, 2) := by decide +kernel
theorem dX11_leagueLine_120 : decode cX11_leagueLine 120 = .ok (.aload_n 0, 1) := by decide +kernel
theorem dX11_leagueLine_121 : decode cX11_leagueLine 121 = .ok (.getfield 17, 3) := by decide +kernel
theorem dX11_leagueLine_124 : decode cX11_leagueLine 124 = .ok (.iconst 0, 1) := by decide +kernel
theorem dX11_leagueLine_125 : decode cX11_leagueLine 125 = .ok (.iaload, 1) := by decide +kernel
theorem dX11_leagueLine_126 : decode cX11_leagueLine 126 = .ok (.iadd, 1) := by decide +kernel
theorem dX11_leagueLine_127 : decode cX11_leagueLine 127 = .ok (.iload 4, 2) := by decide +kernel
theorem dX11_leagueLine_129 : decode cX11_leagueLine 129 = .ok (.iastore, 1) := by decide +kernel
theorem dX11_leagueLine_130 : decode cX11_leagueLine 130 = .ok (.aload_n 0, 1) := by decide +kernel
theorem dX11_leagueLine_131 : decode cX11_leagueLine 131 = .ok (.getfield 17, 3) := by decide +kernel
theorem dX11_leagueLine_134 : decode cX11_leagueLine 134 = .ok (.bipush 22, 2) := by decide +kernel
theorem dX11_leagueLine_136 : decode cX11_leagueLine 136 = .ok (.aload_n 0, 1) := by decide +kernel
theorem dX11_leagueLine_137 : decode cX11_leagueLine 137 = .ok (.getfield 17, 3) := by decide +kernel
theorem dX11_leagueLine_140 : decode cX11_leagueLine 140 = .ok (.iconst 0, 1) := by decide +kernel
theorem dX11_leagueLine_141 : decode cX11_leagueLine 141 = .ok (.iaload, 1) := by decide +kernel
theorem dX11_leagueLine_142 : decode cX11_leagueLine 142 = .ok (.iadd, 1) := by decide +kernel
theorem dX11_leagueLine_143 : decode cX11_leagueLine 143 = .ok (.iload 5, 2) := by decide +kernel
theorem dX11_leagueLine_145 : decode cX11_leagueLine 145 = .ok (.iastore, 1) := by decide +kernel
theorem dX11_leagueLine_146 : decode cX11_leagueLine 146 = .ok (.aload_n 0, 1) := by decide +kernel
theorem dX11_leagueLine_147 : decode cX11_leagueLine 147 = .ok (.getfield 17, 3) := by decide +kernel
theorem dX11_leagueLine_150 : decode cX11_leagueLine 150 = .ok (.iconst 0, 1) := by decide +kernel
theorem dX11_leagueLine_151 : decode cX11_leagueLine 151 = .ok (.dup2, 1) := by decide +kernel
theorem dX11_leagueLine_152 : decode cX11_leagueLine 152 = .ok (.iaload, 1) := by decide +kernel
theorem dX11_leagueLine_153 : decode cX11_leagueLine 153 = .ok (.iconst 1, 1) := by decide +kernel
theorem dX11_leagueLine_154 : decode cX11_leagueLine 154 = .ok (.iadd, 1) := by decide +kernel
theorem dX11_leagueLine_155 : decode cX11_leagueLine 155 = .ok (.iastore, 1) := by decide +kernel
theorem dX11_leagueLine_156 : decode cX11_leagueLine 156 = .ok (.goto 204, 3) := by decide +kernel
theorem dX11_leagueLine_159 : decode cX11_leagueLine 159 = .ok (.iload_n 2, 1) := by decide +kernel
theorem dX11_leagueLine_160 : decode cX11_leagueLine 160 = .ok (.iconst 2, 1) := by decide +kernel
theorem dX11_leagueLine_161 : decode cX11_leagueLine 161 = .ok (.if_icmp .ne 98, 3) := by decide +kernel
theorem dX11_leagueLine_164 : decode cX11_leagueLine 164 = .ok (.aload_n 0, 1) := by decide +kernel
theorem dX11_leagueLine_165 : decode cX11_leagueLine 165 = .ok (.getfield 17, 3) := by decide +kernel
theorem dX11_leagueLine_168 : decode cX11_leagueLine 168 = .ok (.iconst 1, 1) := by decide +kernel
theorem dX11_leagueLine_169 : decode cX11_leagueLine 169 = .ok (.iaload, 1) := by decide +kernel
theorem dX11_leagueLine_170 : decode cX11_leagueLine 170 = .ok (.bipush 8, 2) := by decide +kernel
theorem dX11_leagueLine_172 : decode cX11_leagueLine 172 = .ok (.if_icmp .lt 9, 3) := by decide +kernel
theorem dX11_leagueLine_175 : decode cX11_leagueLine 175 = .ok (.aload_n 0, 1) := by decide +kernel
theorem dX11_leagueLine_176 : decode cX11_leagueLine 176 = .ok (.iconst 3, 1) := by decide +kernel
theorem dX11_leagueLine_177 : decode cX11_leagueLine 177 = .ok (.iload_n 1, 1) := by decide +kernel
theorem dX11_leagueLine_178 : decode cX11_leagueLine 178 = .ok (.invokevirtual 94, 3) := by decide +kernel
theorem dX11_leagueLine_181 : decode cX11_leagueLine 181 = .ok (.aload_n 0, 1) := by decide +kernel
theorem dX11_leagueLine_182 : decode cX11_leagueLine 182 = .ok (.iconst 0, 1) := by decide +kernel
theorem dX11_leagueLine_183 : decode cX11_leagueLine 183 = .ok (.aload_n 0, 1) := by decide +kernel
theorem dX11_leagueLine_184 : decode cX11_leagueLine 184 = .ok (.getfield 17, 3) := by decide +kernel
theorem dX11_leagueLine_187 : decode cX11_leagueLine 187 = .ok (.iconst 0, 1) := by decide +kernel
theorem dX11_leagueLine_188 : decode cX11_leagueLine 188 = .ok (.iaload, 1) := by decide +kernel
theorem dX11_leagueLine_189 : decode cX11_leagueLine 189 = .ok (.iconst 1, 1) := by decide +kernel
theorem dX11_leagueLine_190 : decode cX11_leagueLine 190 = .ok (.isub, 1) := by decide +kernel
theorem dX11_leagueLine_191 : decode cX11_leagueLine 191 = .ok (.invokevirtual 98, 3) := by decide +kernel
theorem dX11_leagueLine_194 : decode cX11_leagueLine 194 = .ok (.istore_n 3, 1) := by decide +kernel
theorem dX11_leagueLine_195 : decode cX11_leagueLine 195 = .ok (.aload_n 0, 1) := by decide +kernel
theorem dX11_leagueLine_196 : decode cX11_leagueLine 196 = .ok (.iconst 0, 1) := by decide +kernel
theorem dX11_leagueLine_197 : decode cX11_leagueLine 197 = .ok (.bipush 50, 2) := by decide +kernel
theorem dX11_leagueLine_199 : decode cX11_leagueLine 199 = .ok (.invokevirtual 98, 3) := by decide +kernel
theorem dX11_leagueLine_202 : decode cX11_leagueLine 202 = .ok (.istore 4, 2) := by decide +kernel
theorem dX11_leagueLine_204 : decode cX11_leagueLine 204 = .ok (.aload_n 0, 1) := by decide +kernel
theorem dX11_leagueLine_205 : decode cX11_leagueLine 205 = .ok (.getfield 17, 3) := by decide +kernel
theorem dX11_leagueLine_208 : decode cX11_leagueLine 208 = .ok (.iconst 1, 1) := by decide +kernel
theorem dX11_leagueLine_209 : decode cX11_leagueLine 209 = .ok (.iaload, 1) := by decide +kernel
theorem dX11_leagueLine_210 : decode cX11_leagueLine 210 = .ok (.bipush 8, 2) := by decide +kernel
theorem dX11_leagueLine_212 : decode cX11_leagueLine 212 = .ok (.if_icmp .ge 34, 3) := by decide +kernel
theorem dX11_leagueLine_215 : decode cX11_leagueLine 215 = .ok (.aload_n 0, 1) := by decide +kernel
theorem dX11_leagueLine_216 : decode cX11_leagueLine 216 = .ok (.getfield 17, 3) := by decide +kernel
theorem dX11_leagueLine_219 : decode cX11_leagueLine 219 = .ok (.bipush 32, 2) := by decide +kernel
theorem dX11_leagueLine_221 : decode cX11_leagueLine 221 = .ok (.aload_n 0, 1) := by decide +kernel
theorem dX11_leagueLine_222 : decode cX11_leagueLine 222 = .ok (.getfield 17, 3) := by decide +kernel
theorem dX11_leagueLine_225 : decode cX11_leagueLine 225 = .ok (.iconst 1, 1) := by decide +kernel
theorem dX11_leagueLine_226 : decode cX11_leagueLine 226 = .ok (.iaload, 1) := by decide +kernel
theorem dX11_leagueLine_227 : decode cX11_leagueLine 227 = .ok (.iadd, 1) := by decide +kernel
theorem dX11_leagueLine_228 : decode cX11_leagueLine 228 = .ok (.iload_n 3, 1) := by decide +kernel
theorem dX11_leagueLine_229 : decode cX11_leagueLine 229 = .ok (.iastore, 1) := by decide +kernel
theorem dX11_leagueLine_230 : decode cX11_leagueLine 230 = .ok (.aload_n 0, 1) := by decide +kernel
theorem dX11_leagueLine_231 : decode cX11_leagueLine 231 = .ok (.getfield 17, 3) := by decide +kernel
theorem dX11_leagueLine_234 : decode cX11_leagueLine 234 = .ok (.bipush 40, 2) := by decide +kernel
theorem dX11_leagueLine_236 : decode cX11_leagueLine 236 = .ok (.aload_n 0, 1) := by decide +kernel
theorem dX11_leagueLine_237 : decode cX11_leagueLine 237 = .ok (.getfield 17, 3) := by decide +kernel
theorem dX11_leagueLine_240 : decode cX11_leagueLine 240 = .ok (.iconst 1, 1) := by decide +kernel
theorem dX11_leagueLine_241 : decode cX11_leagueLine 241 = .ok (.iaload, 1) := by decide +kernel
theorem dX11_leagueLine_242 : decode cX11_leagueLine 242 = .ok (.iadd, 1) := by decide +kernel
theorem dX11_leagueLine_243 : decode cX11_leagueLine 243 = .ok (.iload 4, 2) := by decide +kernel
theorem dX11_leagueLine_245 : decode cX11_leagueLine 245 = .ok (.iastore, 1) := by decide +kernel
theorem dX11_leagueLine_246 : decode cX11_leagueLine 246 = .ok (.aload_n 0, 1) := by decide +kernel
theorem dX11_leagueLine_247 : decode cX11_leagueLine 247 = .ok (.getfield 17, 3) := by decide +kernel
theorem dX11_leagueLine_250 : decode cX11_leagueLine 250 = .ok (.iconst 1, 1) := by decide +kernel
theorem dX11_leagueLine_251 : decode cX11_leagueLine 251 = .ok (.dup2, 1) := by decide +kernel
theorem dX11_leagueLine_252 : decode cX11_leagueLine 252 = .ok (.iaload, 1) := by decide +kernel
theorem dX11_leagueLine_253 : decode cX11_leagueLine 253 = .ok (.iconst 1, 1) := by decide +kernel
theorem dX11_leagueLine_254 : decode cX11_leagueLine 254 = .ok (.iadd, 1) := by decide +kernel
theorem dX11_leagueLine_255 : decode cX11_leagueLine 255 = .ok (.iastore, 1) := by decide +kernel
theorem dX11_leagueLine_256 : decode cX11_leagueLine 256 = .ok (.goto 104, 3) := by decide +kernel
theorem dX11_leagueLine_259 : decode cX11_leagueLine 259 = .ok (.iload_n 2, 1) := by decide +kernel
theorem dX11_leagueLine_260 : decode cX11_leagueLine 260 = .ok (.bipush 13, 2) := by decide +kernel
theorem dX11_leagueLine_262 : decode cX11_leagueLine 262 = .ok (.if_icmp .ne 98, 3) := by decide +kernel
theorem dX11_leagueLine_265 : decode cX11_leagueLine 265 = .ok (.aload_n 0, 1) := by decide +kernel
theorem dX11_leagueLine_266 : decode cX11_leagueLine 266 = .ok (.iconst 0, 1) := by decide +kernel
theorem dX11_leagueLine_267 : decode cX11_leagueLine 267 = .ok (.aload_n 0, 1) := by decide +kernel
theorem dX11_leagueLine_268 : decode cX11_leagueLine 268 = .ok (.getfield 17, 3) := by decide +kernel
theorem dX11_leagueLine_271 : decode cX11_leagueLine 271 = .ok (.iconst 0, 1) := by decide +kernel
theorem dX11_leagueLine_272 : decode cX11_leagueLine 272 = .ok (.iaload, 1) := by decide +kernel
theorem dX11_leagueLine_273 : decode cX11_leagueLine 273 = .ok (.iconst 1, 1) := by decide +kernel
theorem dX11_leagueLine_274 : decode cX11_leagueLine 274 = .ok (.isub, 1) := by decide +kernel
theorem dX11_leagueLine_275 : decode cX11_leagueLine 275 = .ok (.invokevirtual 98, 3) := by decide +kernel
theorem dX11_leagueLine_278 : decode cX11_leagueLine 278 = .ok (.istore_n 3, 1) := by decide +kernel
theorem dX11_leagueLine_279 : decode cX11_leagueLine 279 = .ok (.aload_n 0, 1) := by decide +kernel
theorem dX11_leagueLine_280 : decode cX11_leagueLine 280 = .ok (.iconst 0, 1) := by decide +kernel
theorem dX11_leagueLine_281 : decode cX11_leagueLine 281 = .ok (.aload_n 0, 1) := by decide +kernel
theorem dX11_leagueLine_282 : decode cX11_leagueLine 282 = .ok (.getfield 17, 3) := by decide +kernel
theorem dX11_leagueLine_285 : decode cX11_leagueLine 285 = .ok (.iconst 0, 1) := by decide +kernel
theorem dX11_leagueLine_286 : decode cX11_leagueLine 286 = .ok (.iaload, 1) := by decide +kernel
theorem dX11_leagueLine_287 : decode cX11_leagueLine 287 = .ok (.iconst 1, 1) := by decide +kernel
theorem dX11_leagueLine_288 : decode cX11_leagueLine 288 = .ok (.isub, 1) := by decide +kernel
theorem dX11_leagueLine_289 : decode cX11_leagueLine 289 = .ok (.iload_n 3, 1) := by decide +kernel
theorem dX11_leagueLine_290 : decode cX11_leagueLine 290 = .ok (.invokevirtual 105, 3) := by decide +kernel
theorem dX11_leagueLine_293 : decode cX11_leagueLine 293 = .ok (.istore 4, 2) := by decide +kernel
theorem dX11_leagueLine_295 : decode cX11_leagueLine 295 = .ok (.aload_n 0, 1) := by decide +kernel
theorem dX11_leagueLine_296 : decode cX11_leagueLine 296 = .ok (.iconst 0, 1) := by decide +kernel
theorem dX11_leagueLine_297 : decode cX11_leagueLine 297 = .ok (.sipush 9999, 3) := by decide +kernel
theorem dX11_leagueLine_300 : decode cX11_leagueLine 300 = .ok (.invokevirtual 98, 3) := by decide +kernel
theorem dX11_leagueLine_303 : decode cX11_leagueLine 303 = .ok (.istore 5, 2) := by decide +kernel
theorem dX11_leagueLine_305 : decode cX11_leagueLine 305 = .ok (.iload_n 3, 1) := by decide +kernel
theorem dX11_leagueLine_306 : decode cX11_leagueLine 306 = .ok (.iconst 0, 1) := by decide +kernel
theorem dX11_leagueLine_307 : decode cX11_leagueLine 307 = .ok (.bipush 9, 2) := by decide +kernel
theorem dX11_leagueLine_309 : decode cX11_leagueLine 309 = .ok (.invokestatic 90, 3) := by decide +kernel
theorem dX11_leagueLine_312 : decode cX11_leagueLine 312 = .ok (.ifCond .eq 48, 3) := by decide +kernel
theorem dX11_leagueLine_315 : decode cX11_leagueLine 315 = .ok (.iload 4, 2) := by decide +kernel
theorem dX11_leagueLine_317 : decode cX11_leagueLine 317 = .ok (.iconst 0, 1) := by decide +kernel
theorem dX11_leagueLine_318 : decode cX11_leagueLine 318 = .ok (.bipush 9, 2) := by decide +kernel
theorem dX11_leagueLine_320 : decode cX11_leagueLine 320 = .ok (.invokestatic 90, 3) := by decide +kernel
theorem dX11_leagueLine_323 : decode cX11_leagueLine 323 = .ok (.ifCond .eq 37, 3) := by decide +kernel
theorem dX11_leagueLine_326 : decode cX11_leagueLine 326 = .ok (.aload_n 0, 1) := by decide +kernel
theorem dX11_leagueLine_327 : decode cX11_leagueLine 327 = .ok (.getfield 17, 3) := by decide +kernel
theorem dX11_leagueLine_330 : decode cX11_leagueLine 330 = .ok (.bipush 50, 2) := by decide +kernel
theorem dX11_leagueLine_332 : decode cX11_leagueLine 332 = .ok (.bipush 10, 2) := by decide +kernel
theorem dX11_leagueLine_334 : decode cX11_leagueLine 334 = .ok (.iload_n 3, 1) := by decide +kernel
theorem dX11_leagueLine_335 : decode cX11_leagueLine 335 = .ok (.imul, 1) := by decide +kernel
theorem dX11_leagueLine_336 : decode cX11_leagueLine 336 = .ok (.iadd, 1) := by decide +kernel
theorem dX11_leagueLine_337 : decode cX11_leagueLine 337 = .ok (.iload 4, 2) := by decide +kernel
theorem dX11_leagueLine_339 : decode cX11_leagueLine 339 = .ok (.iadd, 1) := by decide +kernel
theorem dX11_leagueLine_340 : decode cX11_leagueLine 340 = .ok (.iload 5, 2) := by decide +kernel
theorem dX11_leagueLine_342 : decode cX11_leagueLine 342 = .ok (.iastore, 1) := by decide +kernel
theorem dX11_leagueLine_343 : decode cX11_leagueLine 343 = .ok (.aload_n 0, 1) := by decide +kernel
theorem dX11_leagueLine_344 : decode cX11_leagueLine 344 = .ok (.getfield 17, 3) := by decide +kernel
theorem dX11_leagueLine_347 : decode cX11_leagueLine 347 = .ok (.bipush 50, 2) := by decide +kernel
theorem dX11_leagueLine_349 : decode cX11_leagueLine 349 = .ok (.bipush 10, 2) := by decide +kernel
theorem dX11_leagueLine_351 : decode cX11_leagueLine 351 = .ok (.iload 4, 2) := by decide +kernel
theorem dX11_leagueLine_353 : decode cX11_leagueLine 353 = .ok (.imul, 1) := by decide +kernel
theorem dX11_leagueLine_354 : decode cX11_leagueLine 354 = .ok (.iadd, 1) := by decide +kernel
theorem dX11_leagueLine_355 : decode cX11_leagueLine 355 = .ok (.iload_n 3, 1) := by decide +kernel
theorem dX11_leagueLine_356 : decode cX11_leagueLine 356 = .ok (.iadd, 1) := by decide +kernel
theorem dX11_leagueLine_357 : decode cX11_leagueLine 357 = .ok (.iload 5, 2) := by decide +kernel
theorem dX11_leagueLine_359 : decode cX11_leagueLine 359 = .ok (.iastore, 1) := by decide +kernel
theorem dX11_leagueLine_360 : decode cX11_leagueLine 360 = .ok (.aload_n 0, 1) := by decide +kernel
theorem dX11_leagueLine_361 : decode cX11_leagueLine 361 = .ok (.invokevirtual 108, 3) := by decide +kernel
theorem dX11_leagueLine_364 : decode cX11_leagueLine 364 = .ok (.return_, 1) := by decide +kernel
theorem dX11_mostPer_0 : decode cX11_mostPer 0 = .ok (.iload_n 0, 1) := by decide +kernel
theorem dX11_mostPer_1 : decode cX11_mostPer 1 = .ok (.iconst 1, 1) := by decide +kernel
theorem dX11_mostPer_2 : decode cX11_mostPer 2 = .ok (.if_icmp .ne 9, 3) := by decide +kernel
theorem dX11_mostPer_5 : decode cX11_mostPer 5 = .ok (.sipush 9999, 3) := by decide +kernel
theorem dX11_mostPer_8 : decode cX11_mostPer 8 = .ok (.goto 26, 3) := by decide +kernel
theorem dX11_mostPer_11 : decode cX11_mostPer 11 = .ok (.iload_n 0, 1) := by decide +kernel
theorem dX11_mostPer_12 : decode cX11_mostPer 12 = .ok (.iconst 2, 1) := by decide +kernel
theorem dX11_mostPer_13 : decode cX11_mostPer 13 = .ok (.if_icmp .ne 8, 3) := by decide +kernel
theorem dX11_mostPer_16 : decode cX11_mostPer 16 = .ok (.bipush 30, 2) := by decide +kernel
theorem dX11_mostPer_18 : decode cX11_mostPer 18 = .ok (.goto 16, 3) := by decide +kernel
theorem dX11_mostPer_21 : decode cX11_mostPer 21 = .ok (.iload_n 0, 1) := by decide +kernel
theorem dX11_mostPer_22 : decode cX11_mostPer 22 = .ok (.iconst 5, 1) := by decide +kernel
theorem dX11_mostPer_23 : decode cX11_mostPer 23 = .ok (.if_icmp .ne 8, 3) := by decide +kernel
theorem dX11_mostPer_26 : decode cX11_mostPer 26 = .ok (.bipush 99, 2) := by decide +kernel
theorem dX11_mostPer_28 : decode cX11_mostPer 28 = .ok (.goto 6, 3) := by decide +kernel
theorem dX11_mostPer_31 : decode cX11_mostPer 31 = .ok (.sipush 999, 3) := by decide +kernel
theorem dX11_mostPer_34 : decode cX11_mostPer 34 = .ok (.ireturn, 1) := by decide +kernel
theorem dX11_lawLine_0 : decode cX11_lawLine 0 = .ok (.aload_n 0, 1) := by decide +kernel
theorem dX11_lawLine_1 : decode cX11_lawLine 1 = .ok (.bipush 11, 2) := by decide +kernel
theorem dX11_lawLine_3 : decode cX11_lawLine 3 = .ok (.bipush 17, 2) := by decide +kernel
theorem dX11_lawLine_5 : decode cX11_lawLine 5 = .ok (.invokevirtual 102, 3) := by decide +kernel
theorem dX11_lawLine_8 : decode cX11_lawLine 8 = .ok (.istore_n 1, 1) := by decide +kernel
theorem dX11_lawLine_9 : decode cX11_lawLine 9 = .ok (.iload_n 1, 1) := by decide +kernel
theorem dX11_lawLine_10 : decode cX11_lawLine 10 = .ok (.bipush 11, 2) := by decide +kernel
theorem dX11_lawLine_12 : decode cX11_lawLine 12 = .ok (.if_icmp .ne 19, 3) := by decide +kernel
theorem dX11_lawLine_15 : decode cX11_lawLine 15 = .ok (.aload_n 0, 1) := by decide +kernel
theorem dX11_lawLine_16 : decode cX11_lawLine 16 = .ok (.getfield 17, 3) := by decide +kernel
theorem dX11_lawLine_19 : decode cX11_lawLine 19 = .ok (.iconst 0, 1) := by decide +kernel
theorem dX11_lawLine_20 : decode cX11_lawLine 20 = .ok (.aload_n 0, 1) := by decide +kernel
theorem dX11_lawLine_21 : decode cX11_lawLine 21 = .ok (.iconst 0, 1) := by decide +kernel
theorem dX11_lawLine_22 : decode cX11_lawLine 22 = .ok (.bipush 100, 2) := by decide +kernel
theorem dX11_lawLine_24 : decode cX11_lawLine 24 = .ok (.invokevirtual 98, 3) := by decide +kernel
theorem dX11_lawLine_27 : decode cX11_lawLine 27 = .ok (.iastore, 1) := by decide +kernel
theorem dX11_lawLine_28 : decode cX11_lawLine 28 = .ok (.goto 51, 3) := by decide +kernel
theorem dX11_lawLine_31 : decode cX11_lawLine 31 = .ok (.iload_n 1, 1) := by decide +kernel
theorem dX11_lawLine_32 : decode cX11_lawLine 32 = .ok (.bipush 11, 2) := by decide +kernel
theorem dX11_lawLine_34 : decode cX11_lawLine 34 = .ok (.if_icmp .le 45, 3) := by decide +kernel
theorem dX11_lawLine_37 : decode cX11_lawLine 37 = .ok (.iload_n 1, 1) := by decide +kernel
theorem dX11_lawLine_38 : decode cX11_lawLine 38 = .ok (.bipush 12, 2) := by decide +kernel
theorem dX11_lawLine_40 : decode cX11_lawLine 40 = .ok (.isub, 1) := by decide +kernel
theorem dX11_lawLine_41 : decode cX11_lawLine 41 = .ok (.istore_n 2, 1) := by decide +kernel
theorem dX11_lawLine_42 : decode cX11_lawLine 42 = .ok (.aload_n 0, 1) := by decide +kernel
theorem dX11_lawLine_43 : decode cX11_lawLine 43 = .ok (.getfield 17, 3) := by decide +kernel
theorem dX11_lawLine_46 : decode cX11_lawLine 46 = .ok (.iconst 1, 1) := by decide +kernel
theorem dX11_lawLine_47 : decode cX11_lawLine 47 = .ok (.iload_n 2, 1) := by decide +kernel
theorem dX11_lawLine_48 : decode cX11_lawLine 48 = .ok (.iadd, 1) := by decide +kernel
theorem dX11_lawLine_49 : decode cX11_lawLine 49 = .ok (.aload_n 0, 1) := by decide +kernel
theorem dX11_lawLine_50 : decode cX11_lawLine 50 = .ok (.iconst 0, 1) := by decide +kernel
theorem dX11_lawLine_51 : decode cX11_lawLine 51 = .ok (.bipush 50, 2) := by decide +kernel
theorem dX11_lawLine_53 : decode cX11_lawLine 53 = .ok (.invokevirtual 98, 3) := by decide +kernel
theorem dX11_lawLine_56 : decode cX11_lawLine 56 = .ok (.iastore, 1) := by decide +kernel
theorem dX11_lawLine_57 : decode cX11_lawLine 57 = .ok (.iload_n 2, 1) := by decide +kernel
theorem dX11_lawLine_58 : decode cX11_lawLine 58 = .ok (.ifCond .le 21, 3) := by decide +kernel
theorem dX11_lawLine_61 : decode cX11_lawLine 61 = .ok (.aload_n 0, 1) := by decide +kernel
theorem dX11_lawLine_62 : decode cX11_lawLine 62 = .ok (.getfield 17, 3) := by decide +kernel
theorem dX11_lawLine_65 : decode cX11_lawLine 65 = .ok (.bipush 7, 2) := by decide +kernel
theorem dX11_lawLine_67 : decode cX11_lawLine 67 = .ok (.iload_n 2, 1) := by decide +kernel
theorem dX11_lawLine_68 : decode cX11_lawLine 68 = .ok (.iadd, 1) := by decide +kernel
theorem dX11_lawLine_69 : decode cX11_lawLine 69 = .ok (.aload_n 0, 1) := by decide +kernel
theorem dX11_lawLine_70 : decode cX11_lawLine 70 = .ok (.iconst 1, 1) := by decide +kernel
theorem dX11_lawLine_71 : decode cX11_lawLine 71 = .ok (.iload_n 2, 1) := by decide +kernel
theorem dX11_lawLine_72 : decode cX11_lawLine 72 = .ok (.invokestatic 111, 3) := by decide +kernel
theorem dX11_lawLine_75 : decode cX11_lawLine 75 = .ok (.invokevirtual 98, 3) := by decide +kernel
theorem dX11_lawLine_78 : decode cX11_lawLine 78 = .ok (.iastore, 1) := by decide +kernel
theorem dX11_lawLine_79 : decode cX11_lawLine 79 = .ok (.aload_n 0, 1) := by decide +kernel
theorem dX11_lawLine_80 : decode cX11_lawLine 80 = .ok (.invokevirtual 108, 3) := by decide +kernel
theorem dX11_lawLine_83 : decode cX11_lawLine 83 = .ok (.return_, 1) := by decide +kernel
theorem dX11_planLine_0 : decode cX11_planLine 0 = .ok (.aload_n 0, 1) := by decide +kernel
theorem dX11_planLine_1 : decode cX11_planLine 1 = .ok (.getfield 58, 3) := by decide +kernel
theorem dX11_planLine_4 : decode cX11_planLine 4 = .ok (.istore_n 1, 1) := by decide +kernel
theorem dX11_planLine_5 : decode cX11_planLine 5 = .ok (.aload_n 0, 1) := by decide +kernel
theorem dX11_planLine_6 : decode cX11_planLine 6 = .ok (.bipush 21, 2) := by decide +kernel
theorem dX11_planLine_8 : decode cX11_planLine 8 = .ok (.bipush 27, 2) := by decide +kernel
theorem dX11_planLine_10 : decode cX11_planLine 10 = .ok (.invokevirtual 102, 3) := by decide +kernel
theorem dX11_planLine_13 : decode cX11_planLine 13 = .ok (.istore_n 2, 1) := by decide +kernel
theorem dX11_planLine_14 : decode cX11_planLine 14 = .ok (.iload_n 2, 1) := by decide +kernel
theorem dX11_planLine_15 : decode cX11_planLine 15 = .ok (.bipush 21, 2) := by decide +kernel
theorem dX11_planLine_17 : decode cX11_planLine 17 = .ok (.if_icmp .ne 31, 3) := by decide +kernel
theorem dX11_planLine_20 : decode cX11_planLine 20 = .ok (.aload_n 0, 1) := by decide +kernel
theorem dX11_planLine_21 : decode cX11_planLine 21 = .ok (.aload_n 0, 1) := by decide +kernel
theorem dX11_planLine_22 : decode cX11_planLine 22 = .ok (.getfield 114, 3) := by decide +kernel
theorem dX11_planLine_25 : decode cX11_planLine 25 = .ok (.sipush 999, 3) := by decide +kernel
theorem dX11_planLine_28 : decode cX11_planLine 28 = .ok (.invokevirtual 98, 3) := by decide +kernel
theorem dX11_planLine_31 : decode cX11_planLine 31 = .ok (.istore_n 3, 1) := by decide +kernel
theorem dX11_planLine_32 : decode cX11_planLine 32 = .ok (.aload_n 0, 1) := by decide +kernel
theorem dX11_planLine_33 : decode cX11_planLine 33 = .ok (.iload_n 3, 1) := by decide +kernel
theorem dX11_planLine_34 : decode cX11_planLine 34 = .ok (.ifCond .ge 10, 3) := by decide +kernel
theorem dX11_planLine_37 : decode cX11_planLine 37 = .ok (.aload_n 0, 1) := by decide +kernel
theorem dX11_planLine_38 : decode cX11_planLine 38 = .ok (.getfield 114, 3) := by decide +kernel
theorem dX11_planLine_41 : decode cX11_planLine 41 = .ok (.goto 4, 3) := by decide +kernel
theorem dX11_planLine_44 : decode cX11_planLine 44 = .ok (.iload_n 3, 1) := by decide +kernel
theorem dX11_planLine_45 : decode cX11_planLine 45 = .ok (.putfield 114, 3) := by decide +kernel
theorem dX11_planLine_48 : decode cX11_planLine 48 = .ok (.iload_n 2, 1) := by decide +kernel
theorem dX11_planLine_49 : decode cX11_planLine 49 = .ok (.bipush 22, 2) := by decide +kernel
theorem dX11_planLine_51 : decode cX11_planLine 51 = .ok (.if_icmp .eq 9, 3) := by decide +kernel
theorem dX11_planLine_54 : decode cX11_planLine 54 = .ok (.iload_n 2, 1) := by decide +kernel
theorem dX11_planLine_55 : decode cX11_planLine 55 = .ok (.bipush 23, 2) := by decide +kernel
theorem dX11_planLine_57 : decode cX11_planLine 57 = .ok (.if_icmp .ne 18, 3) := by decide +kernel
theorem dX11_planLine_60 : decode cX11_planLine 60 = .ok (.aload_n 0, 1) := by decide +kernel
theorem dX11_planLine_61 : decode cX11_planLine 61 = .ok (.iload_n 2, 1) := by decide +kernel
theorem dX11_planLine_62 : decode cX11_planLine 62 = .ok (.bipush 22, 2) := by decide +kernel
theorem dX11_planLine_64 : decode cX11_planLine 64 = .ok (.if_icmp .ne 7, 3) := by decide +kernel
theorem dX11_planLine_67 : decode cX11_planLine 67 = .ok (.iconst 1, 1) := by decide +kernel
theorem dX11_planLine_68 : decode cX11_planLine 68 = .ok (.goto 4, 3) := by decide +kernel
theorem dX11_planLine_71 : decode cX11_planLine 71 = .ok (.iconst 0, 1) := by decide +kernel
theorem dX11_planLine_72 : decode cX11_planLine 72 = .ok (.putfield 117, 3) := by decide +kernel
theorem dX11_planLine_75 : decode cX11_planLine 75 = .ok (.iload_n 2, 1) := by decide +kernel
theorem dX11_planLine_76 : decode cX11_planLine 76 = .ok (.bipush 24, 2) := by decide +kernel
theorem dX11_planLine_78 : decode cX11_planLine 78 = .ok (.if_icmp .eq 9, 3) := by decide +kernel
theorem dX11_planLine_81 : decode cX11_planLine 81 = .ok (.iload_n 2, 1) := by decide +kernel
theorem dX11_planLine_82 : decode cX11_planLine 82 = .ok (.bipush 25, 2) := by decide +kernel
theorem dX11_planLine_84 : decode cX11_planLine 84 = .ok (.if_icmp .ne 18, 3) := by decide +kernel
theorem dX11_planLine_87 : decode cX11_planLine 87 = .ok (.aload_n 0, 1) := by decide +kernel
theorem dX11_planLine_88 : decode cX11_planLine 88 = .ok (.iload_n 2, 1) := by decide +kernel
theorem dX11_planLine_89 : decode cX11_planLine 89 = .ok (.bipush 24, 2) := by decide +kernel
theorem dX11_planLine_91 : decode cX11_planLine 91 = .ok (.if_icmp .ne 7, 3) := by decide +kernel
theorem dX11_planLine_94 : decode cX11_planLine 94 = .ok (.iconst 1, 1) := by decide +kernel
theorem dX11_planLine_95 : decode cX11_planLine 95 = .ok (.goto 4, 3) := by decide +kernel
theorem dX11_planLine_98 : decode cX11_planLine 98 = .ok (.iconst 0, 1) := by decide +kernel
theorem dX11_planLine_99 : decode cX11_planLine 99 = .ok (.putfield 120, 3) := by decide +kernel
theorem dX11_planLine_102 : decode cX11_planLine 102 = .ok (.iload_n 2, 1) := by decide +kernel
theorem dX11_planLine_103 : decode cX11_planLine 103 = .ok (.bipush 26, 2) := by decide +kernel
theorem dX11_planLine_105 : decode cX11_planLine 105 = .ok (.if_icmp .ne 14, 3) := by decide +kernel
theorem dX11_planLine_108 : decode cX11_planLine 108 = .ok (.aload_n 0, 1) := by decide +kernel
theorem dX11_planLine_109 : decode cX11_planLine 109 = .ok (.aload_n 0, 1) := by decide +kernel
theorem dX11_planLine_110 : decode cX11_planLine 110 = .ok (.iconst 0, 1) := by decide +kernel
theorem dX11_planLine_111 : decode cX11_planLine 111 = .ok (.bipush 9, 2) := by decide +kernel
theorem dX11_planLine_113 : decode cX11_planLine 113 = .ok (.invokevirtual 98, 3) := by decide +kernel
theorem dX11_planLine_116 : decode cX11_planLine 116 = .ok (.putfield 123, 3) := by decide +kernel
theorem dX11_planLine_119 : decode cX11_planLine 119 = .ok (.iload_n 2, 1) := by decide +kernel
theorem dX11_planLine_120 : decode cX11_planLine 120 = .ok (.bipush 27, 2) := by decide +kernel
theorem dX11_planLine_122 : decode cX11_planLine 122 = .ok (.if_icmp .ne 113, 3) := by decide +kernel
theorem dX11_planLine_125 : decode cX11_planLine 125 = .ok (.aload_n 0, 1) := by decide +kernel
theorem dX11_planLine_126 : decode cX11_planLine 126 = .ok (.getfield 17, 3) := by decide +kernel
theorem dX11_planLine_129 : decode cX11_planLine 129 = .ok (.iconst 0, 1) := by decide +kernel
theorem dX11_planLine_130 : decode cX11_planLine 130 = .ok (.iaload, 1) := by decide +kernel
theorem dX11_planLine_131 : decode cX11_planLine 131 = .ok (.bipush 40, 2) := by decide +kernel
theorem dX11_planLine_133 : decode cX11_planLine 133 = .ok (.if_icmp .lt 9, 3) := by decide +kernel
theorem dX11_planLine_136 : decode cX11_planLine 136 = .ok (.aload_n 0, 1) := by decide +kernel
theorem dX11_planLine_137 : decode cX11_planLine 137 = .ok (.iconst 3, 1) := by decide +kernel
theorem dX11_planLine_138 : decode cX11_planLine 138 = .ok (.iload_n 1, 1) := by decide +kernel
theorem dX11_planLine_139 : decode cX11_planLine 139 = .ok (.invokevirtual 94, 3) := by decide +kernel
theorem dX11_planLine_142 : decode cX11_planLine 142 = .ok (.aload_n 0, 1) := by decide +kernel
theorem dX11_planLine_143 : decode cX11_planLine 143 = .ok (.iconst 0, 1) := by decide +kernel
theorem dX11_planLine_144 : decode cX11_planLine 144 = .ok (.bipush 7, 2) := by decide +kernel
theorem dX11_planLine_146 : decode cX11_planLine 146 = .ok (.invokevirtual 98, 3) := by decide +kernel
theorem dX11_planLine_149 : decode cX11_planLine 149 = .ok (.istore_n 3, 1) := by decide +kernel
theorem dX11_planLine_150 : decode cX11_planLine 150 = .ok (.aload_n 0, 1) := by decide +kernel
theorem dX11_planLine_151 : decode cX11_planLine 151 = .ok (.iconst 0, 1) := by decide +kernel
theorem dX11_planLine_152 : decode cX11_planLine 152 = .ok (.bipush 7, 2) := by decide +kernel
theorem dX11_planLine_154 : decode cX11_planLine 154 = .ok (.iload_n 3, 1) := by decide +kernel
theorem dX11_planLine_155 : decode cX11_planLine 155 = .ok (.invokevirtual 105, 3) := by decide +kernel
theorem dX11_planLine_158 : decode cX11_planLine 158 = .ok (.istore 4, 2) := by decide +kernel
theorem dX11_planLine_160 : decode cX11_planLine 160 = .ok (.aload_n 0, 1) := by decide +kernel
theorem dX11_planLine_161 : decode cX11_planLine 161 = .ok (.iload_n 3, 1) := by decide +kernel
theorem dX11_planLine_162 : decode cX11_planLine 162 = .ok (.iload 4, 2) := by decide +kernel
theorem dX11_planLine_164 : decode cX11_planLine 164 = .ok (.invokevirtual 126, 3) := by decide +kernel
theorem dX11_planLine_167 : decode cX11_planLine 167 = .ok (.astore 5, 2) := by decide +kernel
theorem dX11_planLine_169 : decode cX11_planLine 169 = .ok (.iconst 0, 1) := by decide +kernel
theorem dX11_planLine_170 : decode cX11_planLine 170 = .ok (.istore 6, 2) := by decide +kernel
theorem dX11_planLine_172 : decode cX11_planLine 172 = .ok (.iload 6, 2) := by decide +kernel
theorem dX11_planLine_174 : decode cX11_planLine 174 = .ok (.bipush 6, 2) := by decide +kernel
theorem dX11_planLine_176 : decode cX11_planLine 176 = .ok (.if_icmp .ge 44, 3) := by decide +kernel
theorem dX11_planLine_179 : decode cX11_planLine 179 = .ok (.aload_n 0, 1) := by decide +kernel
theorem dX11_planLine_180 : decode cX11_planLine 180 = .ok (.getfield 17, 3) := by decide +kernel
theorem dX11_planLine_183 : decode cX11_planLine 183 = .ok (.iconst 0, 1) := by decide +kernel
theorem dX11_planLine_184 : decode cX11_planLine 184 = .ok (.iaload, 1) := by decide +kernel
theorem dX11_planLine_185 : decode cX11_planLine 185 = .ok (.bipush 40, 2) := by decide +kernel
theorem dX11_planLine_187 : decode cX11_planLine 187 = .ok (.if_icmp .ge 33, 3) := by decide +kernel
theorem dX11_planLine_190 : decode cX11_planLine 190 = .ok (.aload_n 0, 1) := by decide +kernel
theorem dX11_planLine_191 : decode cX11_planLine 191 = .ok (.getfield 17, 3) := by decide +kernel
theorem dX11_planLine_194 : decode cX11_planLine 194 = .ok (.iconst 1, 1) := by decide +kernel
theorem dX11_planLine_195 : decode cX11_planLine 195 = .ok (.bipush 6, 2) := by decide +kernel
theorem dX11_planLine_197 : decode cX11_planLine 197 = .ok (.aload_n 0, 1) := by decide +kernel
theorem dX11_planLine_198 : decode cX11_planLine 198 = .ok (.getfield 17, 3) := by decide +kernel
theorem dX11_planLine_201 : decode cX11_planLine 201 = .ok (.iconst 0, 1) := by decide +kernel
theorem dX11_planLine_202 : decode cX11_planLine 202 = .ok (.iaload, 1) := by decide +kernel
theorem dX11_planLine_203 : decode cX11_planLine 203 = .ok (.imul, 1) := by decide +kernel
theorem dX11_planLine_204 : decode cX11_planLine 204 = .ok (.iadd, 1) := by decide +kernel
theorem dX11_planLine_205 : decode cX11_planLine 205 = .ok (.iload 6, 2) := by decide +kernel
theorem dX11_planLine_207 : decode cX11_planLine 207 = .ok (.iadd, 1) := by decide +kernel
theorem dX11_planLine_208 : decode cX11_planLine 208 = .ok (.aload 5, 2) := by decide +kernel
theorem dX11_planLine_210 : decode cX11_planLine 210 = .ok (.iload 6, 2) := by decide +kernel
theorem dX11_planLine_212 : decode cX11_planLine 212 = .ok (.iaload, 1) := by decide +kernel
theorem dX11_planLine_213 : decode cX11_planLine 213 = .ok (.iastore, 1) := by decide +kernel
theorem dX11_planLine_214 : decode cX11_planLine 214 = .ok (.iinc 6 1, 3) := by decide +kernel
theorem dX11_planLine_217 : decode cX11_planLine 217 = .ok (.goto (-45), 3) := by decide +kernel
theorem dX11_planLine_220 : decode cX11_planLine 220 = .ok (.aload_n 0, 1) := by decide +kernel
theorem dX11_planLine_221 : decode cX11_planLine 221 = .ok (.getfield 17, 3) := by decide +kernel
theorem dX11_planLine_224 : decode cX11_planLine 224 = .ok (.iconst 0, 1) := by decide +kernel
theorem dX11_planLine_225 : decode cX11_planLine 225 = .ok (.dup2, 1) := by decide +kernel
theorem dX11_planLine_226 : decode cX11_planLine 226 = .ok (.iaload, 1) := by decide +kernel
theorem dX11_planLine_227 : decode cX11_planLine 227 = .ok (.iconst 1, 1) := by decide +kernel
theorem dX11_planLine_228 : decode cX11_planLine 228 = .ok (.iadd, 1) := by decide +kernel
theorem dX11_planLine_229 : decode cX11_planLine 229 = .ok (.iastore, 1) := by decide +kernel
theorem dX11_planLine_230 : decode cX11_planLine 230 = .ok (.aload_n 0, 1) := by decide +kernel
theorem dX11_planLine_231 : decode cX11_planLine 231 = .ok (.iconst (-1), 1) := by decide +kernel
theorem dX11_planLine_232 : decode cX11_planLine 232 = .ok (.putfield 123, 3) := by decide +kernel
theorem dX11_planLine_235 : decode cX11_planLine 235 = .ok (.aload_n 0, 1) := by decide +kernel
theorem dX11_planLine_236 : decode cX11_planLine 236 = .ok (.invokevirtual 108, 3) := by decide +kernel
theorem dX11_planLine_239 : decode cX11_planLine 239 = .ok (.return_, 1) := by decide +kernel
theorem dX11_plans_0 : decode cX11_plans 0 = .ok (.aload_n 0, 1) := by decide +kernel
theorem dX11_plans_1 : decode cX11_plans 1 = .ok (.getfield 20, 3) := by decide +kernel
theorem dX11_plans_4 : decode cX11_plans 4 = .ok (.iconst 0, 1) := by decide +kernel
theorem dX11_plans_5 : decode cX11_plans 5 = .ok (.iload_n 1, 1) := by decide +kernel
theorem dX11_plans_6 : decode cX11_plans 6 = .ok (.iastore, 1) := by decide +kernel
theorem dX11_plans_7 : decode cX11_plans 7 = .ok (.aload_n 0, 1) := by decide +kernel
theorem dX11_plans_8 : decode cX11_plans 8 = .ok (.getfield 20, 3) := by decide +kernel
theorem dX11_plans_11 : decode cX11_plans 11 = .ok (.iconst 1, 1) := by decide +kernel
theorem dX11_plans_12 : decode cX11_plans 12 = .ok (.iload_n 2, 1) := by decide +kernel
theorem dX11_plans_13 : decode cX11_plans 13 = .ok (.iastore, 1) := by decide +kernel
theorem dX11_plans_14 : decode cX11_plans 14 = .ok (.aload_n 0, 1) := by decide +kernel
theorem dX11_plans_15 : decode cX11_plans 15 = .ok (.getfield 20, 3) := by decide +kernel
theorem dX11_plans_18 : decode cX11_plans 18 = .ok (.iconst 2, 1) := by decide +kernel
theorem dX11_plans_19 : decode cX11_plans 19 = .ok (.aload_n 0, 1) := by decide +kernel
theorem dX11_plans_20 : decode cX11_plans 20 = .ok (.getfield 114, 3) := by decide +kernel
theorem dX11_plans_23 : decode cX11_plans 23 = .ok (.iastore, 1) := by decide +kernel
theorem dX11_plans_24 : decode cX11_plans 24 = .ok (.aload_n 0, 1) := by decide +kernel
theorem dX11_plans_25 : decode cX11_plans 25 = .ok (.getfield 20, 3) := by decide +kernel
theorem dX11_plans_28 : decode cX11_plans 28 = .ok (.iconst 3, 1) := by decide +kernel
theorem dX11_plans_29 : decode cX11_plans 29 = .ok (.aload_n 0, 1) := by decide +kernel
theorem dX11_plans_30 : decode cX11_plans 30 = .ok (.getfield 117, 3) := by decide +kernel
theorem dX11_plans_33 : decode cX11_plans 33 = .ok (.iastore, 1) := by decide +kernel
theorem dX11_plans_34 : decode cX11_plans 34 = .ok (.aload_n 0, 1) := by decide +kernel
theorem dX11_plans_35 : decode cX11_plans 35 = .ok (.getfield 20, 3) := by decide +kernel
theorem dX11_plans_38 : decode cX11_plans 38 = .ok (.iconst 4, 1) := by decide +kernel
theorem dX11_plans_39 : decode cX11_plans 39 = .ok (.aload_n 0, 1) := by decide +kernel
theorem dX11_plans_40 : decode cX11_plans 40 = .ok (.getfield 120, 3) := by decide +kernel
theorem dX11_plans_43 : decode cX11_plans 43 = .ok (.iastore, 1) := by decide +kernel
theorem dX11_plans_44 : decode cX11_plans 44 = .ok (.aload_n 0, 1) := by decide +kernel
theorem dX11_plans_45 : decode cX11_plans 45 = .ok (.getfield 20, 3) := by decide +kernel
theorem dX11_plans_48 : decode cX11_plans 48 = .ok (.iconst 5, 1) := by decide +kernel
theorem dX11_plans_49 : decode cX11_plans 49 = .ok (.aload_n 0, 1) := by decide +kernel
theorem dX11_plans_50 : decode cX11_plans 50 = .ok (.getfield 123, 3) := by decide +kernel
theorem dX11_plans_53 : decode cX11_plans 53 = .ok (.iastore, 1) := by decide +kernel
theorem dX11_plans_54 : decode cX11_plans 54 = .ok (.aload_n 0, 1) := by decide +kernel
theorem dX11_plans_55 : decode cX11_plans 55 = .ok (.getfield 20, 3) := by decide +kernel
theorem dX11_plans_58 : decode cX11_plans 58 = .ok (.areturn, 1) := by decide +kernel
theorem dX11_placeOf_0 : decode cX11_placeOf 0 = .ok (.iload_n 0, 1) := by decide +kernel
theorem dX11_placeOf_1 : decode cX11_placeOf 1 = .ok (.ifCond .ne 15, 3) := by decide +kernel
theorem dX11_placeOf_4 : decode cX11_placeOf 4 = .ok (.sipush 510, 3) := by decide +kernel
theorem dX11_placeOf_7 : decode cX11_placeOf 7 = .ok (.sipush 150, 3) := by decide +kernel
theorem dX11_placeOf_10 : decode cX11_placeOf 10 = .ok (.iload_n 1, 1) := by decide +kernel
theorem dX11_placeOf_11 : decode cX11_placeOf 11 = .ok (.imul, 1) := by decide +kernel
theorem dX11_placeOf_12 : decode cX11_placeOf 12 = .ok (.iadd, 1) := by decide +kernel
theorem dX11_placeOf_13 : decode cX11_placeOf 13 = .ok (.goto 28, 3) := by decide +kernel
theorem dX11_placeOf_16 : decode cX11_placeOf 16 = .ok (.iload_n 0, 1) := by decide +kernel
theorem dX11_placeOf_17 : decode cX11_placeOf 17 = .ok (.iconst 1, 1) := by decide +kernel
theorem dX11_placeOf_18 : decode cX11_placeOf 18 = .ok (.if_icmp .ne 14, 3) := by decide +kernel
theorem dX11_placeOf_21 : decode cX11_placeOf 21 = .ok (.sipush 960, 3) := by decide +kernel
theorem dX11_placeOf_24 : decode cX11_placeOf 24 = .ok (.bipush 14, 2) := by decide +kernel
theorem dX11_placeOf_26 : decode cX11_placeOf 26 = .ok (.iload_n 1, 1) := by decide +kernel
theorem dX11_placeOf_27 : decode cX11_placeOf 27 = .ok (.imul, 1) := by decide +kernel
theorem dX11_placeOf_28 : decode cX11_placeOf 28 = .ok (.iadd, 1) := by decide +kernel
theorem dX11_placeOf_29 : decode cX11_placeOf 29 = .ok (.goto 12, 3) := by decide +kernel
theorem dX11_placeOf_32 : decode cX11_placeOf 32 = .ok (.sipush 1002, 3) := by decide +kernel
theorem dX11_placeOf_35 : decode cX11_placeOf 35 = .ok (.sipush 242, 3) := by decide +kernel
theorem dX11_placeOf_38 : decode cX11_placeOf 38 = .ok (.iload_n 1, 1) := by decide +kernel
theorem dX11_placeOf_39 : decode cX11_placeOf 39 = .ok (.imul, 1) := by decide +kernel
theorem dX11_placeOf_40 : decode cX11_placeOf 40 = .ok (.iadd, 1) := by decide +kernel
theorem dX11_placeOf_41 : decode cX11_placeOf 41 = .ok (.ireturn, 1) := by decide +kernel
theorem dX11_sizeOf_0 : decode cX11_sizeOf 0 = .ok (.iload_n 0, 1) := by decide +kernel
theorem dX11_sizeOf_1 : decode cX11_sizeOf 1 = .ok (.ifCond .ne 9, 3) := by decide +kernel
theorem dX11_sizeOf_4 : decode cX11_sizeOf 4 = .ok (.sipush 150, 3) := by decide +kernel
theorem dX11_sizeOf_7 : decode cX11_sizeOf 7 = .ok (.goto 16, 3) := by decide +kernel
theorem dX11_sizeOf_10 : decode cX11_sizeOf 10 = .ok (.iload_n 0, 1) := by decide +kernel
theorem dX11_sizeOf_11 : decode cX11_sizeOf 11 = .ok (.iconst 1, 1) := by decide +kernel
theorem dX11_sizeOf_12 : decode cX11_sizeOf 12 = .ok (.if_icmp .ne 8, 3) := by decide +kernel
theorem dX11_sizeOf_15 : decode cX11_sizeOf 15 = .ok (.bipush 14, 2) := by decide +kernel
theorem dX11_sizeOf_17 : decode cX11_sizeOf 17 = .ok (.goto 6, 3) := by decide +kernel
theorem dX11_sizeOf_20 : decode cX11_sizeOf 20 = .ok (.sipush 242, 3) := by decide +kernel
theorem dX11_sizeOf_23 : decode cX11_sizeOf 23 = .ok (.ireturn, 1) := by decide +kernel
theorem dX11_isOf_0 : decode cX11_isOf 0 = .ok (.iload_n 2, 1) := by decide +kernel
theorem dX11_isOf_1 : decode cX11_isOf 1 = .ok (.iconst 0, 1) := by decide +kernel
theorem dX11_isOf_2 : decode cX11_isOf 2 = .ok (.aload_n 0, 1) := by decide +kernel
theorem dX11_isOf_3 : decode cX11_isOf 3 = .ok (.getfield 7, 3) := by decide +kernel
theorem dX11_isOf_6 : decode cX11_isOf 6 = .ok (.iload_n 1, 1) := by decide +kernel
theorem dX11_isOf_7 : decode cX11_isOf 7 = .ok (.iaload, 1) := by decide +kernel
theorem dX11_isOf_8 : decode cX11_isOf 8 = .ok (.iconst 1, 1) := by decide +kernel
theorem dX11_isOf_9 : decode cX11_isOf 9 = .ok (.isub, 1) := by decide +kernel
theorem dX11_isOf_10 : decode cX11_isOf 10 = .ok (.invokestatic 90, 3) := by decide +kernel
theorem dX11_isOf_13 : decode cX11_isOf 13 = .ok (.ireturn, 1) := by decide +kernel
theorem dX11_begins_0 : decode cX11_begins 0 = .ok (.aload_n 0, 1) := by decide +kernel
theorem dX11_begins_1 : decode cX11_begins 1 = .ok (.iconst 0, 1) := by decide +kernel
theorem dX11_begins_2 : decode cX11_begins 2 = .ok (.putfield 51, 3) := by decide +kernel
theorem dX11_begins_5 : decode cX11_begins 5 = .ok (.aload_n 0, 1) := by decide +kernel
theorem dX11_begins_6 : decode cX11_begins 6 = .ok (.iconst 0, 1) := by decide +kernel
theorem dX11_begins_7 : decode cX11_begins 7 = .ok (.putfield 80, 3) := by decide +kernel
theorem dX11_begins_10 : decode cX11_begins 10 = .ok (.iconst 0, 1) := by decide +kernel
theorem dX11_begins_11 : decode cX11_begins 11 = .ok (.istore_n 2, 1) := by decide +kernel
theorem dX11_begins_12 : decode cX11_begins 12 = .ok (.iload_n 2, 1) := by decide +kernel
theorem dX11_begins_13 : decode cX11_begins 13 = .ok (.sipush 242, 3) := by decide +kernel
theorem dX11_begins_16 : decode cX11_begins 16 = .ok (.if_icmp .ge 16, 3) := by decide +kernel
theorem dX11_begins_19 : decode cX11_begins 19 = .ok (.aload_n 0, 1) := by decide +kernel
theorem dX11_begins_20 : decode cX11_begins 20 = .ok (.getfield 17, 3) := by decide +kernel
theorem dX11_begins_23 : decode cX11_begins 23 = .ok (.iload_n 2, 1) := by decide +kernel
theorem dX11_begins_24 : decode cX11_begins 24 = .ok (.iconst 0, 1) := by decide +kernel
theorem dX11_begins_25 : decode cX11_begins 25 = .ok (.iastore, 1) := by decide +kernel
theorem dX11_begins_26 : decode cX11_begins 26 = .ok (.iinc 2 1, 3) := by decide +kernel
theorem dX11_begins_29 : decode cX11_begins 29 = .ok (.goto (-17), 3) := by decide +kernel
theorem dX11_begins_32 : decode cX11_begins 32 = .ok (.iload_n 1, 1) := by decide +kernel
theorem dX11_begins_33 : decode cX11_begins 33 = .ok (.iconst 1, 1) := by decide +kernel
theorem dX11_begins_34 : decode cX11_begins 34 = .ok (.if_icmp .ne 35, 3) := by decide +kernel
theorem dX11_begins_37 : decode cX11_begins 37 = .ok (.aload_n 0, 1) := by decide +kernel
theorem dX11_begins_38 : decode cX11_begins 38 = .ok (.getfield 17, 3) := by decide +kernel
theorem dX11_begins_41 : decode cX11_begins 41 = .ok (.iconst 0, 1) := by decide +kernel
theorem dX11_begins_42 : decode cX11_begins 42 = .ok (.bipush 30, 2) := by decide +kernel
theorem dX11_begins_44 : decode cX11_begins 44 = .ok (.iastore, 1) := by decide +kernel
theorem dX11_begins_45 : decode cX11_begins 45 = .ok (.iconst 1, 1) := by decide +kernel
theorem dX11_begins_46 : decode cX11_begins 46 = .ok (.istore_n 2, 1) := by decide +kernel
theorem dX11_begins_47 : decode cX11_begins 47 = .ok (.iload_n 2, 1) := by decide +kernel
theorem dX11_begins_48 : decode cX11_begins 48 = .ok (.bipush 6, 2) := by decide +kernel
theorem dX11_begins_50 : decode cX11_begins 50 = .ok (.if_icmp .ge 19, 3) := by decide +kernel
theorem dX11_begins_53 : decode cX11_begins 53 = .ok (.aload_n 0, 1) := by decide +kernel
theorem dX11_begins_54 : decode cX11_begins 54 = .ok (.getfield 17, 3) := by decide +kernel
theorem dX11_begins_57 : decode cX11_begins 57 = .ok (.bipush 7, 2) := by decide +kernel
theorem dX11_begins_59 : decode cX11_begins 59 = .ok (.iload_n 2, 1) := by decide +kernel
theorem dX11_begins_60 : decode cX11_begins 60 = .ok (.iadd, 1) := by decide +kernel
theorem dX11_begins_61 : decode cX11_begins 61 = .ok (.iconst 1, 1) := by decide +kernel
theorem dX11_begins_62 : decode cX11_begins 62 = .ok (.iastore, 1) := by decide +kernel
theorem dX11_begins_63 : decode cX11_begins 63 = .ok (.iinc 2 1, 3) := by decide +kernel
theorem dX11_begins_66 : decode cX11_begins 66 = .ok (.goto (-19), 3) := by decide +kernel
theorem dX11_begins_69 : decode cX11_begins 69 = .ok (.aload_n 0, 1) := by decide +kernel
theorem dX11_begins_70 : decode cX11_begins 70 = .ok (.iconst 0, 1) := by decide +kernel
theorem dX11_begins_71 : decode cX11_begins 71 = .ok (.putfield 114, 3) := by decide +kernel
theorem dX11_begins_74 : decode cX11_begins 74 = .ok (.aload_n 0, 1) := by decide +kernel
theorem dX11_begins_75 : decode cX11_begins 75 = .ok (.iconst 1, 1) := by decide +kernel
theorem dX11_begins_76 : decode cX11_begins 76 = .ok (.putfield 117, 3) := by decide +kernel
theorem dX11_begins_79 : decode cX11_begins 79 = .ok (.aload_n 0, 1) := by decide +kernel
theorem dX11_begins_80 : decode cX11_begins 80 = .ok (.iconst 0, 1) := by decide +kernel
theorem dX11_begins_81 : decode cX11_begins 81 = .ok (.putfield 120, 3) := by decide +kernel
theorem dX11_begins_84 : decode cX11_begins 84 = .ok (.aload_n 0, 1) := by decide +kernel
theorem dX11_begins_85 : decode cX11_begins 85 = .ok (.iconst (-1), 1) := by decide +kernel
theorem dX11_begins_86 : decode cX11_begins 86 = .ok (.putfield 123, 3) := by decide +kernel
theorem dX11_begins_89 : decode cX11_begins 89 = .ok (.aload_n 0, 1) := by decide +kernel
theorem dX11_begins_90 : decode cX11_begins 90 = .ok (.invokevirtual 87, 3) := by decide +kernel
theorem dX11_begins_93 : decode cX11_begins 93 = .ok (.return_, 1) := by decide +kernel
theorem dX11_text_0 : decode cX11_text 0 = .ok (.aload_n 0, 1) := by decide +kernel
theorem dX11_text_1 : decode cX11_text 1 = .ok (.aload_n 0, 1) := by decide +kernel
theorem dX11_text_2 : decode cX11_text 2 = .ok (.getfield 7, 3) := by decide +kernel
theorem dX11_text_5 : decode cX11_text 5 = .ok (.iconst 4, 1) := by decide +kernel
theorem dX11_text_6 : decode cX11_text 6 = .ok (.iaload, 1) := by decide +kernel
theorem dX11_text_7 : decode cX11_text 7 = .ok (.putfield 43, 3) := by decide +kernel
theorem dX11_text_10 : decode cX11_text 10 = .ok (.aload_n 0, 1) := by decide +kernel
theorem dX11_text_11 : decode cX11_text 11 = .ok (.getfield 7, 3) := by decide +kernel
theorem dX11_text_14 : decode cX11_text 14 = .ok (.iconst 4, 1) := by decide +kernel
theorem dX11_text_15 : decode cX11_text 15 = .ok (.iconst 0, 1) := by decide +kernel
theorem dX11_text_16 : decode cX11_text 16 = .ok (.iastore, 1) := by decide +kernel
theorem dX11_text_17 : decode cX11_text 17 = .ok (.aload_n 0, 1) := by decide +kernel
theorem dX11_text_18 : decode cX11_text 18 = .ok (.getfield 7, 3) := by decide +kernel
theorem dX11_text_21 : decode cX11_text 21 = .ok (.iconst 5, 1) := by decide +kernel
theorem dX11_text_22 : decode cX11_text 22 = .ok (.iconst 0, 1) := by decide +kernel
theorem dX11_text_23 : decode cX11_text 23 = .ok (.iastore, 1) := by decide +kernel
theorem dX11_text_24 : decode cX11_text 24 = .ok (.aload_n 0, 1) := by decide +kernel
theorem dX11_text_25 : decode cX11_text 25 = .ok (.getfield 7, 3) := by decide +kernel
theorem dX11_text_28 : decode cX11_text 28 = .ok (.bipush 6, 2) := by decide +kernel
theorem dX11_text_30 : decode cX11_text 30 = .ok (.iconst (-1), 1) := by decide +kernel
theorem dX11_text_31 : decode cX11_text 31 = .ok (.iastore, 1) := by decide +kernel
theorem dX11_text_32 : decode cX11_text 32 = .ok (.iload_n 1, 1) := by decide +kernel
theorem dX11_text_33 : decode cX11_text 33 = .ok (.iconst 0, 1) := by decide +kernel
theorem dX11_text_34 : decode cX11_text 34 = .ok (.iconst 2, 1) := by decide +kernel
theorem dX11_text_35 : decode cX11_text 35 = .ok (.invokestatic 90, 3) := by decide +kernel
theorem dX11_text_38 : decode cX11_text 38 = .ok (.ifCond .eq 30, 3) := by decide +kernel
theorem dX11_text_41 : decode cX11_text 41 = .ok (.iload_n 2, 1) := by decide +kernel
theorem dX11_text_42 : decode cX11_text 42 = .ok (.iconst (-1), 1) := by decide +kernel
theorem dX11_text_43 : decode cX11_text 43 = .ok (.if_icmp .ne 16, 3) := by decide +kernel
theorem dX11_text_46 : decode cX11_text 46 = .ok (.aload_n 0, 1) := by decide +kernel
theorem dX11_text_47 : decode cX11_text 47 = .ok (.getfield 7, 3) := by decide +kernel
theorem dX11_text_50 : decode cX11_text 50 = .ok (.iload_n 1, 1) := by decide +kernel
theorem dX11_text_51 : decode cX11_text 51 = .ok (.iaload, 1) := by decide +kernel
theorem dX11_text_52 : decode cX11_text 52 = .ok (.iconst 3, 1) := by decide +kernel
theorem dX11_text_53 : decode cX11_text 53 = .ok (.if_icmp .lt 18, 3) := by decide +kernel
theorem dX11_text_56 : decode cX11_text 56 = .ok (.goto 12, 3) := by decide +kernel
theorem dX11_text_59 : decode cX11_text 59 = .ok (.aload_n 0, 1) := by decide +kernel
theorem dX11_text_60 : decode cX11_text 60 = .ok (.iload_n 1, 1) := by decide +kernel
theorem dX11_text_61 : decode cX11_text 61 = .ok (.iload_n 2, 1) := by decide +kernel
theorem dX11_text_62 : decode cX11_text 62 = .ok (.invokevirtual 130, 3) := by decide +kernel
theorem dX11_text_65 : decode cX11_text 65 = .ok (.ifCond .ne 6, 3) := by decide +kernel
theorem dX11_text_68 : decode cX11_text 68 = .ok (.bipush (-2), 2) := by decide +kernel
theorem dX11_text_70 : decode cX11_text 70 = .ok (.ireturn, 1) := by decide +kernel
theorem dX11_text_71 : decode cX11_text 71 = .ok (.aload_n 0, 1) := by decide +kernel
theorem dX11_text_72 : decode cX11_text 72 = .ok (.iload_n 1, 1) := by decide +kernel
theorem dX11_text_73 : decode cX11_text 73 = .ok (.invokevirtual 134, 3) := by decide +kernel
theorem dX11_text_76 : decode cX11_text 76 = .ok (.aload_n 0, 1) := by decide +kernel
theorem dX11_text_77 : decode cX11_text 77 = .ok (.getfield 80, 3) := by decide +kernel
theorem dX11_text_80 : decode cX11_text 80 = .ok (.ifCond .ne 40, 3) := by decide +kernel
theorem dX11_text_83 : decode cX11_text 83 = .ok (.aload_n 0, 1) := by decide +kernel
theorem dX11_text_84 : decode cX11_text 84 = .ok (.getfield 61, 3) := by decide +kernel
theorem dX11_text_87 : decode cX11_text 87 = .ok (.ifCond .eq 33, 3) := by decide +kernel
theorem dX11_text_90 : decode cX11_text 90 = .ok (.iload_n 1, 1) := by decide +kernel
theorem dX11_text_91 : decode cX11_text 91 = .ok (.ifCond .ne 10, 3) := by decide +kernel
theorem dX11_text_94 : decode cX11_text 94 = .ok (.aload_n 0, 1) := by decide +kernel
theorem dX11_text_95 : decode cX11_text 95 = .ok (.invokevirtual 138, 3) := by decide +kernel
theorem dX11_text_98 : decode cX11_text 98 = .ok (.goto (-22), 3) := by decide +kernel
theorem dX11_text_101 : decode cX11_text 101 = .ok (.iload_n 1, 1) := by decide +kernel
theorem dX11_text_102 : decode cX11_text 102 = .ok (.iconst 1, 1) := by decide +kernel
theorem dX11_text_103 : decode cX11_text 103 = .ok (.if_icmp .ne 10, 3) := by decide +kernel
theorem dX11_text_106 : decode cX11_text 106 = .ok (.aload_n 0, 1) := by decide +kernel
theorem dX11_text_107 : decode cX11_text 107 = .ok (.invokevirtual 141, 3) := by decide +kernel
theorem dX11_text_110 : decode cX11_text 110 = .ok (.goto (-34), 3) := by decide +kernel
theorem dX11_text_113 : decode cX11_text 113 = .ok (.aload_n 0, 1) := by decide +kernel
theorem dX11_text_114 : decode cX11_text 114 = .ok (.invokevirtual 144, 3) := by decide +kernel
theorem dX11_text_117 : decode cX11_text 117 = .ok (.goto (-41), 3) := by decide +kernel
theorem dX11_text_120 : decode cX11_text 120 = .ok (.aload_n 0, 1) := by decide +kernel
theorem dX11_text_121 : decode cX11_text 121 = .ok (.getfield 7, 3) := by decide +kernel
theorem dX11_text_124 : decode cX11_text 124 = .ok (.iconst 5, 1) := by decide +kernel
theorem dX11_text_125 : decode cX11_text 125 = .ok (.iaload, 1) := by decide +kernel
theorem dX11_text_126 : decode cX11_text 126 = .ok (.ifCond .eq 5, 3) := by decide +kernel
theorem dX11_text_129 : decode cX11_text 129 = .ok (.iconst (-1), 1) := by decide +kernel
theorem dX11_text_130 : decode cX11_text 130 = .ok (.ireturn, 1) := by decide +kernel
theorem dX11_text_131 : decode cX11_text 131 = .ok (.iload_n 2, 1) := by decide +kernel
theorem dX11_text_132 : decode cX11_text 132 = .ok (.iconst (-1), 1) := by decide +kernel
theorem dX11_text_133 : decode cX11_text 133 = .ok (.if_icmp .ne 12, 3) := by decide +kernel
theorem dX11_text_136 : decode cX11_text 136 = .ok (.aload_n 0, 1) := by decide +kernel
theorem dX11_text_137 : decode cX11_text 137 = .ok (.getfield 7, 3) := by decide +kernel
theorem dX11_text_140 : decode cX11_text 140 = .ok (.iload_n 1, 1) := by decide +kernel
theorem dX11_text_141 : decode cX11_text 141 = .ok (.iaload, 1) := by decide +kernel
theorem dX11_text_142 : decode cX11_text 142 = .ok (.goto 4, 3) := by decide +kernel
theorem dX11_text_145 : decode cX11_text 145 = .ok (.iload_n 2, 1) := by decide +kernel
theorem dX11_text_146 : decode cX11_text 146 = .ok (.istore_n 3, 1) := by decide +kernel
theorem dX11_text_147 : decode cX11_text 147 = .ok (.iload_n 2, 1) := by decide +kernel
theorem dX11_text_148 : decode cX11_text 148 = .ok (.iconst (-1), 1) := by decide +kernel
theorem dX11_text_149 : decode cX11_text 149 = .ok (.if_icmp .ne 13, 3) := by decide +kernel
theorem dX11_text_152 : decode cX11_text 152 = .ok (.aload_n 0, 1) := by decide +kernel
theorem dX11_text_153 : decode cX11_text 153 = .ok (.getfield 7, 3) := by decide +kernel
theorem dX11_text_156 : decode cX11_text 156 = .ok (.iload_n 1, 1) := by decide +kernel
theorem dX11_text_157 : decode cX11_text 157 = .ok (.dup2, 1) := by decide +kernel
theorem dX11_text_158 : decode cX11_text 158 = .ok (.iaload, 1) := by decide +kernel
theorem dX11_text_159 : decode cX11_text 159 = .ok (.iconst 1, 1) := by decide +kernel
theorem dX11_text_160 : decode cX11_text 160 = .ok (.iadd, 1) := by decide +kernel
theorem dX11_text_161 : decode cX11_text 161 = .ok (.iastore, 1) := by decide +kernel
theorem dX11_text_162 : decode cX11_text 162 = .ok (.iconst 0, 1) := by decide +kernel
theorem dX11_text_163 : decode cX11_text 163 = .ok (.istore 4, 2) := by decide +kernel
theorem dX11_text_165 : decode cX11_text 165 = .ok (.iload 4, 2) := by decide +kernel
theorem dX11_text_167 : decode cX11_text 167 = .ok (.iload_n 1, 1) := by decide +kernel
theorem dX11_text_168 : decode cX11_text 168 = .ok (.invokestatic 147, 3) := by decide +kernel
theorem dX11_text_171 : decode cX11_text 171 = .ok (.if_icmp .ge 29, 3) := by decide +kernel
theorem dX11_text_174 : decode cX11_text 174 = .ok (.aload_n 0, 1) := by decide +kernel
theorem dX11_text_175 : decode cX11_text 175 = .ok (.getfield 7, 3) := by decide +kernel
theorem dX11_text_178 : decode cX11_text 178 = .ok (.iload_n 1, 1) := by decide +kernel
theorem dX11_text_179 : decode cX11_text 179 = .ok (.iload_n 3, 1) := by decide +kernel
theorem dX11_text_180 : decode cX11_text 180 = .ok (.invokestatic 150, 3) := by decide +kernel
theorem dX11_text_183 : decode cX11_text 183 = .ok (.iload 4, 2) := by decide +kernel
theorem dX11_text_185 : decode cX11_text 185 = .ok (.iadd, 1) := by decide +kernel
theorem dX11_text_186 : decode cX11_text 186 = .ok (.aload_n 0, 1) := by decide +kernel
theorem dX11_text_187 : decode cX11_text 187 = .ok (.getfield 17, 3) := by decide +kernel
theorem dX11_text_190 : decode cX11_text 190 = .ok (.iload 4, 2) := by decide +kernel
theorem dX11_text_192 : decode cX11_text 192 = .ok (.iaload, 1) := by decide +kernel
theorem dX11_text_193 : decode cX11_text 193 = .ok (.iastore, 1) := by decide +kernel
theorem dX11_text_194 : decode cX11_text 194 = .ok (.iinc 4 1, 3) := by decide +kernel
theorem dX11_text_197 : decode cX11_text 197 = .ok (.goto (-32), 3) := by decide +kernel
theorem dX11_text_200 : decode cX11_text 200 = .ok (.iload_n 3, 1) := by decide +kernel
theorem dX11_text_201 : decode cX11_text 201 = .ok (.ireturn, 1) := by decide +kernel
theorem dX11_fault_0 : decode cX11_fault 0 = .ok (.iload_n 1, 1) := by decide +kernel
theorem dX11_fault_1 : decode cX11_fault 1 = .ok (.ifCond .ne 12, 3) := by decide +kernel
theorem dX11_fault_4 : decode cX11_fault 4 = .ok (.aload_n 0, 1) := by decide +kernel
theorem dX11_fault_5 : decode cX11_fault 5 = .ok (.getfield 7, 3) := by decide +kernel
theorem dX11_fault_8 : decode cX11_fault 8 = .ok (.iconst 5, 1) := by decide +kernel
theorem dX11_fault_9 : decode cX11_fault 9 = .ok (.iaload, 1) := by decide +kernel
theorem dX11_fault_10 : decode cX11_fault 10 = .ok (.goto 19, 3) := by decide +kernel
theorem dX11_fault_13 : decode cX11_fault 13 = .ok (.iload_n 1, 1) := by decide +kernel
theorem dX11_fault_14 : decode cX11_fault 14 = .ok (.iconst 1, 1) := by decide +kernel
theorem dX11_fault_15 : decode cX11_fault 15 = .ok (.if_icmp .ne 13, 3) := by decide +kernel
theorem dX11_fault_18 : decode cX11_fault 18 = .ok (.aload_n 0, 1) := by decide +kernel
theorem dX11_fault_19 : decode cX11_fault 19 = .ok (.getfield 7, 3) := by decide +kernel
theorem dX11_fault_22 : decode cX11_fault 22 = .ok (.bipush 6, 2) := by decide +kernel
theorem dX11_fault_24 : decode cX11_fault 24 = .ok (.iaload, 1) := by decide +kernel
theorem dX11_fault_25 : decode cX11_fault 25 = .ok (.goto 4, 3) := by decide +kernel
theorem dX11_fault_28 : decode cX11_fault 28 = .ok (.iconst (-1), 1) := by decide +kernel
theorem dX11_fault_29 : decode cX11_fault 29 = .ok (.ireturn, 1) := by decide +kernel
theorem dX11_league_0 : decode cX11_league 0 = .ok (.aload_n 0, 1) := by decide +kernel
theorem dX11_league_1 : decode cX11_league 1 = .ok (.iconst 0, 1) := by decide +kernel
theorem dX11_league_2 : decode cX11_league 2 = .ok (.iload_n 1, 1) := by decide +kernel
theorem dX11_league_3 : decode cX11_league 3 = .ok (.invokevirtual 130, 3) := by decide +kernel
theorem dX11_league_6 : decode cX11_league 6 = .ok (.ifCond .ne 5, 3) := by decide +kernel
theorem dX11_league_9 : decode cX11_league 9 = .ok (.iconst (-1), 1) := by decide +kernel
theorem dX11_league_10 : decode cX11_league 10 = .ok (.ireturn, 1) := by decide +kernel
theorem dX11_league_11 : decode cX11_league 11 = .ok (.iconst 0, 1) := by decide +kernel
theorem dX11_league_12 : decode cX11_league 12 = .ok (.iload_n 1, 1) := by decide +kernel
theorem dX11_league_13 : decode cX11_league 13 = .ok (.invokestatic 150, 3) := by decide +kernel
theorem dX11_league_16 : decode cX11_league 16 = .ok (.istore_n 3, 1) := by decide +kernel
theorem dX11_league_17 : decode cX11_league 17 = .ok (.iload_n 2, 1) := by decide +kernel
theorem dX11_league_18 : decode cX11_league 18 = .ok (.iconst 0, 1) := by decide +kernel
theorem dX11_league_19 : decode cX11_league 19 = .ok (.iconst 1, 1) := by decide +kernel
theorem dX11_league_20 : decode cX11_league 20 = .ok (.invokestatic 90, 3) := by decide +kernel
theorem dX11_league_23 : decode cX11_league 23 = .ok (.ifCond .eq 12, 3) := by decide +kernel
theorem dX11_league_26 : decode cX11_league 26 = .ok (.aload_n 0, 1) := by decide +kernel
theorem dX11_league_27 : decode cX11_league 27 = .ok (.getfield 7, 3) := by decide +kernel
theorem dX11_league_30 : decode cX11_league 30 = .ok (.iload_n 3, 1) := by decide +kernel
theorem dX11_league_31 : decode cX11_league 31 = .ok (.iload_n 2, 1) := by decide +kernel
theorem dX11_league_32 : decode cX11_league 32 = .ok (.iadd, 1) := by decide +kernel
theorem dX11_league_33 : decode cX11_league 33 = .ok (.iaload, 1) := by decide +kernel
theorem dX11_league_34 : decode cX11_league 34 = .ok (.ireturn, 1) := by decide +kernel
theorem dX11_league_35 : decode cX11_league 35 = .ok (.iload_n 2, 1) := by decide +kernel
theorem dX11_league_36 : decode cX11_league 36 = .ok (.bipush 10, 2) := by decide +kernel
theorem dX11_league_38 : decode cX11_league 38 = .ok (.irem, 1) := by decide +kernel
theorem dX11_league_39 : decode cX11_league 39 = .ok (.istore 4, 2) := by decide +kernel
theorem dX11_league_41 : decode cX11_league 41 = .ok (.iload_n 2, 1) := by decide +kernel
theorem dX11_league_42 : decode cX11_league 42 = .ok (.bipush 10, 2) := by decide +kernel
theorem dX11_league_44 : decode cX11_league 44 = .ok (.bipush 39, 2) := by decide +kernel
theorem dX11_league_46 : decode cX11_league 46 = .ok (.invokestatic 90, 3) := by decide +kernel
theorem dX11_league_49 : decode cX11_league 49 = .ok (.ifCond .eq 52, 3) := by decide +kernel
theorem dX11_league_52 : decode cX11_league 52 = .ok (.iload 4, 2) := by decide +kernel
theorem dX11_league_54 : decode cX11_league 54 = .ok (.aload_n 0, 1) := by decide +kernel
theorem dX11_league_55 : decode cX11_league 55 = .ok (.getfield 7, 3) := by decide +kernel
theorem dX11_league_58 : decode cX11_league 58 = .ok (.iload_n 3, 1) := by decide +kernel
theorem dX11_league_59 : decode cX11_league 59 = .ok (.iaload, 1) := by decide +kernel
theorem dX11_league_60 : decode cX11_league 60 = .ok (.if_icmp .lt 7, 3) := by decide +kernel
theorem dX11_league_63 : decode cX11_league 63 = .ok (.iconst (-1), 1) := by decide +kernel
theorem dX11_league_64 : decode cX11_league 64 = .ok (.goto 36, 3) := by decide +kernel
theorem dX11_league_67 : decode cX11_league 67 = .ok (.aload_n 0, 1) := by decide +kernel
theorem dX11_league_68 : decode cX11_league 68 = .ok (.getfield 7, 3) := by decide +kernel
theorem dX11_league_71 : decode cX11_league 71 = .ok (.iload_n 3, 1) := by decide +kernel
theorem dX11_league_72 : decode cX11_league 72 = .ok (.iload_n 2, 1) := by decide +kernel
theorem dX11_league_73 : decode cX11_league 73 = .ok (.bipush 20, 2) := by decide +kernel
theorem dX11_league_75 : decode cX11_league 75 = .ok (.if_icmp .ge 7, 3) := by decide +kernel
theorem dX11_league_78 : decode cX11_league 78 = .ok (.iconst 2, 1) := by decide +kernel
theorem dX11_league_79 : decode cX11_league 79 = .ok (.goto 16, 3) := by decide +kernel
theorem dX11_league_82 : decode cX11_league 82 = .ok (.iload_n 2, 1) := by decide +kernel
theorem dX11_league_83 : decode cX11_league 83 = .ok (.bipush 30, 2) := by decide +kernel
theorem dX11_league_85 : decode cX11_league 85 = .ok (.if_icmp .ge 8, 3) := by decide +kernel
theorem dX11_league_88 : decode cX11_league 88 = .ok (.bipush 12, 2) := by decide +kernel
theorem dX11_league_90 : decode cX11_league 90 = .ok (.goto 5, 3) := by decide +kernel
theorem dX11_league_93 : decode cX11_league 93 = .ok (.bipush 22, 2) := by decide +kernel
theorem dX11_league_95 : decode cX11_league 95 = .ok (.iadd, 1) := by decide +kernel
theorem dX11_league_96 : decode cX11_league 96 = .ok (.iload 4, 2) := by decide +kernel
theorem dX11_league_98 : decode cX11_league 98 = .ok (.iadd, 1) := by decide +kernel
theorem dX11_league_99 : decode cX11_league 99 = .ok (.iaload, 1) := by decide +kernel
theorem dX11_league_100 : decode cX11_league 100 = .ok (.ireturn, 1) := by decide +kernel
theorem dX11_league_101 : decode cX11_league 101 = .ok (.iload_n 2, 1) := by decide +kernel
theorem dX11_league_102 : decode cX11_league 102 = .ok (.bipush 40, 2) := by decide +kernel
theorem dX11_league_104 : decode cX11_league 104 = .ok (.bipush 59, 2) := by decide +kernel
theorem dX11_league_106 : decode cX11_league 106 = .ok (.invokestatic 90, 3) := by decide +kernel
theorem dX11_league_109 : decode cX11_league 109 = .ok (.ifCond .eq 42, 3) := by decide +kernel
theorem dX11_league_112 : decode cX11_league 112 = .ok (.iload 4, 2) := by decide +kernel
theorem dX11_league_114 : decode cX11_league 114 = .ok (.aload_n 0, 1) := by decide +kernel
theorem dX11_league_115 : decode cX11_league 115 = .ok (.getfield 7, 3) := by decide +kernel
theorem dX11_league_118 : decode cX11_league 118 = .ok (.iload_n 3, 1) := by decide +kernel
theorem dX11_league_119 : decode cX11_league 119 = .ok (.iconst 1, 1) := by decide +kernel
theorem dX11_league_120 : decode cX11_league 120 = .ok (.iadd, 1) := by decide +kernel
theorem dX11_league_121 : decode cX11_league 121 = .ok (.iaload, 1) := by decide +kernel
theorem dX11_league_122 : decode cX11_league 122 = .ok (.if_icmp .ge 29, 3) := by decide +kernel
theorem dX11_league_125 : decode cX11_league 125 = .ok (.aload_n 0, 1) := by decide +kernel
theorem dX11_league_126 : decode cX11_league 126 = .ok (.getfield 7, 3) := by decide +kernel
theorem dX11_league_129 : decode cX11_league 129 = .ok (.iload_n 3, 1) := by decide +kernel
theorem dX11_league_130 : decode cX11_league 130 = .ok (.iload_n 2, 1) := by decide +kernel
theorem dX11_league_131 : decode cX11_league 131 = .ok (.bipush 50, 2) := by decide +kernel
theorem dX11_league_133 : decode cX11_league 133 = .ok (.if_icmp .ge 8, 3) := by decide +kernel
theorem dX11_league_136 : decode cX11_league 136 = .ok (.bipush 32, 2) := by decide +kernel
theorem dX11_league_138 : decode cX11_league 138 = .ok (.goto 5, 3) := by decide +kernel
theorem dX11_league_141 : decode cX11_league 141 = .ok (.bipush 40, 2) := by decide +kernel
theorem dX11_league_143 : decode cX11_league 143 = .ok (.iadd, 1) := by decide +kernel
theorem dX11_league_144 : decode cX11_league 144 = .ok (.iload 4, 2) := by decide +kernel
theorem dX11_league_146 : decode cX11_league 146 = .ok (.iadd, 1) := by decide +kernel
theorem dX11_league_147 : decode cX11_league 147 = .ok (.iaload, 1) := by decide +kernel
theorem dX11_league_148 : decode cX11_league 148 = .ok (.goto 4, 3) := by decide +kernel
theorem dX11_league_151 : decode cX11_league 151 = .ok (.iconst (-1), 1) := by decide +kernel
theorem dX11_league_152 : decode cX11_league 152 = .ok (.ireturn, 1) := by decide +kernel
theorem dX11_miles_0 : decode cX11_miles 0 = .ok (.aload_n 0, 1) := by decide +kernel
theorem dX11_miles_1 : decode cX11_miles 1 = .ok (.iconst 0, 1) := by decide +kernel
theorem dX11_miles_2 : decode cX11_miles 2 = .ok (.iload_n 1, 1) := by decide +kernel
theorem dX11_miles_3 : decode cX11_miles 3 = .ok (.invokevirtual 130, 3) := by decide +kernel
theorem dX11_miles_6 : decode cX11_miles 6 = .ok (.ifCond .ne 5, 3) := by decide +kernel
theorem dX11_miles_9 : decode cX11_miles 9 = .ok (.iconst (-1), 1) := by decide +kernel
theorem dX11_miles_10 : decode cX11_miles 10 = .ok (.ireturn, 1) := by decide +kernel
theorem dX11_miles_11 : decode cX11_miles 11 = .ok (.iconst 0, 1) := by decide +kernel
theorem dX11_miles_12 : decode cX11_miles 12 = .ok (.iload_n 1, 1) := by decide +kernel
theorem dX11_miles_13 : decode cX11_miles 13 = .ok (.invokestatic 150, 3) := by decide +kernel
theorem dX11_miles_16 : decode cX11_miles 16 = .ok (.istore 4, 2) := by decide +kernel
theorem dX11_miles_18 : decode cX11_miles 18 = .ok (.iload_n 2, 1) := by decide +kernel
theorem dX11_miles_19 : decode cX11_miles 19 = .ok (.iconst 0, 1) := by decide +kernel
theorem dX11_miles_20 : decode cX11_miles 20 = .ok (.aload_n 0, 1) := by decide +kernel
theorem dX11_miles_21 : decode cX11_miles 21 = .ok (.getfield 7, 3) := by decide +kernel
theorem dX11_miles_24 : decode cX11_miles 24 = .ok (.iload 4, 2) := by decide +kernel
theorem dX11_miles_26 : decode cX11_miles 26 = .ok (.iaload, 1) := by decide +kernel
theorem dX11_miles_27 : decode cX11_miles 27 = .ok (.iconst 1, 1) := by decide +kernel
theorem dX11_miles_28 : decode cX11_miles 28 = .ok (.isub, 1) := by decide +kernel
theorem dX11_miles_29 : decode cX11_miles 29 = .ok (.invokestatic 90, 3) := by decide +kernel
theorem dX11_miles_32 : decode cX11_miles 32 = .ok (.ifCond .eq 40, 3) := by decide +kernel
theorem dX11_miles_35 : decode cX11_miles 35 = .ok (.iload_n 3, 1) := by decide +kernel
theorem dX11_miles_36 : decode cX11_miles 36 = .ok (.iconst 0, 1) := by decide +kernel
theorem dX11_miles_37 : decode cX11_miles 37 = .ok (.aload_n 0, 1) := by decide +kernel
theorem dX11_miles_38 : decode cX11_miles 38 = .ok (.getfield 7, 3) := by decide +kernel
theorem dX11_miles_41 : decode cX11_miles 41 = .ok (.iload 4, 2) := by decide +kernel
theorem dX11_miles_43 : decode cX11_miles 43 = .ok (.iaload, 1) := by decide +kernel
theorem dX11_miles_44 : decode cX11_miles 44 = .ok (.iconst 1, 1) := by decide +kernel
theorem dX11_miles_45 : decode cX11_miles 45 = .ok (.isub, 1) := by decide +kernel
theorem dX11_miles_46 : decode cX11_miles 46 = .ok (.invokestatic 90, 3) := by decide +kernel
theorem dX11_miles_49 : decode cX11_miles 49 = .ok (.ifCond .eq 23, 3) := by decide +kernel
theorem dX11_miles_52 : decode cX11_miles 52 = .ok (.aload_n 0, 1) := by decide +kernel
theorem dX11_miles_53 : decode cX11_miles 53 = .ok (.getfield 7, 3) := by decide +kernel
theorem dX11_miles_56 : decode cX11_miles 56 = .ok (.iload 4, 2) := by decide +kernel
theorem dX11_miles_58 : decode cX11_miles 58 = .ok (.bipush 50, 2) := by decide +kernel
theorem dX11_miles_60 : decode cX11_miles 60 = .ok (.iadd, 1) := by decide +kernel
theorem dX11_miles_61 : decode cX11_miles 61 = .ok (.bipush 10, 2) := by decide +kernel
theorem dX11_miles_63 : decode cX11_miles 63 = .ok (.iload_n 2, 1) := by decide +kernel
theorem dX11_miles_64 : decode cX11_miles 64 = .ok (.imul, 1) := by decide +kernel
theorem dX11_miles_65 : decode cX11_miles 65 = .ok (.iadd, 1) := by decide +kernel
theorem dX11_miles_66 : decode cX11_miles 66 = .ok (.iload_n 3, 1) := by decide +kernel
theorem dX11_miles_67 : decode cX11_miles 67 = .ok (.iadd, 1) := by decide +kernel
theorem dX11_miles_68 : decode cX11_miles 68 = .ok (.iaload, 1) := by decide +kernel
theorem dX11_miles_69 : decode cX11_miles 69 = .ok (.goto 4, 3) := by decide +kernel
theorem dX11_miles_72 : decode cX11_miles 72 = .ok (.iconst (-1), 1) := by decide +kernel
theorem dX11_miles_73 : decode cX11_miles 73 = .ok (.ireturn, 1) := by decide +kernel
theorem dX11_law_0 : decode cX11_law 0 = .ok (.aload_n 0, 1) := by decide +kernel
theorem dX11_law_1 : decode cX11_law 1 = .ok (.iconst 1, 1) := by decide +kernel
theorem dX11_law_2 : decode cX11_law 2 = .ok (.iload_n 1, 1) := by decide +kernel
theorem dX11_law_3 : decode cX11_law 3 = .ok (.invokevirtual 130, 3) := by decide +kernel
theorem dX11_law_6 : decode cX11_law 6 = .ok (.ifCond .ne 5, 3) := by decide +kernel
theorem dX11_law_9 : decode cX11_law 9 = .ok (.iconst (-1), 1) := by decide +kernel
theorem dX11_law_10 : decode cX11_law 10 = .ok (.ireturn, 1) := by decide +kernel
theorem dX11_law_11 : decode cX11_law 11 = .ok (.iload_n 2, 1) := by decide +kernel
theorem dX11_law_12 : decode cX11_law 12 = .ok (.ifCond .ne 14, 3) := by decide +kernel
theorem dX11_law_15 : decode cX11_law 15 = .ok (.aload_n 0, 1) := by decide +kernel
theorem dX11_law_16 : decode cX11_law 16 = .ok (.getfield 7, 3) := by decide +kernel
theorem dX11_law_19 : decode cX11_law 19 = .ok (.iconst 1, 1) := by decide +kernel
theorem dX11_law_20 : decode cX11_law 20 = .ok (.iload_n 1, 1) := by decide +kernel
theorem dX11_law_21 : decode cX11_law 21 = .ok (.invokestatic 150, 3) := by decide +kernel
theorem dX11_law_24 : decode cX11_law 24 = .ok (.iaload, 1) := by decide +kernel
theorem dX11_law_25 : decode cX11_law 25 = .ok (.ireturn, 1) := by decide +kernel
theorem dX11_law_26 : decode cX11_law 26 = .ok (.iload_n 2, 1) := by decide +kernel
theorem dX11_law_27 : decode cX11_law 27 = .ok (.bipush 10, 2) := by decide +kernel
theorem dX11_law_29 : decode cX11_law 29 = .ok (.bipush 15, 2) := by decide +kernel
theorem dX11_law_31 : decode cX11_law 31 = .ok (.invokestatic 90, 3) := by decide +kernel
theorem dX11_law_34 : decode cX11_law 34 = .ok (.ifCond .eq 21, 3) := by decide +kernel
theorem dX11_law_37 : decode cX11_law 37 = .ok (.aload_n 0, 1) := by decide +kernel
theorem dX11_law_38 : decode cX11_law 38 = .ok (.getfield 7, 3) := by decide +kernel
theorem dX11_law_41 : decode cX11_law 41 = .ok (.iconst 1, 1) := by decide +kernel
theorem dX11_law_42 : decode cX11_law 42 = .ok (.iload_n 1, 1) := by decide +kernel
theorem dX11_law_43 : decode cX11_law 43 = .ok (.invokestatic 150, 3) := by decide +kernel
theorem dX11_law_46 : decode cX11_law 46 = .ok (.iconst 1, 1) := by decide +kernel
theorem dX11_law_47 : decode cX11_law 47 = .ok (.iadd, 1) := by decide +kernel
theorem dX11_law_48 : decode cX11_law 48 = .ok (.iload_n 2, 1) := by decide +kernel
theorem dX11_law_49 : decode cX11_law 49 = .ok (.iadd, 1) := by decide +kernel
theorem dX11_law_50 : decode cX11_law 50 = .ok (.bipush 10, 2) := by decide +kernel
theorem dX11_law_52 : decode cX11_law 52 = .ok (.isub, 1) := by decide +kernel
theorem dX11_law_53 : decode cX11_law 53 = .ok (.iaload, 1) := by decide +kernel
theorem dX11_law_54 : decode cX11_law 54 = .ok (.ireturn, 1) := by decide +kernel
theorem dX11_law_55 : decode cX11_law 55 = .ok (.iload_n 2, 1) := by decide +kernel
theorem dX11_law_56 : decode cX11_law 56 = .ok (.bipush 21, 2) := by decide +kernel
theorem dX11_law_58 : decode cX11_law 58 = .ok (.bipush 25, 2) := by decide +kernel
theorem dX11_law_60 : decode cX11_law 60 = .ok (.invokestatic 90, 3) := by decide +kernel
theorem dX11_law_63 : decode cX11_law 63 = .ok (.ifCond .eq 24, 3) := by decide +kernel
theorem dX11_law_66 : decode cX11_law 66 = .ok (.aload_n 0, 1) := by decide +kernel
theorem dX11_law_67 : decode cX11_law 67 = .ok (.getfield 7, 3) := by decide +kernel
theorem dX11_law_70 : decode cX11_law 70 = .ok (.iconst 1, 1) := by decide +kernel
theorem dX11_law_71 : decode cX11_law 71 = .ok (.iload_n 1, 1) := by decide +kernel
theorem dX11_law_72 : decode cX11_law 72 = .ok (.invokestatic 150, 3) := by decide +kernel
theorem dX11_law_75 : decode cX11_law 75 = .ok (.bipush 7, 2) := by decide +kernel
theorem dX11_law_77 : decode cX11_law 77 = .ok (.iadd, 1) := by decide +kernel
theorem dX11_law_78 : decode cX11_law 78 = .ok (.iload_n 2, 1) := by decide +kernel
theorem dX11_law_79 : decode cX11_law 79 = .ok (.iadd, 1) := by decide +kernel
theorem dX11_law_80 : decode cX11_law 80 = .ok (.bipush 20, 2) := by decide +kernel
theorem dX11_law_82 : decode cX11_law 82 = .ok (.isub, 1) := by decide +kernel
theorem dX11_law_83 : decode cX11_law 83 = .ok (.iaload, 1) := by decide +kernel
theorem dX11_law_84 : decode cX11_law 84 = .ok (.goto 4, 3) := by decide +kernel
theorem dX11_law_87 : decode cX11_law 87 = .ok (.iconst (-1), 1) := by decide +kernel
theorem dX11_law_88 : decode cX11_law 88 = .ok (.ireturn, 1) := by decide +kernel
theorem dX11_gamesOf_0 : decode cX11_gamesOf 0 = .ok (.aload_n 0, 1) := by decide +kernel
theorem dX11_gamesOf_1 : decode cX11_gamesOf 1 = .ok (.getfield 7, 3) := by decide +kernel
theorem dX11_gamesOf_4 : decode cX11_gamesOf 4 = .ok (.iconst 2, 1) := by decide +kernel
theorem dX11_gamesOf_5 : decode cX11_gamesOf 5 = .ok (.iload_n 1, 1) := by decide +kernel
theorem dX11_gamesOf_6 : decode cX11_gamesOf 6 = .ok (.invokestatic 150, 3) := by decide +kernel
theorem dX11_gamesOf_9 : decode cX11_gamesOf 9 = .ok (.iaload, 1) := by decide +kernel
theorem dX11_gamesOf_10 : decode cX11_gamesOf 10 = .ok (.ireturn, 1) := by decide +kernel
theorem dX11_gameOf_0 : decode cX11_gameOf 0 = .ok (.aload_n 0, 1) := by decide +kernel
theorem dX11_gameOf_1 : decode cX11_gameOf 1 = .ok (.getfield 7, 3) := by decide +kernel
theorem dX11_gameOf_4 : decode cX11_gameOf 4 = .ok (.iconst 2, 1) := by decide +kernel
theorem dX11_gameOf_5 : decode cX11_gameOf 5 = .ok (.iload_n 1, 1) := by decide +kernel
theorem dX11_gameOf_6 : decode cX11_gameOf 6 = .ok (.invokestatic 150, 3) := by decide +kernel
theorem dX11_gameOf_9 : decode cX11_gameOf 9 = .ok (.iconst 1, 1) := by decide +kernel
theorem dX11_gameOf_10 : decode cX11_gameOf 10 = .ok (.iadd, 1) := by decide +kernel
theorem dX11_gameOf_11 : decode cX11_gameOf 11 = .ok (.bipush 6, 2) := by decide +kernel
theorem dX11_gameOf_13 : decode cX11_gameOf 13 = .ok (.iload_n 2, 1) := by decide +kernel
theorem dX11_gameOf_14 : decode cX11_gameOf 14 = .ok (.imul, 1) := by decide +kernel
theorem dX11_gameOf_15 : decode cX11_gameOf 15 = .ok (.iadd, 1) := by decide +kernel
theorem dX11_gameOf_16 : decode cX11_gameOf 16 = .ok (.iload_n 3, 1) := by decide +kernel
theorem dX11_gameOf_17 : decode cX11_gameOf 17 = .ok (.iadd, 1) := by decide +kernel
theorem dX11_gameOf_18 : decode cX11_gameOf 18 = .ok (.iaload, 1) := by decide +kernel
theorem dX11_gameOf_19 : decode cX11_gameOf 19 = .ok (.ireturn, 1) := by decide +kernel
theorem dX11_plan_0 : decode cX11_plan 0 = .ok (.aload_n 0, 1) := by decide +kernel
theorem dX11_plan_1 : decode cX11_plan 1 = .ok (.iconst 2, 1) := by decide +kernel
theorem dX11_plan_2 : decode cX11_plan 2 = .ok (.iload_n 1, 1) := by decide +kernel
theorem dX11_plan_3 : decode cX11_plan 3 = .ok (.invokevirtual 130, 3) := by decide +kernel
theorem dX11_plan_6 : decode cX11_plan 6 = .ok (.ifCond .ne 6, 3) := by decide +kernel
theorem dX11_plan_9 : decode cX11_plan 9 = .ok (.bipush (-2), 2) := by decide +kernel
theorem dX11_plan_11 : decode cX11_plan 11 = .ok (.ireturn, 1) := by decide +kernel
theorem dX11_plan_12 : decode cX11_plan 12 = .ok (.iload_n 2, 1) := by decide +kernel
theorem dX11_plan_13 : decode cX11_plan 13 = .ok (.iconst (-1), 1) := by decide +kernel
theorem dX11_plan_14 : decode cX11_plan 14 = .ok (.if_icmp .ne 18, 3) := by decide +kernel
theorem dX11_plan_17 : decode cX11_plan 17 = .ok (.iload_n 3, 1) := by decide +kernel
theorem dX11_plan_18 : decode cX11_plan 18 = .ok (.ifCond .ne 11, 3) := by decide +kernel
theorem dX11_plan_21 : decode cX11_plan 21 = .ok (.aload_n 0, 1) := by decide +kernel
theorem dX11_plan_22 : decode cX11_plan 22 = .ok (.iload_n 1, 1) := by decide +kernel
theorem dX11_plan_23 : decode cX11_plan 23 = .ok (.invokevirtual 153, 3) := by decide +kernel
theorem dX11_plan_26 : decode cX11_plan 26 = .ok (.goto 5, 3) := by decide +kernel
theorem dX11_plan_29 : decode cX11_plan 29 = .ok (.bipush (-2), 2) := by decide +kernel
theorem dX11_plan_31 : decode cX11_plan 31 = .ok (.ireturn, 1) := by decide +kernel
theorem dX11_plan_32 : decode cX11_plan 32 = .ok (.iload_n 2, 1) := by decide +kernel
theorem dX11_plan_33 : decode cX11_plan 33 = .ok (.iconst 0, 1) := by decide +kernel
theorem dX11_plan_34 : decode cX11_plan 34 = .ok (.aload_n 0, 1) := by decide +kernel
theorem dX11_plan_35 : decode cX11_plan 35 = .ok (.iload_n 1, 1) := by decide +kernel
theorem dX11_plan_36 : decode cX11_plan 36 = .ok (.invokevirtual 153, 3) := by decide +kernel
theorem dX11_plan_39 : decode cX11_plan 39 = .ok (.iconst 1, 1) := by decide +kernel
theorem dX11_plan_40 : decode cX11_plan 40 = .ok (.isub, 1) := by decide +kernel
theorem dX11_plan_41 : decode cX11_plan 41 = .ok (.invokestatic 90, 3) := by decide +kernel
theorem dX11_plan_44 : decode cX11_plan 44 = .ok (.ifCond .eq 22, 3) := by decide +kernel
theorem dX11_plan_47 : decode cX11_plan 47 = .ok (.iload_n 3, 1) := by decide +kernel
theorem dX11_plan_48 : decode cX11_plan 48 = .ok (.iconst 0, 1) := by decide +kernel
theorem dX11_plan_49 : decode cX11_plan 49 = .ok (.iconst 5, 1) := by decide +kernel
theorem dX11_plan_50 : decode cX11_plan 50 = .ok (.invokestatic 90, 3) := by decide +kernel
theorem dX11_plan_53 : decode cX11_plan 53 = .ok (.ifCond .eq 13, 3) := by decide +kernel
theorem dX11_plan_56 : decode cX11_plan 56 = .ok (.aload_n 0, 1) := by decide +kernel
theorem dX11_plan_57 : decode cX11_plan 57 = .ok (.iload_n 1, 1) := by decide +kernel
theorem dX11_plan_58 : decode cX11_plan 58 = .ok (.iload_n 2, 1) := by decide +kernel
theorem dX11_plan_59 : decode cX11_plan 59 = .ok (.iload_n 3, 1) := by decide +kernel
theorem dX11_plan_60 : decode cX11_plan 60 = .ok (.invokevirtual 156, 3) := by decide +kernel
theorem dX11_plan_63 : decode cX11_plan 63 = .ok (.goto 5, 3) := by decide +kernel
theorem dX11_plan_66 : decode cX11_plan 66 = .ok (.bipush (-2), 2) := by decide +kernel
theorem dX11_plan_68 : decode cX11_plan 68 = .ok (.ireturn, 1) := by decide +kernel
theorem dX11_goes_0 : decode cX11_goes 0 = .ok (.aload_n 0, 1) := by decide +kernel
theorem dX11_goes_1 : decode cX11_goes 1 = .ok (.iconst 0, 1) := by decide +kernel
theorem dX11_goes_2 : decode cX11_goes 2 = .ok (.iload_n 1, 1) := by decide +kernel
theorem dX11_goes_3 : decode cX11_goes 3 = .ok (.invokevirtual 130, 3) := by decide +kernel
theorem dX11_goes_6 : decode cX11_goes 6 = .ok (.ifCond .eq 12, 3) := by decide +kernel
theorem dX11_goes_9 : decode cX11_goes 9 = .ok (.aload_n 0, 1) := by decide +kernel
theorem dX11_goes_10 : decode cX11_goes 10 = .ok (.iconst 2, 1) := by decide +kernel
theorem dX11_goes_11 : decode cX11_goes 11 = .ok (.iload_n 2, 1) := by decide +kernel
theorem dX11_goes_12 : decode cX11_goes 12 = .ok (.invokevirtual 130, 3) := by decide +kernel
theorem dX11_goes_15 : decode cX11_goes 15 = .ok (.ifCond .ne 5, 3) := by decide +kernel
theorem dX11_goes_18 : decode cX11_goes 18 = .ok (.iconst 0, 1) := by decide +kernel
theorem dX11_goes_19 : decode cX11_goes 19 = .ok (.ireturn, 1) := by decide +kernel
theorem dX11_goes_20 : decode cX11_goes 20 = .ok (.iconst 0, 1) := by decide +kernel
theorem dX11_goes_21 : decode cX11_goes 21 = .ok (.iload_n 1, 1) := by decide +kernel
theorem dX11_goes_22 : decode cX11_goes 22 = .ok (.invokestatic 150, 3) := by decide +kernel
theorem dX11_goes_25 : decode cX11_goes 25 = .ok (.istore_n 3, 1) := by decide +kernel
theorem dX11_goes_26 : decode cX11_goes 26 = .ok (.iconst 1, 1) := by decide +kernel
theorem dX11_goes_27 : decode cX11_goes 27 = .ok (.istore 4, 2) := by decide +kernel
theorem dX11_goes_29 : decode cX11_goes 29 = .ok (.iconst 0, 1) := by decide +kernel
theorem dX11_goes_30 : decode cX11_goes 30 = .ok (.istore 5, 2) := by decide +kernel
theorem dX11_goes_32 : decode cX11_goes 32 = .ok (.iload 5, 2) := by decide +kernel
theorem dX11_goes_34 : decode cX11_goes 34 = .ok (.aload_n 0, 1) := by decide +kernel
theorem dX11_goes_35 : decode cX11_goes 35 = .ok (.iload_n 2, 1) := by decide +kernel
theorem dX11_goes_36 : decode cX11_goes 36 = .ok (.invokevirtual 153, 3) := by decide +kernel
theorem dX11_goes_39 : decode cX11_goes 39 = .ok (.if_icmp .ge 76, 3) := by decide +kernel
theorem dX11_goes_42 : decode cX11_goes 42 = .ok (.iload 4, 2) := by decide +kernel
theorem dX11_goes_44 : decode cX11_goes 44 = .ok (.ifCond .eq 62, 3) := by decide +kernel
theorem dX11_goes_47 : decode cX11_goes 47 = .ok (.aload_n 0, 1) := by decide +kernel
theorem dX11_goes_48 : decode cX11_goes 48 = .ok (.iload_n 2, 1) := by decide +kernel
theorem dX11_goes_49 : decode cX11_goes 49 = .ok (.iload 5, 2) := by decide +kernel
theorem dX11_goes_51 : decode cX11_goes 51 = .ok (.iconst 0, 1) := by decide +kernel
theorem dX11_goes_52 : decode cX11_goes 52 = .ok (.invokevirtual 156, 3) := by decide +kernel
theorem dX11_goes_55 : decode cX11_goes 55 = .ok (.aload_n 0, 1) := by decide +kernel
theorem dX11_goes_56 : decode cX11_goes 56 = .ok (.getfield 7, 3) := by decide +kernel
theorem dX11_goes_59 : decode cX11_goes 59 = .ok (.iload_n 3, 1) := by decide +kernel
theorem dX11_goes_60 : decode cX11_goes 60 = .ok (.iconst 1, 1) := by decide +kernel
theorem dX11_goes_61 : decode cX11_goes 61 = .ok (.iadd, 1) := by decide +kernel
theorem dX11_goes_62 : decode cX11_goes 62 = .ok (.iaload, 1) := by decide +kernel
theorem dX11_goes_63 : decode cX11_goes 63 = .ok (.if_icmp .ge 43, 3) := by decide +kernel
theorem dX11_goes_66 : decode cX11_goes 66 = .ok (.aload_n 0, 1) := by decide +kernel
theorem dX11_goes_67 : decode cX11_goes 67 = .ok (.iload_n 2, 1) := by decide +kernel
theorem dX11_goes_68 : decode cX11_goes 68 = .ok (.iload 5, 2) := by decide +kernel
theorem dX11_goes_70 : decode cX11_goes 70 = .ok (.iconst 1, 1) := by decide +kernel
theorem dX11_goes_71 : decode cX11_goes 71 = .ok (.invokevirtual 156, 3) := by decide +kernel
theorem dX11_goes_74 : decode cX11_goes 74 = .ok (.aload_n 0, 1) := by decide +kernel
theorem dX11_goes_75 : decode cX11_goes 75 = .ok (.getfield 7, 3) := by decide +kernel
theorem dX11_goes_78 : decode cX11_goes 78 = .ok (.iload_n 3, 1) := by decide +kernel
theorem dX11_goes_79 : decode cX11_goes 79 = .ok (.iconst 1, 1) := by decide +kernel
theorem dX11_goes_80 : decode cX11_goes 80 = .ok (.iadd, 1) := by decide +kernel
theorem dX11_goes_81 : decode cX11_goes 81 = .ok (.iaload, 1) := by decide +kernel
theorem dX11_goes_82 : decode cX11_goes 82 = .ok (.if_icmp .ge 24, 3) := by decide +kernel
theorem dX11_goes_85 : decode cX11_goes 85 = .ok (.aload_n 0, 1) := by decide +kernel
theorem dX11_goes_86 : decode cX11_goes 86 = .ok (.iload_n 2, 1) := by decide +kernel
theorem dX11_goes_87 : decode cX11_goes 87 = .ok (.iload 5, 2) := by decide +kernel
theorem dX11_goes_89 : decode cX11_goes 89 = .ok (.iconst 5, 1) := by decide +kernel
theorem dX11_goes_90 : decode cX11_goes 90 = .ok (.invokevirtual 156, 3) := by decide +kernel
theorem dX11_goes_93 : decode cX11_goes 93 = .ok (.aload_n 0, 1) := by decide +kernel
theorem dX11_goes_94 : decode cX11_goes 94 = .ok (.getfield 7, 3) := by decide +kernel
theorem dX11_goes_97 : decode cX11_goes 97 = .ok (.iload_n 3, 1) := by decide +kernel
theorem dX11_goes_98 : decode cX11_goes 98 = .ok (.iaload, 1) := by decide +kernel
theorem dX11_goes_99 : decode cX11_goes 99 = .ok (.if_icmp .ge 7, 3) := by decide +kernel
theorem dX11_goes_102 : decode cX11_goes 102 = .ok (.iconst 1, 1) := by decide +kernel
theorem dX11_goes_103 : decode cX11_goes 103 = .ok (.goto 4, 3) := by decide +kernel
theorem dX11_goes_106 : decode cX11_goes 106 = .ok (.iconst 0, 1) := by decide +kernel
theorem dX11_goes_107 : decode cX11_goes 107 = .ok (.istore 4, 2) := by decide +kernel
theorem dX11_goes_109 : decode cX11_goes 109 = .ok (.iinc 5 1, 3) := by decide +kernel
theorem dX11_goes_112 : decode cX11_goes 112 = .ok (.goto (-80), 3) := by decide +kernel
theorem dX11_goes_115 : decode cX11_goes 115 = .ok (.iload 4, 2) := by decide +kernel
theorem dX11_goes_117 : decode cX11_goes 117 = .ok (.ireturn, 1) := by decide +kernel
theorem dX11_ownOf_0 : decode cX11_ownOf 0 = .ok (.aload_n 0, 1) := by decide +kernel
theorem dX11_ownOf_1 : decode cX11_ownOf 1 = .ok (.getfield 7, 3) := by decide +kernel
theorem dX11_ownOf_4 : decode cX11_ownOf 4 = .ok (.iload_n 1, 1) := by decide +kernel
theorem dX11_ownOf_5 : decode cX11_ownOf 5 = .ok (.bipush 32, 2) := by decide +kernel
theorem dX11_ownOf_7 : decode cX11_ownOf 7 = .ok (.iadd, 1) := by decide +kernel
theorem dX11_ownOf_8 : decode cX11_ownOf 8 = .ok (.iload_n 2, 1) := by decide +kernel
theorem dX11_ownOf_9 : decode cX11_ownOf 9 = .ok (.iadd, 1) := by decide +kernel
theorem dX11_ownOf_10 : decode cX11_ownOf 10 = .ok (.iaload, 1) := by decide +kernel
theorem dX11_ownOf_11 : decode cX11_ownOf 11 = .ok (.ireturn, 1) := by decide +kernel
theorem dX11_groundOf_0 : decode cX11_groundOf 0 = .ok (.aload_n 0, 1) := by decide +kernel
theorem dX11_groundOf_1 : decode cX11_groundOf 1 = .ok (.iload_n 2, 1) := by decide +kernel
theorem dX11_groundOf_2 : decode cX11_groundOf 2 = .ok (.iload_n 3, 1) := by decide +kernel
theorem dX11_groundOf_3 : decode cX11_groundOf 3 = .ok (.iconst 5, 1) := by decide +kernel
theorem dX11_groundOf_4 : decode cX11_groundOf 4 = .ok (.invokevirtual 156, 3) := by decide +kernel
theorem dX11_groundOf_7 : decode cX11_groundOf 7 = .ok (.istore 4, 2) := by decide +kernel
theorem dX11_groundOf_9 : decode cX11_groundOf 9 = .ok (.iload 4, 2) := by decide +kernel
theorem dX11_groundOf_11 : decode cX11_groundOf 11 = .ok (.ifCond .ge 18, 3) := by decide +kernel
theorem dX11_groundOf_14 : decode cX11_groundOf 14 = .ok (.aload_n 0, 1) := by decide +kernel
theorem dX11_groundOf_15 : decode cX11_groundOf 15 = .ok (.iload_n 1, 1) := by decide +kernel
theorem dX11_groundOf_16 : decode cX11_groundOf 16 = .ok (.aload_n 0, 1) := by decide +kernel
theorem dX11_groundOf_17 : decode cX11_groundOf 17 = .ok (.iload_n 2, 1) := by decide +kernel
theorem dX11_groundOf_18 : decode cX11_groundOf 18 = .ok (.iload_n 3, 1) := by decide +kernel
theorem dX11_groundOf_19 : decode cX11_groundOf 19 = .ok (.iconst 0, 1) := by decide +kernel
theorem dX11_groundOf_20 : decode cX11_groundOf 20 = .ok (.invokevirtual 156, 3) := by decide +kernel
theorem dX11_groundOf_23 : decode cX11_groundOf 23 = .ok (.invokevirtual 159, 3) := by decide +kernel
theorem dX11_groundOf_26 : decode cX11_groundOf 26 = .ok (.goto 5, 3) := by decide +kernel
theorem dX11_groundOf_29 : decode cX11_groundOf 29 = .ok (.iload 4, 2) := by decide +kernel
theorem dX11_groundOf_31 : decode cX11_groundOf 31 = .ok (.ireturn, 1) := by decide +kernel
theorem dX11_loudOf_0 : decode cX11_loudOf 0 = .ok (.aload_n 0, 1) := by decide +kernel
theorem dX11_loudOf_1 : decode cX11_loudOf 1 = .ok (.iload_n 1, 1) := by decide +kernel
theorem dX11_loudOf_2 : decode cX11_loudOf 2 = .ok (.iload_n 2, 1) := by decide +kernel
theorem dX11_loudOf_3 : decode cX11_loudOf 3 = .ok (.iload_n 3, 1) := by decide +kernel
theorem dX11_loudOf_4 : decode cX11_loudOf 4 = .ok (.invokevirtual 162, 3) := by decide +kernel
theorem dX11_loudOf_7 : decode cX11_loudOf 7 = .ok (.istore 4, 2) := by decide +kernel
theorem dX11_loudOf_9 : decode cX11_loudOf 9 = .ok (.aload_n 0, 1) := by decide +kernel
theorem dX11_loudOf_10 : decode cX11_loudOf 10 = .ok (.iload_n 2, 1) := by decide +kernel
theorem dX11_loudOf_11 : decode cX11_loudOf 11 = .ok (.iload_n 3, 1) := by decide +kernel
theorem dX11_loudOf_12 : decode cX11_loudOf 12 = .ok (.iconst 3, 1) := by decide +kernel
theorem dX11_loudOf_13 : decode cX11_loudOf 13 = .ok (.invokevirtual 156, 3) := by decide +kernel
theorem dX11_loudOf_16 : decode cX11_loudOf 16 = .ok (.ifCond .ne 7, 3) := by decide +kernel
theorem dX11_loudOf_19 : decode cX11_loudOf 19 = .ok (.iconst 0, 1) := by decide +kernel
theorem dX11_loudOf_20 : decode cX11_loudOf 20 = .ok (.goto 30, 3) := by decide +kernel
theorem dX11_loudOf_23 : decode cX11_loudOf 23 = .ok (.aload_n 0, 1) := by decide +kernel
theorem dX11_loudOf_24 : decode cX11_loudOf 24 = .ok (.getfield 7, 3) := by decide +kernel
theorem dX11_loudOf_27 : decode cX11_loudOf 27 = .ok (.iload_n 1, 1) := by decide +kernel
theorem dX11_loudOf_28 : decode cX11_loudOf 28 = .ok (.bipush 22, 2) := by decide +kernel
theorem dX11_loudOf_30 : decode cX11_loudOf 30 = .ok (.iadd, 1) := by decide +kernel
theorem dX11_loudOf_31 : decode cX11_loudOf 31 = .ok (.iload 4, 2) := by decide +kernel
theorem dX11_loudOf_33 : decode cX11_loudOf 33 = .ok (.iadd, 1) := by decide +kernel
theorem dX11_loudOf_34 : decode cX11_loudOf 34 = .ok (.iaload, 1) := by decide +kernel
theorem dX11_loudOf_35 : decode cX11_loudOf 35 = .ok (.iconst 1, 1) := by decide +kernel
theorem dX11_loudOf_36 : decode cX11_loudOf 36 = .ok (.aload_n 0, 1) := by decide +kernel
theorem dX11_loudOf_37 : decode cX11_loudOf 37 = .ok (.getfield 7, 3) := by decide +kernel
theorem dX11_loudOf_40 : decode cX11_loudOf 40 = .ok (.iload_n 1, 1) := by decide +kernel
theorem dX11_loudOf_41 : decode cX11_loudOf 41 = .ok (.bipush 12, 2) := by decide +kernel
theorem dX11_loudOf_43 : decode cX11_loudOf 43 = .ok (.iadd, 1) := by decide +kernel
theorem dX11_loudOf_44 : decode cX11_loudOf 44 = .ok (.iload 4, 2) := by decide +kernel
theorem dX11_loudOf_46 : decode cX11_loudOf 46 = .ok (.iadd, 1) := by decide +kernel
theorem dX11_loudOf_47 : decode cX11_loudOf 47 = .ok (.iaload, 1) := by decide +kernel
theorem dX11_loudOf_48 : decode cX11_loudOf 48 = .ok (.iadd, 1) := by decide +kernel
theorem dX11_loudOf_49 : decode cX11_loudOf 49 = .ok (.idiv, 1) := by decide +kernel
theorem dX11_loudOf_50 : decode cX11_loudOf 50 = .ok (.ireturn, 1) := by decide +kernel
theorem dX11_restOf_0 : decode cX11_restOf 0 = .ok (.bipush 30, 2) := by decide +kernel
theorem dX11_restOf_2 : decode cX11_restOf 2 = .ok (.istore 4, 2) := by decide +kernel
theorem dX11_restOf_4 : decode cX11_restOf 4 = .ok (.iconst 0, 1) := by decide +kernel
theorem dX11_restOf_5 : decode cX11_restOf 5 = .ok (.istore 5, 2) := by decide +kernel
theorem dX11_restOf_7 : decode cX11_restOf 7 = .ok (.iload 5, 2) := by decide +kernel
theorem dX11_restOf_9 : decode cX11_restOf 9 = .ok (.iload_n 2, 1) := by decide +kernel
theorem dX11_restOf_10 : decode cX11_restOf 10 = .ok (.if_icmp .ge 51, 3) := by decide +kernel
theorem dX11_restOf_13 : decode cX11_restOf 13 = .ok (.aload_n 0, 1) := by decide +kernel
theorem dX11_restOf_14 : decode cX11_restOf 14 = .ok (.iload_n 1, 1) := by decide +kernel
theorem dX11_restOf_15 : decode cX11_restOf 15 = .ok (.iload 5, 2) := by decide +kernel
theorem dX11_restOf_17 : decode cX11_restOf 17 = .ok (.iconst 0, 1) := by decide +kernel
theorem dX11_restOf_18 : decode cX11_restOf 18 = .ok (.invokevirtual 156, 3) := by decide +kernel
theorem dX11_restOf_21 : decode cX11_restOf 21 = .ok (.iload_n 3, 1) := by decide +kernel
theorem dX11_restOf_22 : decode cX11_restOf 22 = .ok (.if_icmp .eq 15, 3) := by decide +kernel
theorem dX11_restOf_25 : decode cX11_restOf 25 = .ok (.aload_n 0, 1) := by decide +kernel
theorem dX11_restOf_26 : decode cX11_restOf 26 = .ok (.iload_n 1, 1) := by decide +kernel
theorem dX11_restOf_27 : decode cX11_restOf 27 = .ok (.iload 5, 2) := by decide +kernel
theorem dX11_restOf_29 : decode cX11_restOf 29 = .ok (.iconst 1, 1) := by decide +kernel
theorem dX11_restOf_30 : decode cX11_restOf 30 = .ok (.invokevirtual 156, 3) := by decide +kernel
theorem dX11_restOf_33 : decode cX11_restOf 33 = .ok (.iload_n 3, 1) := by decide +kernel
theorem dX11_restOf_34 : decode cX11_restOf 34 = .ok (.if_icmp .ne 21, 3) := by decide +kernel
theorem dX11_restOf_37 : decode cX11_restOf 37 = .ok (.aload_n 0, 1) := by decide +kernel
theorem dX11_restOf_38 : decode cX11_restOf 38 = .ok (.iload_n 1, 1) := by decide +kernel
theorem dX11_restOf_39 : decode cX11_restOf 39 = .ok (.iload_n 2, 1) := by decide +kernel
theorem dX11_restOf_40 : decode cX11_restOf 40 = .ok (.iconst 2, 1) := by decide +kernel
theorem dX11_restOf_41 : decode cX11_restOf 41 = .ok (.invokevirtual 156, 3) := by decide +kernel
theorem dX11_restOf_44 : decode cX11_restOf 44 = .ok (.aload_n 0, 1) := by decide +kernel
theorem dX11_restOf_45 : decode cX11_restOf 45 = .ok (.iload_n 1, 1) := by decide +kernel
theorem dX11_restOf_46 : decode cX11_restOf 46 = .ok (.iload 5, 2) := by decide +kernel
theorem dX11_restOf_48 : decode cX11_restOf 48 = .ok (.iconst 2, 1) := by decide +kernel
theorem dX11_restOf_49 : decode cX11_restOf 49 = .ok (.invokevirtual 156, 3) := by decide +kernel
theorem dX11_restOf_52 : decode cX11_restOf 52 = .ok (.isub, 1) := by decide +kernel
theorem dX11_restOf_53 : decode cX11_restOf 53 = .ok (.istore 4, 2) := by decide +kernel
theorem dX11_restOf_55 : decode cX11_restOf 55 = .ok (.iinc 5 1, 3) := by decide +kernel
theorem dX11_restOf_58 : decode cX11_restOf 58 = .ok (.goto (-51), 3) := by decide +kernel
theorem dX11_restOf_61 : decode cX11_restOf 61 = .ok (.iload 4, 2) := by decide +kernel
theorem dX11_restOf_63 : decode cX11_restOf 63 = .ok (.ireturn, 1) := by decide +kernel
theorem dX11_timesOf_0 : decode cX11_timesOf 0 = .ok (.aload_n 0, 1) := by decide +kernel
theorem dX11_timesOf_1 : decode cX11_timesOf 1 = .ok (.iload_n 3, 1) := by decide +kernel
theorem dX11_timesOf_2 : decode cX11_timesOf 2 = .ok (.iload 4, 2) := by decide +kernel
theorem dX11_timesOf_4 : decode cX11_timesOf 4 = .ok (.iconst 0, 1) := by decide +kernel
theorem dX11_timesOf_5 : decode cX11_timesOf 5 = .ok (.invokevirtual 156, 3) := by decide +kernel
theorem dX11_timesOf_8 : decode cX11_timesOf 8 = .ok (.istore 6, 2) := by decide +kernel
theorem dX11_timesOf_10 : decode cX11_timesOf 10 = .ok (.aload_n 0, 1) := by decide +kernel
theorem dX11_timesOf_11 : decode cX11_timesOf 11 = .ok (.iload_n 3, 1) := by decide +kernel
theorem dX11_timesOf_12 : decode cX11_timesOf 12 = .ok (.iload 4, 2) := by decide +kernel
theorem dX11_timesOf_14 : decode cX11_timesOf 14 = .ok (.iconst 1, 1) := by decide +kernel
theorem dX11_timesOf_15 : decode cX11_timesOf 15 = .ok (.invokevirtual 156, 3) := by decide +kernel
theorem dX11_timesOf_18 : decode cX11_timesOf 18 = .ok (.istore 7, 2) := by decide +kernel
theorem dX11_timesOf_20 : decode cX11_timesOf 20 = .ok (.aload_n 0, 1) := by decide +kernel
theorem dX11_timesOf_21 : decode cX11_timesOf 21 = .ok (.iload_n 1, 1) := by decide +kernel
theorem dX11_timesOf_22 : decode cX11_timesOf 22 = .ok (.iload_n 3, 1) := by decide +kernel
theorem dX11_timesOf_23 : decode cX11_timesOf 23 = .ok (.iload 4, 2) := by decide +kernel
theorem dX11_timesOf_25 : decode cX11_timesOf 25 = .ok (.invokevirtual 162, 3) := by decide +kernel
theorem dX11_timesOf_28 : decode cX11_timesOf 28 = .ok (.istore 8, 2) := by decide +kernel
theorem dX11_timesOf_30 : decode cX11_timesOf 30 = .ok (.aload_n 0, 1) := by decide +kernel
theorem dX11_timesOf_31 : decode cX11_timesOf 31 = .ok (.iload_n 1, 1) := by decide +kernel
theorem dX11_timesOf_32 : decode cX11_timesOf 32 = .ok (.iload 7, 2) := by decide +kernel
theorem dX11_timesOf_34 : decode cX11_timesOf 34 = .ok (.invokevirtual 159, 3) := by decide +kernel
theorem dX11_timesOf_37 : decode cX11_timesOf 37 = .ok (.istore 9, 2) := by decide +kernel
theorem dX11_timesOf_39 : decode cX11_timesOf 39 = .ok (.aload_n 0, 1) := by decide +kernel
theorem dX11_timesOf_40 : decode cX11_timesOf 40 = .ok (.getfield 7, 3) := by decide +kernel
theorem dX11_timesOf_43 : decode cX11_timesOf 43 = .ok (.iload_n 2, 1) := by decide +kernel
theorem dX11_timesOf_44 : decode cX11_timesOf 44 = .ok (.bipush 7, 2) := by decide +kernel
theorem dX11_timesOf_46 : decode cX11_timesOf 46 = .ok (.iadd, 1) := by decide +kernel
theorem dX11_timesOf_47 : decode cX11_timesOf 47 = .ok (.iload 5, 2) := by decide +kernel
theorem dX11_timesOf_49 : decode cX11_timesOf 49 = .ok (.iadd, 1) := by decide +kernel
theorem dX11_timesOf_50 : decode cX11_timesOf 50 = .ok (.iaload, 1) := by decide +kernel
theorem dX11_timesOf_51 : decode cX11_timesOf 51 = .ok (.istore 10, 2) := by decide +kernel
theorem dX11_timesOf_53 : decode cX11_timesOf 53 = .ok (.iload 5, 2) := by decide +kernel
theorem dX11_timesOf_55 : decode cX11_timesOf 55 = .ok (.ifCond .ne 28, 3) := by decide +kernel
theorem dX11_timesOf_58 : decode cX11_timesOf 58 = .ok (.iload 8, 2) := by decide +kernel
theorem dX11_timesOf_60 : decode cX11_timesOf 60 = .ok (.aload_n 0, 1) := by decide +kernel
theorem dX11_timesOf_61 : decode cX11_timesOf 61 = .ok (.iload_n 1, 1) := by decide +kernel
theorem dX11_timesOf_62 : decode cX11_timesOf 62 = .ok (.iload 6, 2) := by decide +kernel
theorem dX11_timesOf_64 : decode cX11_timesOf 64 = .ok (.invokevirtual 159, 3) := by decide +kernel
theorem dX11_timesOf_67 : decode cX11_timesOf 67 = .ok (.if_icmp .ne 14, 3) := by decide +kernel
theorem dX11_timesOf_70 : decode cX11_timesOf 70 = .ok (.iload 8, 2) := by decide +kernel
theorem dX11_timesOf_72 : decode cX11_timesOf 72 = .ok (.iload 9, 2) := by decide +kernel
theorem dX11_timesOf_74 : decode cX11_timesOf 74 = .ok (.if_icmp .eq 7, 3) := by decide +kernel
theorem dX11_timesOf_77 : decode cX11_timesOf 77 = .ok (.iconst 1, 1) := by decide +kernel
theorem dX11_timesOf_78 : decode cX11_timesOf 78 = .ok (.goto 4, 3) := by decide +kernel
theorem dX11_timesOf_81 : decode cX11_timesOf 81 = .ok (.iconst 0, 1) := by decide +kernel
theorem dX11_timesOf_82 : decode cX11_timesOf 82 = .ok (.ireturn, 1) := by decide +kernel
theorem dX11_timesOf_83 : decode cX11_timesOf 83 = .ok (.iload 5, 2) := by decide +kernel
theorem dX11_timesOf_85 : decode cX11_timesOf 85 = .ok (.iconst 1, 1) := by decide +kernel
theorem dX11_timesOf_86 : decode cX11_timesOf 86 = .ok (.if_icmp .ne 25, 3) := by decide +kernel
theorem dX11_timesOf_89 : decode cX11_timesOf 89 = .ok (.aload_n 0, 1) := by decide +kernel
theorem dX11_timesOf_90 : decode cX11_timesOf 90 = .ok (.getfield 7, 3) := by decide +kernel
theorem dX11_timesOf_93 : decode cX11_timesOf 93 = .ok (.iload_n 1, 1) := by decide +kernel
theorem dX11_timesOf_94 : decode cX11_timesOf 94 = .ok (.bipush 50, 2) := by decide +kernel
theorem dX11_timesOf_96 : decode cX11_timesOf 96 = .ok (.iadd, 1) := by decide +kernel
theorem dX11_timesOf_97 : decode cX11_timesOf 97 = .ok (.bipush 10, 2) := by decide +kernel
theorem dX11_timesOf_99 : decode cX11_timesOf 99 = .ok (.iload 9, 2) := by decide +kernel
theorem dX11_timesOf_101 : decode cX11_timesOf 101 = .ok (.imul, 1) := by decide +kernel
theorem dX11_timesOf_102 : decode cX11_timesOf 102 = .ok (.iadd, 1) := by decide +kernel
theorem dX11_timesOf_103 : decode cX11_timesOf 103 = .ok (.iload 8, 2) := by decide +kernel
theorem dX11_timesOf_105 : decode cX11_timesOf 105 = .ok (.iadd, 1) := by decide +kernel
theorem dX11_timesOf_106 : decode cX11_timesOf 106 = .ok (.iaload, 1) := by decide +kernel
theorem dX11_timesOf_107 : decode cX11_timesOf 107 = .ok (.iload 10, 2) := by decide +kernel
theorem dX11_timesOf_109 : decode cX11_timesOf 109 = .ok (.idiv, 1) := by decide +kernel
theorem dX11_timesOf_110 : decode cX11_timesOf 110 = .ok (.ireturn, 1) := by decide +kernel
theorem dX11_timesOf_111 : decode cX11_timesOf 111 = .ok (.iload 5, 2) := by decide +kernel
theorem dX11_timesOf_113 : decode cX11_timesOf 113 = .ok (.iconst 2, 1) := by decide +kernel
theorem dX11_timesOf_114 : decode cX11_timesOf 114 = .ok (.if_icmp .ne 37, 3) := by decide +kernel
theorem dX11_timesOf_117 : decode cX11_timesOf 117 = .ok (.aload_n 0, 1) := by decide +kernel
theorem dX11_timesOf_118 : decode cX11_timesOf 118 = .ok (.iload_n 3, 1) := by decide +kernel
theorem dX11_timesOf_119 : decode cX11_timesOf 119 = .ok (.iload 4, 2) := by decide +kernel
theorem dX11_timesOf_121 : decode cX11_timesOf 121 = .ok (.iload 7, 2) := by decide +kernel
theorem dX11_timesOf_123 : decode cX11_timesOf 123 = .ok (.invokevirtual 165, 3) := by decide +kernel
theorem dX11_timesOf_126 : decode cX11_timesOf 126 = .ok (.iload 10, 2) := by decide +kernel
theorem dX11_timesOf_128 : decode cX11_timesOf 128 = .ok (.if_icmp .ge 21, 3) := by decide +kernel
theorem dX11_timesOf_131 : decode cX11_timesOf 131 = .ok (.aload_n 0, 1) := by decide +kernel
theorem dX11_timesOf_132 : decode cX11_timesOf 132 = .ok (.iload_n 3, 1) := by decide +kernel
theorem dX11_timesOf_133 : decode cX11_timesOf 133 = .ok (.iload 4, 2) := by decide +kernel
theorem dX11_timesOf_135 : decode cX11_timesOf 135 = .ok (.iload 6, 2) := by decide +kernel
theorem dX11_timesOf_137 : decode cX11_timesOf 137 = .ok (.invokevirtual 165, 3) := by decide +kernel
theorem dX11_timesOf_140 : decode cX11_timesOf 140 = .ok (.iload 10, 2) := by decide +kernel
theorem dX11_timesOf_142 : decode cX11_timesOf 142 = .ok (.if_icmp .lt 7, 3) := by decide +kernel
theorem dX11_timesOf_145 : decode cX11_timesOf 145 = .ok (.iconst 1, 1) := by decide +kernel
theorem dX11_timesOf_146 : decode cX11_timesOf 146 = .ok (.goto 4, 3) := by decide +kernel
theorem dX11_timesOf_149 : decode cX11_timesOf 149 = .ok (.iconst 0, 1) := by decide +kernel
theorem dX11_timesOf_150 : decode cX11_timesOf 150 = .ok (.ireturn, 1) := by decide +kernel
theorem dX11_timesOf_151 : decode cX11_timesOf 151 = .ok (.iload 5, 2) := by decide +kernel
theorem dX11_timesOf_153 : decode cX11_timesOf 153 = .ok (.iconst 3, 1) := by decide +kernel
theorem dX11_timesOf_154 : decode cX11_timesOf 154 = .ok (.if_icmp .ne 15, 3) := by decide +kernel
theorem dX11_timesOf_157 : decode cX11_timesOf 157 = .ok (.aload_n 0, 1) := by decide +kernel
theorem dX11_timesOf_158 : decode cX11_timesOf 158 = .ok (.iload_n 1, 1) := by decide +kernel
theorem dX11_timesOf_159 : decode cX11_timesOf 159 = .ok (.iload_n 3, 1) := by decide +kernel
theorem dX11_timesOf_160 : decode cX11_timesOf 160 = .ok (.iload 4, 2) := by decide +kernel
theorem dX11_timesOf_162 : decode cX11_timesOf 162 = .ok (.invokevirtual 168, 3) := by decide +kernel
theorem dX11_timesOf_165 : decode cX11_timesOf 165 = .ok (.iload 10, 2) := by decide +kernel
theorem dX11_timesOf_167 : decode cX11_timesOf 167 = .ok (.idiv, 1) := by decide +kernel
theorem dX11_timesOf_168 : decode cX11_timesOf 168 = .ok (.ireturn, 1) := by decide +kernel
theorem dX11_timesOf_169 : decode cX11_timesOf 169 = .ok (.iload 5, 2) := by decide +kernel
theorem dX11_timesOf_171 : decode cX11_timesOf 171 = .ok (.iconst 4, 1) := by decide +kernel
theorem dX11_timesOf_172 : decode cX11_timesOf 172 = .ok (.if_icmp .ne 30, 3) := by decide +kernel
theorem dX11_timesOf_175 : decode cX11_timesOf 175 = .ok (.aload_n 0, 1) := by decide +kernel
theorem dX11_timesOf_176 : decode cX11_timesOf 176 = .ok (.iload_n 3, 1) := by decide +kernel
theorem dX11_timesOf_177 : decode cX11_timesOf 177 = .ok (.iload 4, 2) := by decide +kernel
theorem dX11_timesOf_179 : decode cX11_timesOf 179 = .ok (.iconst 4, 1) := by decide +kernel
theorem dX11_timesOf_180 : decode cX11_timesOf 180 = .ok (.invokevirtual 156, 3) := by decide +kernel
theorem dX11_timesOf_183 : decode cX11_timesOf 183 = .ok (.ifCond .ne 7, 3) := by decide +kernel
theorem dX11_timesOf_186 : decode cX11_timesOf 186 = .ok (.iconst 0, 1) := by decide +kernel
theorem dX11_timesOf_187 : decode cX11_timesOf 187 = .ok (.goto 14, 3) := by decide +kernel
theorem dX11_timesOf_190 : decode cX11_timesOf 190 = .ok (.aload_n 0, 1) := by decide +kernel
theorem dX11_timesOf_191 : decode cX11_timesOf 191 = .ok (.iload_n 1, 1) := by decide +kernel
theorem dX11_timesOf_192 : decode cX11_timesOf 192 = .ok (.iload_n 3, 1) := by decide +kernel
theorem dX11_timesOf_193 : decode cX11_timesOf 193 = .ok (.iload 4, 2) := by decide +kernel
theorem dX11_timesOf_195 : decode cX11_timesOf 195 = .ok (.invokevirtual 168, 3) := by decide +kernel
theorem dX11_timesOf_198 : decode cX11_timesOf 198 = .ok (.iload 10, 2) := by decide +kernel
theorem dX11_timesOf_200 : decode cX11_timesOf 200 = .ok (.idiv, 1) := by decide +kernel
theorem dX11_timesOf_201 : decode cX11_timesOf 201 = .ok (.ireturn, 1) := by decide +kernel
theorem dX11_timesOf_202 : decode cX11_timesOf 202 = .ok (.aload_n 0, 1) := by decide +kernel
theorem dX11_timesOf_203 : decode cX11_timesOf 203 = .ok (.getfield 7, 3) := by decide +kernel
theorem dX11_timesOf_206 : decode cX11_timesOf 206 = .ok (.iload_n 1, 1) := by decide +kernel
theorem dX11_timesOf_207 : decode cX11_timesOf 207 = .ok (.iconst 2, 1) := by decide +kernel
theorem dX11_timesOf_208 : decode cX11_timesOf 208 = .ok (.iadd, 1) := by decide +kernel
theorem dX11_timesOf_209 : decode cX11_timesOf 209 = .ok (.iload 8, 2) := by decide +kernel
theorem dX11_timesOf_211 : decode cX11_timesOf 211 = .ok (.iadd, 1) := by decide +kernel
theorem dX11_timesOf_212 : decode cX11_timesOf 212 = .ok (.iaload, 1) := by decide +kernel
theorem dX11_timesOf_213 : decode cX11_timesOf 213 = .ok (.aload_n 0, 1) := by decide +kernel
theorem dX11_timesOf_214 : decode cX11_timesOf 214 = .ok (.getfield 7, 3) := by decide +kernel
theorem dX11_timesOf_217 : decode cX11_timesOf 217 = .ok (.iload_n 1, 1) := by decide +kernel
theorem dX11_timesOf_218 : decode cX11_timesOf 218 = .ok (.iconst 2, 1) := by decide +kernel
theorem dX11_timesOf_219 : decode cX11_timesOf 219 = .ok (.iadd, 1) := by decide +kernel
theorem dX11_timesOf_220 : decode cX11_timesOf 220 = .ok (.iload 9, 2) := by decide +kernel
theorem dX11_timesOf_222 : decode cX11_timesOf 222 = .ok (.iadd, 1) := by decide +kernel
theorem dX11_timesOf_223 : decode cX11_timesOf 223 = .ok (.iaload, 1) := by decide +kernel
theorem dX11_timesOf_224 : decode cX11_timesOf 224 = .ok (.isub, 1) := by decide +kernel
theorem dX11_timesOf_225 : decode cX11_timesOf 225 = .ok (.istore 11, 2) := by decide +kernel
theorem dX11_timesOf_227 : decode cX11_timesOf 227 = .ok (.iload 11, 2) := by decide +kernel
theorem dX11_timesOf_229 : decode cX11_timesOf 229 = .ok (.ifCond .ge 7, 3) := by decide +kernel
theorem dX11_timesOf_232 : decode cX11_timesOf 232 = .ok (.iconst 0, 1) := by decide +kernel
theorem dX11_timesOf_233 : decode cX11_timesOf 233 = .ok (.goto 8, 3) := by decide +kernel
theorem dX11_timesOf_236 : decode cX11_timesOf 236 = .ok (.iload 11, 2) := by decide +kernel
theorem dX11_timesOf_238 : decode cX11_timesOf 238 = .ok (.iload 10, 2) := by decide +kernel
theorem dX11_timesOf_240 : decode cX11_timesOf 240 = .ok (.idiv, 1) := by decide +kernel
theorem dX11_timesOf_241 : decode cX11_timesOf 241 = .ok (.ireturn, 1) := by decide +kernel
theorem dX11_partOf_0 : decode cX11_partOf 0 = .ok (.aload_n 0, 1) := by decide +kernel
theorem dX11_partOf_1 : decode cX11_partOf 1 = .ok (.getfield 7, 3) := by decide +kernel
theorem dX11_partOf_4 : decode cX11_partOf 4 = .ok (.iload_n 2, 1) := by decide +kernel
theorem dX11_partOf_5 : decode cX11_partOf 5 = .ok (.iconst 1, 1) := by decide +kernel
theorem dX11_partOf_6 : decode cX11_partOf 6 = .ok (.iadd, 1) := by decide +kernel
theorem dX11_partOf_7 : decode cX11_partOf 7 = .ok (.iload 5, 2) := by decide +kernel
theorem dX11_partOf_9 : decode cX11_partOf 9 = .ok (.iadd, 1) := by decide +kernel
theorem dX11_partOf_10 : decode cX11_partOf 10 = .ok (.iaload, 1) := by decide +kernel
theorem dX11_partOf_11 : decode cX11_partOf 11 = .ok (.aload_n 0, 1) := by decide +kernel
theorem dX11_partOf_12 : decode cX11_partOf 12 = .ok (.iload_n 1, 1) := by decide +kernel
theorem dX11_partOf_13 : decode cX11_partOf 13 = .ok (.iload_n 2, 1) := by decide +kernel
theorem dX11_partOf_14 : decode cX11_partOf 14 = .ok (.iload_n 3, 1) := by decide +kernel
theorem dX11_partOf_15 : decode cX11_partOf 15 = .ok (.iload 4, 2) := by decide +kernel
theorem dX11_partOf_17 : decode cX11_partOf 17 = .ok (.iload 5, 2) := by decide +kernel
theorem dX11_partOf_19 : decode cX11_partOf 19 = .ok (.invokevirtual 171, 3) := by decide +kernel
theorem dX11_partOf_22 : decode cX11_partOf 22 = .ok (.imul, 1) := by decide +kernel
theorem dX11_partOf_23 : decode cX11_partOf 23 = .ok (.istore 6, 2) := by decide +kernel
theorem dX11_partOf_25 : decode cX11_partOf 25 = .ok (.iload 6, 2) := by decide +kernel
theorem dX11_partOf_27 : decode cX11_partOf 27 = .ok (.bipush 50, 2) := by decide +kernel
theorem dX11_partOf_29 : decode cX11_partOf 29 = .ok (.if_icmp .le 8, 3) := by decide +kernel
theorem dX11_partOf_32 : decode cX11_partOf 32 = .ok (.bipush 50, 2) := by decide +kernel
theorem dX11_partOf_34 : decode cX11_partOf 34 = .ok (.goto 5, 3) := by decide +kernel
theorem dX11_partOf_37 : decode cX11_partOf 37 = .ok (.iload 6, 2) := by decide +kernel
theorem dX11_partOf_39 : decode cX11_partOf 39 = .ok (.ireturn, 1) := by decide +kernel
theorem dX11_edgeOf_0 : decode cX11_edgeOf 0 = .ok (.iconst 0, 1) := by decide +kernel
theorem dX11_edgeOf_1 : decode cX11_edgeOf 1 = .ok (.istore 5, 2) := by decide +kernel
theorem dX11_edgeOf_3 : decode cX11_edgeOf 3 = .ok (.iconst 0, 1) := by decide +kernel
theorem dX11_edgeOf_4 : decode cX11_edgeOf 4 = .ok (.istore 6, 2) := by decide +kernel
theorem dX11_edgeOf_6 : decode cX11_edgeOf 6 = .ok (.iload 6, 2) := by decide +kernel
theorem dX11_edgeOf_8 : decode cX11_edgeOf 8 = .ok (.bipush 6, 2) := by decide +kernel
theorem dX11_edgeOf_10 : decode cX11_edgeOf 10 = .ok (.if_icmp .ge 38, 3) := by decide +kernel
theorem dX11_edgeOf_13 : decode cX11_edgeOf 13 = .ok (.iload 5, 2) := by decide +kernel
theorem dX11_edgeOf_15 : decode cX11_edgeOf 15 = .ok (.iload 6, 2) := by decide +kernel
theorem dX11_edgeOf_17 : decode cX11_edgeOf 17 = .ok (.aload_n 0, 1) := by decide +kernel
theorem dX11_edgeOf_18 : decode cX11_edgeOf 18 = .ok (.getfield 23, 3) := by decide +kernel
theorem dX11_edgeOf_21 : decode cX11_edgeOf 21 = .ok (.if_icmp .ne 7, 3) := by decide +kernel
theorem dX11_edgeOf_24 : decode cX11_edgeOf 24 = .ok (.iconst 0, 1) := by decide +kernel
theorem dX11_edgeOf_25 : decode cX11_edgeOf 25 = .ok (.goto 14, 3) := by decide +kernel
theorem dX11_edgeOf_28 : decode cX11_edgeOf 28 = .ok (.aload_n 0, 1) := by decide +kernel
theorem dX11_edgeOf_29 : decode cX11_edgeOf 29 = .ok (.iload_n 1, 1) := by decide +kernel
theorem dX11_edgeOf_30 : decode cX11_edgeOf 30 = .ok (.iload_n 2, 1) := by decide +kernel
theorem dX11_edgeOf_31 : decode cX11_edgeOf 31 = .ok (.iload_n 3, 1) := by decide +kernel
theorem dX11_edgeOf_32 : decode cX11_edgeOf 32 = .ok (.iload 4, 2) := by decide +kernel
theorem dX11_edgeOf_34 : decode cX11_edgeOf 34 = .ok (.iload 6, 2) := by decide +kernel
theorem dX11_edgeOf_36 : decode cX11_edgeOf 36 = .ok (.invokevirtual 175, 3) := by decide +kernel
theorem dX11_edgeOf_39 : decode cX11_edgeOf 39 = .ok (.iadd, 1) := by decide +kernel
theorem dX11_edgeOf_40 : decode cX11_edgeOf 40 = .ok (.istore 5, 2) := by decide +kernel
theorem dX11_edgeOf_42 : decode cX11_edgeOf 42 = .ok (.iinc 6 1, 3) := by decide +kernel
theorem dX11_edgeOf_45 : decode cX11_edgeOf 45 = .ok (.goto (-39), 3) := by decide +kernel
theorem dX11_edgeOf_48 : decode cX11_edgeOf 48 = .ok (.iload 5, 2) := by decide +kernel
theorem dX11_edgeOf_50 : decode cX11_edgeOf 50 = .ok (.ireturn, 1) := by decide +kernel
theorem dX11_ofHundred_0 : decode cX11_ofHundred 0 = .ok (.iload_n 0, 1) := by decide +kernel
theorem dX11_ofHundred_1 : decode cX11_ofHundred 1 = .ok (.ifCond .ge 7, 3) := by decide +kernel
theorem dX11_ofHundred_4 : decode cX11_ofHundred 4 = .ok (.iconst 0, 1) := by decide +kernel
theorem dX11_ofHundred_5 : decode cX11_ofHundred 5 = .ok (.goto 15, 3) := by decide +kernel
theorem dX11_ofHundred_8 : decode cX11_ofHundred 8 = .ok (.iload_n 0, 1) := by decide +kernel
theorem dX11_ofHundred_9 : decode cX11_ofHundred 9 = .ok (.bipush 100, 2) := by decide +kernel
theorem dX11_ofHundred_11 : decode cX11_ofHundred 11 = .ok (.if_icmp .le 8, 3) := by decide +kernel
theorem dX11_ofHundred_14 : decode cX11_ofHundred 14 = .ok (.bipush 100, 2) := by decide +kernel
theorem dX11_ofHundred_16 : decode cX11_ofHundred 16 = .ok (.goto 4, 3) := by decide +kernel
theorem dX11_ofHundred_19 : decode cX11_ofHundred 19 = .ok (.iload_n 0, 1) := by decide +kernel
theorem dX11_ofHundred_20 : decode cX11_ofHundred 20 = .ok (.ireturn, 1) := by decide +kernel
theorem dX11_goalOf_0 : decode cX11_goalOf 0 = .ok (.aload_n 0, 1) := by decide +kernel
theorem dX11_goalOf_1 : decode cX11_goalOf 1 = .ok (.getfield 7, 3) := by decide +kernel
theorem dX11_goalOf_4 : decode cX11_goalOf 4 = .ok (.iload_n 1, 1) := by decide +kernel
theorem dX11_goalOf_5 : decode cX11_goalOf 5 = .ok (.bipush 40, 2) := by decide +kernel
theorem dX11_goalOf_7 : decode cX11_goalOf 7 = .ok (.iadd, 1) := by decide +kernel
theorem dX11_goalOf_8 : decode cX11_goalOf 8 = .ok (.aload_n 0, 1) := by decide +kernel
theorem dX11_goalOf_9 : decode cX11_goalOf 9 = .ok (.iload_n 3, 1) := by decide +kernel
theorem dX11_goalOf_10 : decode cX11_goalOf 10 = .ok (.iload 4, 2) := by decide +kernel
theorem dX11_goalOf_12 : decode cX11_goalOf 12 = .ok (.iconst 0, 1) := by decide +kernel
theorem dX11_goalOf_13 : decode cX11_goalOf 13 = .ok (.invokevirtual 156, 3) := by decide +kernel
theorem dX11_goalOf_16 : decode cX11_goalOf 16 = .ok (.iadd, 1) := by decide +kernel
theorem dX11_goalOf_17 : decode cX11_goalOf 17 = .ok (.iaload, 1) := by decide +kernel
theorem dX11_goalOf_18 : decode cX11_goalOf 18 = .ok (.aload_n 0, 1) := by decide +kernel
theorem dX11_goalOf_19 : decode cX11_goalOf 19 = .ok (.getfield 7, 3) := by decide +kernel
theorem dX11_goalOf_22 : decode cX11_goalOf 22 = .ok (.iload_n 1, 1) := by decide +kernel
theorem dX11_goalOf_23 : decode cX11_goalOf 23 = .ok (.bipush 40, 2) := by decide +kernel
theorem dX11_goalOf_25 : decode cX11_goalOf 25 = .ok (.iadd, 1) := by decide +kernel
theorem dX11_goalOf_26 : decode cX11_goalOf 26 = .ok (.aload_n 0, 1) := by decide +kernel
theorem dX11_goalOf_27 : decode cX11_goalOf 27 = .ok (.iload_n 3, 1) := by decide +kernel
theorem dX11_goalOf_28 : decode cX11_goalOf 28 = .ok (.iload 4, 2) := by decide +kernel
theorem dX11_goalOf_30 : decode cX11_goalOf 30 = .ok (.iconst 1, 1) := by decide +kernel
theorem dX11_goalOf_31 : decode cX11_goalOf 31 = .ok (.invokevirtual 156, 3) := by decide +kernel
theorem dX11_goalOf_34 : decode cX11_goalOf 34 = .ok (.iadd, 1) := by decide +kernel
theorem dX11_goalOf_35 : decode cX11_goalOf 35 = .ok (.iaload, 1) := by decide +kernel
theorem dX11_goalOf_36 : decode cX11_goalOf 36 = .ok (.isub, 1) := by decide +kernel
theorem dX11_goalOf_37 : decode cX11_goalOf 37 = .ok (.istore 6, 2) := by decide +kernel
theorem dX11_goalOf_39 : decode cX11_goalOf 39 = .ok (.iload 5, 2) := by decide +kernel
theorem dX11_goalOf_41 : decode cX11_goalOf 41 = .ok (.ifCond .eq 25, 3) := by decide +kernel
theorem dX11_goalOf_44 : decode cX11_goalOf 44 = .ok (.aload_n 0, 1) := by decide +kernel
theorem dX11_goalOf_45 : decode cX11_goalOf 45 = .ok (.getfield 7, 3) := by decide +kernel
theorem dX11_goalOf_48 : decode cX11_goalOf 48 = .ok (.iload_n 2, 1) := by decide +kernel
theorem dX11_goalOf_49 : decode cX11_goalOf 49 = .ok (.iaload, 1) := by decide +kernel
theorem dX11_goalOf_50 : decode cX11_goalOf 50 = .ok (.iload 6, 2) := by decide +kernel
theorem dX11_goalOf_52 : decode cX11_goalOf 52 = .ok (.iadd, 1) := by decide +kernel
theorem dX11_goalOf_53 : decode cX11_goalOf 53 = .ok (.aload_n 0, 1) := by decide +kernel
theorem dX11_goalOf_54 : decode cX11_goalOf 54 = .ok (.iload_n 1, 1) := by decide +kernel
theorem dX11_goalOf_55 : decode cX11_goalOf 55 = .ok (.iload_n 2, 1) := by decide +kernel
theorem dX11_goalOf_56 : decode cX11_goalOf 56 = .ok (.iload_n 3, 1) := by decide +kernel
theorem dX11_goalOf_57 : decode cX11_goalOf 57 = .ok (.iload 4, 2) := by decide +kernel
theorem dX11_goalOf_59 : decode cX11_goalOf 59 = .ok (.invokevirtual 178, 3) := by decide +kernel
theorem dX11_goalOf_62 : decode cX11_goalOf 62 = .ok (.iadd, 1) := by decide +kernel
theorem dX11_goalOf_63 : decode cX11_goalOf 63 = .ok (.goto 12, 3) := by decide +kernel
theorem dX11_goalOf_66 : decode cX11_goalOf 66 = .ok (.aload_n 0, 1) := by decide +kernel
theorem dX11_goalOf_67 : decode cX11_goalOf 67 = .ok (.getfield 7, 3) := by decide +kernel
theorem dX11_goalOf_70 : decode cX11_goalOf 70 = .ok (.iload_n 2, 1) := by decide +kernel
theorem dX11_goalOf_71 : decode cX11_goalOf 71 = .ok (.iaload, 1) := by decide +kernel
theorem dX11_goalOf_72 : decode cX11_goalOf 72 = .ok (.iload 6, 2) := by decide +kernel
theorem dX11_goalOf_74 : decode cX11_goalOf 74 = .ok (.isub, 1) := by decide +kernel
theorem dX11_goalOf_75 : decode cX11_goalOf 75 = .ok (.invokestatic 182, 3) := by decide +kernel
theorem dX11_goalOf_78 : decode cX11_goalOf 78 = .ok (.ireturn, 1) := by decide +kernel
theorem dX11_shots_0 : decode cX11_shots 0 = .ok (.iload_n 1, 1) := by decide +kernel
theorem dX11_shots_1 : decode cX11_shots 1 = .ok (.iconst 1, 1) := by decide +kernel
theorem dX11_shots_2 : decode cX11_shots 2 = .ok (.if_icmp .eq 8, 3) := by decide +kernel
theorem dX11_shots_5 : decode cX11_shots 5 = .ok (.iload_n 1, 1) := by decide +kernel
theorem dX11_shots_6 : decode cX11_shots 6 = .ok (.iconst 2, 1) := by decide +kernel
theorem dX11_shots_7 : decode cX11_shots 7 = .ok (.if_icmp .ne 9, 3) := by decide +kernel
theorem dX11_shots_10 : decode cX11_shots 10 = .ok (.ldc2_w 185, 3) := by decide +kernel
theorem dX11_shots_13 : decode cX11_shots 13 = .ok (.goto 4, 3) := by decide +kernel
theorem dX11_shots_16 : decode cX11_shots 16 = .ok (.lconst 1, 1) := by decide +kernel
theorem dX11_shots_17 : decode cX11_shots 17 = .ok (.lstore_n 2, 1) := by decide +kernel
theorem dX11_shots_18 : decode cX11_shots 18 = .ok (.iconst 0, 1) := by decide +kernel
theorem dX11_shots_19 : decode cX11_shots 19 = .ok (.istore 4, 2) := by decide +kernel
theorem dX11_shots_21 : decode cX11_shots 21 = .ok (.iload 4, 2) := by decide +kernel
theorem dX11_shots_23 : decode cX11_shots 23 = .ok (.iconst 3, 1) := by decide +kernel
theorem dX11_shots_24 : decode cX11_shots 24 = .ok (.if_icmp .ge 28, 3) := by decide +kernel
theorem dX11_shots_27 : decode cX11_shots 27 = .ok (.lload_n 2, 1) := by decide +kernel
theorem dX11_shots_28 : decode cX11_shots 28 = .ok (.iload 4, 2) := by decide +kernel
theorem dX11_shots_30 : decode cX11_shots 30 = .ok (.iload_n 1, 1) := by decide +kernel
theorem dX11_shots_31 : decode cX11_shots 31 = .ok (.if_icmp .ge 8, 3) := by decide +kernel
theorem dX11_shots_34 : decode cX11_shots 34 = .ok (.iload_n 0, 1) := by decide +kernel
theorem dX11_shots_35 : decode cX11_shots 35 = .ok (.i2l, 1) := by decide +kernel
theorem dX11_shots_36 : decode cX11_shots 36 = .ok (.goto 8, 3) := by decide +kernel
theorem dX11_shots_39 : decode cX11_shots 39 = .ok (.bipush 100, 2) := by decide +kernel
theorem dX11_shots_41 : decode cX11_shots 41 = .ok (.iload_n 0, 1) := by decide +kernel
theorem dX11_shots_42 : decode cX11_shots 42 = .ok (.isub, 1) := by decide +kernel
theorem dX11_shots_43 : decode cX11_shots 43 = .ok (.i2l, 1) := by decide +kernel
theorem dX11_shots_44 : decode cX11_shots 44 = .ok (.lmul, 1) := by decide +kernel
theorem dX11_shots_45 : decode cX11_shots 45 = .ok (.lstore_n 2, 1) := by decide +kernel
theorem dX11_shots_46 : decode cX11_shots 46 = .ok (.iinc 4 1, 3) := by decide +kernel
theorem dX11_shots_49 : decode cX11_shots 49 = .ok (.goto (-28), 3) := by decide +kernel
theorem dX11_shots_52 : decode cX11_shots 52 = .ok (.lload_n 2, 1) := by decide +kernel
theorem dX11_shots_53 : decode cX11_shots 53 = .ok (.lreturn, 1) := by decide +kernel
theorem dX11_chanceOf_0 : decode cX11_chanceOf 0 = .ok (.aload_n 0, 1) := by decide +kernel
theorem dX11_chanceOf_1 : decode cX11_chanceOf 1 = .ok (.iload_n 1, 1) := by decide +kernel
theorem dX11_chanceOf_2 : decode cX11_chanceOf 2 = .ok (.iload_n 2, 1) := by decide +kernel
theorem dX11_chanceOf_3 : decode cX11_chanceOf 3 = .ok (.iload_n 3, 1) := by decide +kernel
theorem dX11_chanceOf_4 : decode cX11_chanceOf 4 = .ok (.iload 4, 2) := by decide +kernel
theorem dX11_chanceOf_6 : decode cX11_chanceOf 6 = .ok (.iconst 1, 1) := by decide +kernel
theorem dX11_chanceOf_7 : decode cX11_chanceOf 7 = .ok (.invokevirtual 187, 3) := by decide +kernel
theorem dX11_chanceOf_10 : decode cX11_chanceOf 10 = .ok (.istore 6, 2) := by decide +kernel
theorem dX11_chanceOf_12 : decode cX11_chanceOf 12 = .ok (.aload_n 0, 1) := by decide +kernel
theorem dX11_chanceOf_13 : decode cX11_chanceOf 13 = .ok (.iload_n 1, 1) := by decide +kernel
theorem dX11_chanceOf_14 : decode cX11_chanceOf 14 = .ok (.iload_n 2, 1) := by decide +kernel
theorem dX11_chanceOf_15 : decode cX11_chanceOf 15 = .ok (.iload_n 3, 1) := by decide +kernel
theorem dX11_chanceOf_16 : decode cX11_chanceOf 16 = .ok (.iload 4, 2) := by decide +kernel
theorem dX11_chanceOf_18 : decode cX11_chanceOf 18 = .ok (.iconst 0, 1) := by decide +kernel
theorem dX11_chanceOf_19 : decode cX11_chanceOf 19 = .ok (.invokevirtual 187, 3) := by decide +kernel
theorem dX11_chanceOf_22 : decode cX11_chanceOf 22 = .ok (.istore 7, 2) := by decide +kernel
theorem dX11_chanceOf_24 : decode cX11_chanceOf 24 = .ok (.lconst 0, 1) := by decide +kernel
theorem dX11_chanceOf_25 : decode cX11_chanceOf 25 = .ok (.lstore 8, 2) := by decide +kernel
theorem dX11_chanceOf_27 : decode cX11_chanceOf 27 = .ok (.iconst 0, 1) := by decide +kernel
theorem dX11_chanceOf_28 : decode cX11_chanceOf 28 = .ok (.istore 10, 2) := by decide +kernel
theorem dX11_chanceOf_30 : decode cX11_chanceOf 30 = .ok (.iload 10, 2) := by decide +kernel
theorem dX11_chanceOf_32 : decode cX11_chanceOf 32 = .ok (.iconst 4, 1) := by decide +kernel
theorem dX11_chanceOf_33 : decode cX11_chanceOf 33 = .ok (.if_icmp .ge 80, 3) := by decide +kernel
theorem dX11_chanceOf_36 : decode cX11_chanceOf 36 = .ok (.iconst 0, 1) := by decide +kernel
theorem dX11_chanceOf_37 : decode cX11_chanceOf 37 = .ok (.istore 11, 2) := by decide +kernel
theorem dX11_chanceOf_39 : decode cX11_chanceOf 39 = .ok (.iload 11, 2) := by decide +kernel
theorem dX11_chanceOf_41 : decode cX11_chanceOf 41 = .ok (.iconst 4, 1) := by decide +kernel
theorem dX11_chanceOf_42 : decode cX11_chanceOf 42 = .ok (.if_icmp .ge 65, 3) := by decide +kernel
theorem dX11_chanceOf_45 : decode cX11_chanceOf 45 = .ok (.iload 10, 2) := by decide +kernel
theorem dX11_chanceOf_47 : decode cX11_chanceOf 47 = .ok (.iload 11, 2) := by decide +kernel
theorem dX11_chanceOf_49 : decode cX11_chanceOf 49 = .ok (.if_icmp .le 7, 3) := by decide +kernel
theorem dX11_chanceOf_52 : decode cX11_chanceOf 52 = .ok (.iconst 0, 1) := by decide +kernel
theorem dX11_chanceOf_53 : decode cX11_chanceOf 53 = .ok (.goto 15, 3) := by decide +kernel
theorem dX11_chanceOf_56 : decode cX11_chanceOf 56 = .ok (.iload 10, 2) := by decide +kernel
theorem dX11_chanceOf_58 : decode cX11_chanceOf 58 = .ok (.iload 11, 2) := by decide +kernel
theorem dX11_chanceOf_60 : decode cX11_chanceOf 60 = .ok (.if_icmp .ne 7, 3) := by decide +kernel
theorem dX11_chanceOf_63 : decode cX11_chanceOf 63 = .ok (.iconst 1, 1) := by decide +kernel
theorem dX11_chanceOf_64 : decode cX11_chanceOf 64 = .ok (.goto 4, 3) := by decide +kernel
theorem dX11_chanceOf_67 : decode cX11_chanceOf 67 = .ok (.iconst 2, 1) := by decide +kernel
theorem dX11_chanceOf_68 : decode cX11_chanceOf 68 = .ok (.istore 12, 2) := by decide +kernel
theorem dX11_chanceOf_70 : decode cX11_chanceOf 70 = .ok (.lload 8, 2) := by decide +kernel
theorem dX11_chanceOf_72 : decode cX11_chanceOf 72 = .ok (.iload 12, 2) := by decide +kernel
theorem dX11_chanceOf_74 : decode cX11_chanceOf 74 = .ok (.iload 5, 2) := by decide +kernel
theorem dX11_chanceOf_76 : decode cX11_chanceOf 76 = .ok (.if_icmp .ne 21, 3) := by decide +kernel
theorem dX11_chanceOf_79 : decode cX11_chanceOf 79 = .ok (.iload 6, 2) := by decide +kernel
theorem dX11_chanceOf_81 : decode cX11_chanceOf 81 = .ok (.iload 10, 2) := by decide +kernel
theorem dX11_chanceOf_83 : decode cX11_chanceOf 83 = .ok (.invokestatic 191, 3) := by decide +kernel
theorem dX11_chanceOf_86 : decode cX11_chanceOf 86 = .ok (.iload 7, 2) := by decide +kernel
theorem dX11_chanceOf_88 : decode cX11_chanceOf 88 = .ok (.iload 11, 2) := by decide +kernel
theorem dX11_chanceOf_90 : decode cX11_chanceOf 90 = .ok (.invokestatic 191, 3) := by decide +kernel
theorem dX11_chanceOf_93 : decode cX11_chanceOf 93 = .ok (.lmul, 1) := by decide +kernel
theorem dX11_chanceOf_94 : decode cX11_chanceOf 94 = .ok (.goto 4, 3) := by decide +kernel
theorem dX11_chanceOf_97 : decode cX11_chanceOf 97 = .ok (.lconst 0, 1) := by decide +kernel
theorem dX11_chanceOf_98 : decode cX11_chanceOf 98 = .ok (.ladd, 1) := by decide +kernel
theorem dX11_chanceOf_99 : decode cX11_chanceOf 99 = .ok (.lstore 8, 2) := by decide +kernel
theorem dX11_chanceOf_101 : decode cX11_chanceOf 101 = .ok (.iinc 11 1, 3) := by decide +kernel
theorem dX11_chanceOf_104 : decode cX11_chanceOf 104 = .ok (.goto (-65), 3) := by decide +kernel
theorem dX11_chanceOf_107 : decode cX11_chanceOf 107 = .ok (.iinc 10 1, 3) := by decide +kernel
theorem dX11_chanceOf_110 : decode cX11_chanceOf 110 = .ok (.goto (-80), 3) := by decide +kernel
theorem dX11_chanceOf_113 : decode cX11_chanceOf 113 = .ok (.lload 8, 2) := by decide +kernel
theorem dX11_chanceOf_115 : decode cX11_chanceOf 115 = .ok (.lreturn, 1) := by decide +kernel
theorem dX11_hopeOf_0 : decode cX11_hopeOf 0 = .ok (.ldc2_w 185, 3) := by decide +kernel
theorem dX11_hopeOf_3 : decode cX11_hopeOf 3 = .ok (.aload_n 0, 1) := by decide +kernel
theorem dX11_hopeOf_4 : decode cX11_hopeOf 4 = .ok (.iload_n 1, 1) := by decide +kernel
theorem dX11_hopeOf_5 : decode cX11_hopeOf 5 = .ok (.iload_n 2, 1) := by decide +kernel
theorem dX11_hopeOf_6 : decode cX11_hopeOf 6 = .ok (.iload_n 3, 1) := by decide +kernel
theorem dX11_hopeOf_7 : decode cX11_hopeOf 7 = .ok (.iload 4, 2) := by decide +kernel
theorem dX11_hopeOf_9 : decode cX11_hopeOf 9 = .ok (.iconst 0, 1) := by decide +kernel
theorem dX11_hopeOf_10 : decode cX11_hopeOf 10 = .ok (.invokevirtual 195, 3) := by decide +kernel
theorem dX11_hopeOf_13 : decode cX11_hopeOf 13 = .ok (.lmul, 1) := by decide +kernel
theorem dX11_hopeOf_14 : decode cX11_hopeOf 14 = .ok (.aload_n 0, 1) := by decide +kernel
theorem dX11_hopeOf_15 : decode cX11_hopeOf 15 = .ok (.iload_n 1, 1) := by decide +kernel
theorem dX11_hopeOf_16 : decode cX11_hopeOf 16 = .ok (.iload_n 2, 1) := by decide +kernel
theorem dX11_hopeOf_17 : decode cX11_hopeOf 17 = .ok (.iload_n 3, 1) := by decide +kernel
theorem dX11_hopeOf_18 : decode cX11_hopeOf 18 = .ok (.iload 4, 2) := by decide +kernel
theorem dX11_hopeOf_20 : decode cX11_hopeOf 20 = .ok (.iconst 1, 1) := by decide +kernel
theorem dX11_hopeOf_21 : decode cX11_hopeOf 21 = .ok (.invokevirtual 195, 3) := by decide +kernel
theorem dX11_hopeOf_24 : decode cX11_hopeOf 24 = .ok (.ladd, 1) := by decide +kernel
theorem dX11_hopeOf_25 : decode cX11_hopeOf 25 = .ok (.lreturn, 1) := by decide +kernel
theorem dX11_isGame_0 : decode cX11_isGame 0 = .ok (.aload_n 0, 1) := by decide +kernel
theorem dX11_isGame_1 : decode cX11_isGame 1 = .ok (.iload_n 1, 1) := by decide +kernel
theorem dX11_isGame_2 : decode cX11_isGame 2 = .ok (.iload_n 3, 1) := by decide +kernel
theorem dX11_isGame_3 : decode cX11_isGame 3 = .ok (.invokevirtual 199, 3) := by decide +kernel
theorem dX11_isGame_6 : decode cX11_isGame 6 = .ok (.ifCond .eq 32, 3) := by decide +kernel
theorem dX11_isGame_9 : decode cX11_isGame 9 = .ok (.aload_n 0, 1) := by decide +kernel
theorem dX11_isGame_10 : decode cX11_isGame 10 = .ok (.iconst 1, 1) := by decide +kernel
theorem dX11_isGame_11 : decode cX11_isGame 11 = .ok (.iload_n 2, 1) := by decide +kernel
theorem dX11_isGame_12 : decode cX11_isGame 12 = .ok (.invokevirtual 130, 3) := by decide +kernel
theorem dX11_isGame_15 : decode cX11_isGame 15 = .ok (.ifCond .eq 23, 3) := by decide +kernel
theorem dX11_isGame_18 : decode cX11_isGame 18 = .ok (.iload 4, 2) := by decide +kernel
theorem dX11_isGame_20 : decode cX11_isGame 20 = .ok (.iconst 0, 1) := by decide +kernel
theorem dX11_isGame_21 : decode cX11_isGame 21 = .ok (.aload_n 0, 1) := by decide +kernel
theorem dX11_isGame_22 : decode cX11_isGame 22 = .ok (.iload_n 3, 1) := by decide +kernel
theorem dX11_isGame_23 : decode cX11_isGame 23 = .ok (.invokevirtual 153, 3) := by decide +kernel
theorem dX11_isGame_26 : decode cX11_isGame 26 = .ok (.iconst 1, 1) := by decide +kernel
theorem dX11_isGame_27 : decode cX11_isGame 27 = .ok (.isub, 1) := by decide +kernel
theorem dX11_isGame_28 : decode cX11_isGame 28 = .ok (.invokestatic 90, 3) := by decide +kernel
theorem dX11_isGame_31 : decode cX11_isGame 31 = .ok (.ifCond .eq 7, 3) := by decide +kernel
theorem dX11_isGame_34 : decode cX11_isGame 34 = .ok (.iconst 1, 1) := by decide +kernel
theorem dX11_isGame_35 : decode cX11_isGame 35 = .ok (.goto 4, 3) := by decide +kernel
theorem dX11_isGame_38 : decode cX11_isGame 38 = .ok (.iconst 0, 1) := by decide +kernel
theorem dX11_isGame_39 : decode cX11_isGame 39 = .ok (.ireturn, 1) := by decide +kernel
theorem dX11_worth_0 : decode cX11_worth 0 = .ok (.aload_n 0, 1) := by decide +kernel
theorem dX11_worth_1 : decode cX11_worth 1 = .ok (.iload_n 1, 1) := by decide +kernel
theorem dX11_worth_2 : decode cX11_worth 2 = .ok (.iload_n 2, 1) := by decide +kernel
theorem dX11_worth_3 : decode cX11_worth 3 = .ok (.iload_n 3, 1) := by decide +kernel
theorem dX11_worth_4 : decode cX11_worth 4 = .ok (.iload 4, 2) := by decide +kernel
theorem dX11_worth_6 : decode cX11_worth 6 = .ok (.invokevirtual 202, 3) := by decide +kernel
theorem dX11_worth_9 : decode cX11_worth 9 = .ok (.ifCond .eq 14, 3) := by decide +kernel
theorem dX11_worth_12 : decode cX11_worth 12 = .ok (.iload 5, 2) := by decide +kernel
theorem dX11_worth_14 : decode cX11_worth 14 = .ok (.iconst 0, 1) := by decide +kernel
theorem dX11_worth_15 : decode cX11_worth 15 = .ok (.bipush 9, 2) := by decide +kernel
theorem dX11_worth_17 : decode cX11_worth 17 = .ok (.invokestatic 90, 3) := by decide +kernel
theorem dX11_worth_20 : decode cX11_worth 20 = .ok (.ifCond .ne 5, 3) := by decide +kernel
theorem dX11_worth_23 : decode cX11_worth 23 = .ok (.iconst (-1), 1) := by decide +kernel
theorem dX11_worth_24 : decode cX11_worth 24 = .ok (.ireturn, 1) := by decide +kernel
theorem dX11_worth_25 : decode cX11_worth 25 = .ok (.iconst 0, 1) := by decide +kernel
theorem dX11_worth_26 : decode cX11_worth 26 = .ok (.iload_n 1, 1) := by decide +kernel
theorem dX11_worth_27 : decode cX11_worth 27 = .ok (.invokestatic 150, 3) := by decide +kernel
theorem dX11_worth_30 : decode cX11_worth 30 = .ok (.istore 6, 2) := by decide +kernel
theorem dX11_worth_32 : decode cX11_worth 32 = .ok (.iconst 1, 1) := by decide +kernel
theorem dX11_worth_33 : decode cX11_worth 33 = .ok (.iload_n 2, 1) := by decide +kernel
theorem dX11_worth_34 : decode cX11_worth 34 = .ok (.invokestatic 150, 3) := by decide +kernel
theorem dX11_worth_37 : decode cX11_worth 37 = .ok (.istore 7, 2) := by decide +kernel
theorem dX11_worth_39 : decode cX11_worth 39 = .ok (.iload 5, 2) := by decide +kernel
theorem dX11_worth_41 : decode cX11_worth 41 = .ok (.bipush 6, 2) := by decide +kernel
theorem dX11_worth_43 : decode cX11_worth 43 = .ok (.if_icmp .ge 17, 3) := by decide +kernel
theorem dX11_worth_46 : decode cX11_worth 46 = .ok (.aload_n 0, 1) := by decide +kernel
theorem dX11_worth_47 : decode cX11_worth 47 = .ok (.iload 6, 2) := by decide +kernel
theorem dX11_worth_49 : decode cX11_worth 49 = .ok (.iload 7, 2) := by decide +kernel
theorem dX11_worth_51 : decode cX11_worth 51 = .ok (.iload_n 3, 1) := by decide +kernel
theorem dX11_worth_52 : decode cX11_worth 52 = .ok (.iload 4, 2) := by decide +kernel
theorem dX11_worth_54 : decode cX11_worth 54 = .ok (.iload 5, 2) := by decide +kernel
theorem dX11_worth_56 : decode cX11_worth 56 = .ok (.invokevirtual 175, 3) := by decide +kernel
theorem dX11_worth_59 : decode cX11_worth 59 = .ok (.ireturn, 1) := by decide +kernel
theorem dX11_worth_60 : decode cX11_worth 60 = .ok (.iload 5, 2) := by decide +kernel
theorem dX11_worth_62 : decode cX11_worth 62 = .ok (.bipush 6, 2) := by decide +kernel
theorem dX11_worth_64 : decode cX11_worth 64 = .ok (.if_icmp .ne 17, 3) := by decide +kernel
theorem dX11_worth_67 : decode cX11_worth 67 = .ok (.aload_n 0, 1) := by decide +kernel
theorem dX11_worth_68 : decode cX11_worth 68 = .ok (.iload 6, 2) := by decide +kernel
theorem dX11_worth_70 : decode cX11_worth 70 = .ok (.iload 7, 2) := by decide +kernel
theorem dX11_worth_72 : decode cX11_worth 72 = .ok (.iload_n 3, 1) := by decide +kernel
theorem dX11_worth_73 : decode cX11_worth 73 = .ok (.iload 4, 2) := by decide +kernel
theorem dX11_worth_75 : decode cX11_worth 75 = .ok (.invokevirtual 178, 3) := by decide +kernel
theorem dX11_worth_78 : decode cX11_worth 78 = .ok (.goto 45, 3) := by decide +kernel
theorem dX11_worth_81 : decode cX11_worth 81 = .ok (.iload 5, 2) := by decide +kernel
theorem dX11_worth_83 : decode cX11_worth 83 = .ok (.bipush 7, 2) := by decide +kernel
theorem dX11_worth_85 : decode cX11_worth 85 = .ok (.if_icmp .ne 15, 3) := by decide +kernel
theorem dX11_worth_88 : decode cX11_worth 88 = .ok (.aload_n 0, 1) := by decide +kernel
theorem dX11_worth_89 : decode cX11_worth 89 = .ok (.iload 6, 2) := by decide +kernel
theorem dX11_worth_91 : decode cX11_worth 91 = .ok (.iload_n 3, 1) := by decide +kernel
theorem dX11_worth_92 : decode cX11_worth 92 = .ok (.iload 4, 2) := by decide +kernel
theorem dX11_worth_94 : decode cX11_worth 94 = .ok (.invokevirtual 168, 3) := by decide +kernel
theorem dX11_worth_97 : decode cX11_worth 97 = .ok (.goto 26, 3) := by decide +kernel
theorem dX11_worth_100 : decode cX11_worth 100 = .ok (.aload_n 0, 1) := by decide +kernel
theorem dX11_worth_101 : decode cX11_worth 101 = .ok (.iload 6, 2) := by decide +kernel
theorem dX11_worth_103 : decode cX11_worth 103 = .ok (.iload 7, 2) := by decide +kernel
theorem dX11_worth_105 : decode cX11_worth 105 = .ok (.iload_n 3, 1) := by decide +kernel
theorem dX11_worth_106 : decode cX11_worth 106 = .ok (.iload 4, 2) := by decide +kernel
theorem dX11_worth_108 : decode cX11_worth 108 = .ok (.iload 5, 2) := by decide +kernel
theorem dX11_worth_110 : decode cX11_worth 110 = .ok (.bipush 8, 2) := by decide +kernel
theorem dX11_worth_112 : decode cX11_worth 112 = .ok (.if_icmp .ne 7, 3) := by decide +kernel
theorem dX11_worth_115 : decode cX11_worth 115 = .ok (.iconst 1, 1) := by decide +kernel
theorem dX11_worth_116 : decode cX11_worth 116 = .ok (.goto 4, 3) := by decide +kernel
theorem dX11_worth_119 : decode cX11_worth 119 = .ok (.iconst 0, 1) := by decide +kernel
theorem dX11_worth_120 : decode cX11_worth 120 = .ok (.invokevirtual 187, 3) := by decide +kernel
theorem dX11_worth_123 : decode cX11_worth 123 = .ok (.ireturn, 1) := by decide +kernel
theorem dX11_chance_0 : decode cX11_chance 0 = .ok (.aload_n 0, 1) := by decide +kernel
theorem dX11_chance_1 : decode cX11_chance 1 = .ok (.iload_n 1, 1) := by decide +kernel
theorem dX11_chance_2 : decode cX11_chance 2 = .ok (.iload_n 2, 1) := by decide +kernel
theorem dX11_chance_3 : decode cX11_chance 3 = .ok (.iload_n 3, 1) := by decide +kernel
theorem dX11_chance_4 : decode cX11_chance 4 = .ok (.iload 4, 2) := by decide +kernel
theorem dX11_chance_6 : decode cX11_chance 6 = .ok (.invokevirtual 202, 3) := by decide +kernel
theorem dX11_chance_9 : decode cX11_chance 9 = .ok (.ifCond .eq 13, 3) := by decide +kernel
theorem dX11_chance_12 : decode cX11_chance 12 = .ok (.iload 5, 2) := by decide +kernel
theorem dX11_chance_14 : decode cX11_chance 14 = .ok (.iconst 0, 1) := by decide +kernel
theorem dX11_chance_15 : decode cX11_chance 15 = .ok (.iconst 3, 1) := by decide +kernel
theorem dX11_chance_16 : decode cX11_chance 16 = .ok (.invokestatic 90, 3) := by decide +kernel
theorem dX11_chance_19 : decode cX11_chance 19 = .ok (.ifCond .ne 7, 3) := by decide +kernel
theorem dX11_chance_22 : decode cX11_chance 22 = .ok (.ldc2_w 206, 3) := by decide +kernel
theorem dX11_chance_25 : decode cX11_chance 25 = .ok (.lreturn, 1) := by decide +kernel
theorem dX11_chance_26 : decode cX11_chance 26 = .ok (.iload 5, 2) := by decide +kernel
theorem dX11_chance_28 : decode cX11_chance 28 = .ok (.iconst 3, 1) := by decide +kernel
theorem dX11_chance_29 : decode cX11_chance 29 = .ok (.if_icmp .ne 23, 3) := by decide +kernel
theorem dX11_chance_32 : decode cX11_chance 32 = .ok (.aload_n 0, 1) := by decide +kernel
theorem dX11_chance_33 : decode cX11_chance 33 = .ok (.iconst 0, 1) := by decide +kernel
theorem dX11_chance_34 : decode cX11_chance 34 = .ok (.iload_n 1, 1) := by decide +kernel
theorem dX11_chance_35 : decode cX11_chance 35 = .ok (.invokestatic 150, 3) := by decide +kernel
theorem dX11_chance_38 : decode cX11_chance 38 = .ok (.iconst 1, 1) := by decide +kernel
theorem dX11_chance_39 : decode cX11_chance 39 = .ok (.iload_n 2, 1) := by decide +kernel
theorem dX11_chance_40 : decode cX11_chance 40 = .ok (.invokestatic 150, 3) := by decide +kernel
theorem dX11_chance_43 : decode cX11_chance 43 = .ok (.iload_n 3, 1) := by decide +kernel
theorem dX11_chance_44 : decode cX11_chance 44 = .ok (.iload 4, 2) := by decide +kernel
theorem dX11_chance_46 : decode cX11_chance 46 = .ok (.invokevirtual 208, 3) := by decide +kernel
theorem dX11_chance_49 : decode cX11_chance 49 = .ok (.goto 22, 3) := by decide +kernel
theorem dX11_chance_52 : decode cX11_chance 52 = .ok (.aload_n 0, 1) := by decide +kernel
theorem dX11_chance_53 : decode cX11_chance 53 = .ok (.iconst 0, 1) := by decide +kernel
theorem dX11_chance_54 : decode cX11_chance 54 = .ok (.iload_n 1, 1) := by decide +kernel
theorem dX11_chance_55 : decode cX11_chance 55 = .ok (.invokestatic 150, 3) := by decide +kernel
theorem dX11_chance_58 : decode cX11_chance 58 = .ok (.iconst 1, 1) := by decide +kernel
theorem dX11_chance_59 : decode cX11_chance 59 = .ok (.iload_n 2, 1) := by decide +kernel
theorem dX11_chance_60 : decode cX11_chance 60 = .ok (.invokestatic 150, 3) := by decide +kernel
theorem dX11_chance_63 : decode cX11_chance 63 = .ok (.iload_n 3, 1) := by decide +kernel
theorem dX11_chance_64 : decode cX11_chance 64 = .ok (.iload 4, 2) := by decide +kernel
theorem dX11_chance_66 : decode cX11_chance 66 = .ok (.iload 5, 2) := by decide +kernel
theorem dX11_chance_68 : decode cX11_chance 68 = .ok (.invokevirtual 195, 3) := by decide +kernel
theorem dX11_chance_71 : decode cX11_chance 71 = .ok (.lreturn, 1) := by decide +kernel
theorem dX11_drawn_0 : decode cX11_drawn 0 = .ok (.aload_n 0, 1) := by decide +kernel
theorem dX11_drawn_1 : decode cX11_drawn 1 = .ok (.aload_n 0, 1) := by decide +kernel
theorem dX11_drawn_2 : decode cX11_drawn 2 = .ok (.getfield 212, 3) := by decide +kernel
theorem dX11_drawn_5 : decode cX11_drawn 5 = .ok (.ldc 215, 2) := by decide +kernel
theorem dX11_drawn_7 : decode cX11_drawn 7 = .ok (.imul, 1) := by decide +kernel
theorem dX11_drawn_8 : decode cX11_drawn 8 = .ok (.sipush 12345, 3) := by decide +kernel
theorem dX11_drawn_11 : decode cX11_drawn 11 = .ok (.iadd, 1) := by decide +kernel
theorem dX11_drawn_12 : decode cX11_drawn 12 = .ok (.putfield 212, 3) := by decide +kernel
theorem dX11_drawn_15 : decode cX11_drawn 15 = .ok (.aload_n 0, 1) := by decide +kernel
theorem dX11_drawn_16 : decode cX11_drawn 16 = .ok (.getfield 212, 3) := by decide +kernel
theorem dX11_drawn_19 : decode cX11_drawn 19 = .ok (.bipush 16, 2) := by decide +kernel
theorem dX11_drawn_21 : decode cX11_drawn 21 = .ok (.iushr, 1) := by decide +kernel
theorem dX11_drawn_22 : decode cX11_drawn 22 = .ok (.iload_n 1, 1) := by decide +kernel
theorem dX11_drawn_23 : decode cX11_drawn 23 = .ok (.irem, 1) := by decide +kernel
theorem dX11_drawn_24 : decode cX11_drawn 24 = .ok (.ireturn, 1) := by decide +kernel
theorem dX11_goals_0 : decode cX11_goals 0 = .ok (.iconst 0, 1) := by decide +kernel
theorem dX11_goals_1 : decode cX11_goals 1 = .ok (.istore_n 2, 1) := by decide +kernel
theorem dX11_goals_2 : decode cX11_goals 2 = .ok (.iconst 0, 1) := by decide +kernel
theorem dX11_goals_3 : decode cX11_goals 3 = .ok (.istore_n 3, 1) := by decide +kernel
theorem dX11_goals_4 : decode cX11_goals 4 = .ok (.iload_n 3, 1) := by decide +kernel
theorem dX11_goals_5 : decode cX11_goals 5 = .ok (.iconst 3, 1) := by decide +kernel
theorem dX11_goals_6 : decode cX11_goals 6 = .ok (.if_icmp .ge 27, 3) := by decide +kernel
theorem dX11_goals_9 : decode cX11_goals 9 = .ok (.iload_n 2, 1) := by decide +kernel
theorem dX11_goals_10 : decode cX11_goals 10 = .ok (.aload_n 0, 1) := by decide +kernel
theorem dX11_goals_11 : decode cX11_goals 11 = .ok (.bipush 100, 2) := by decide +kernel
theorem dX11_goals_13 : decode cX11_goals 13 = .ok (.invokevirtual 216, 3) := by decide +kernel
theorem dX11_goals_16 : decode cX11_goals 16 = .ok (.iload_n 1, 1) := by decide +kernel
theorem dX11_goals_17 : decode cX11_goals 17 = .ok (.if_icmp .ge 7, 3) := by decide +kernel
theorem dX11_goals_20 : decode cX11_goals 20 = .ok (.iconst 1, 1) := by decide +kernel
theorem dX11_goals_21 : decode cX11_goals 21 = .ok (.goto 4, 3) := by decide +kernel
theorem dX11_goals_24 : decode cX11_goals 24 = .ok (.iconst 0, 1) := by decide +kernel
theorem dX11_goals_25 : decode cX11_goals 25 = .ok (.iadd, 1) := by decide +kernel
theorem dX11_goals_26 : decode cX11_goals 26 = .ok (.istore_n 2, 1) := by decide +kernel
theorem dX11_goals_27 : decode cX11_goals 27 = .ok (.iinc 3 1, 3) := by decide +kernel
theorem dX11_goals_30 : decode cX11_goals 30 = .ok (.goto (-26), 3) := by decide +kernel
theorem dX11_goals_33 : decode cX11_goals 33 = .ok (.iload_n 2, 1) := by decide +kernel
theorem dX11_goals_34 : decode cX11_goals 34 = .ok (.ireturn, 1) := by decide +kernel
theorem dX11_noteAt_0 : decode cX11_noteAt 0 = .ok (.aload_n 0, 1) := by decide +kernel
theorem dX11_noteAt_1 : decode cX11_noteAt 1 = .ok (.getfield 7, 3) := by decide +kernel
theorem dX11_noteAt_4 : decode cX11_noteAt 4 = .ok (.sipush 1730, 3) := by decide +kernel
theorem dX11_noteAt_7 : decode cX11_noteAt 7 = .ok (.bipush 10, 2) := by decide +kernel
theorem dX11_noteAt_9 : decode cX11_noteAt 9 = .ok (.iload_n 1, 1) := by decide +kernel
theorem dX11_noteAt_10 : decode cX11_noteAt 10 = .ok (.imul, 1) := by decide +kernel
theorem dX11_noteAt_11 : decode cX11_noteAt 11 = .ok (.iadd, 1) := by decide +kernel
theorem dX11_noteAt_12 : decode cX11_noteAt 12 = .ok (.iload_n 2, 1) := by decide +kernel
theorem dX11_noteAt_13 : decode cX11_noteAt 13 = .ok (.iadd, 1) := by decide +kernel
theorem dX11_noteAt_14 : decode cX11_noteAt 14 = .ok (.iaload, 1) := by decide +kernel
theorem dX11_noteAt_15 : decode cX11_noteAt 15 = .ok (.ireturn, 1) := by decide +kernel
theorem dX11_notes_0 : decode cX11_notes 0 = .ok (.aload_n 0, 1) := by decide +kernel
theorem dX11_notes_1 : decode cX11_notes 1 = .ok (.getfield 7, 3) := by decide +kernel
theorem dX11_notes_4 : decode cX11_notes 4 = .ok (.sipush 1730, 3) := by decide +kernel
theorem dX11_notes_7 : decode cX11_notes 7 = .ok (.bipush 10, 2) := by decide +kernel
theorem dX11_notes_9 : decode cX11_notes 9 = .ok (.iload_n 1, 1) := by decide +kernel
theorem dX11_notes_10 : decode cX11_notes 10 = .ok (.imul, 1) := by decide +kernel
theorem dX11_notes_11 : decode cX11_notes 11 = .ok (.iadd, 1) := by decide +kernel
theorem dX11_notes_12 : decode cX11_notes 12 = .ok (.iload_n 2, 1) := by decide +kernel
theorem dX11_notes_13 : decode cX11_notes 13 = .ok (.iadd, 1) := by decide +kernel
theorem dX11_notes_14 : decode cX11_notes 14 = .ok (.iload_n 3, 1) := by decide +kernel
theorem dX11_notes_15 : decode cX11_notes 15 = .ok (.iastore, 1) := by decide +kernel
theorem dX11_notes_16 : decode cX11_notes 16 = .ok (.return_, 1) := by decide +kernel
theorem dX11_play_0 : decode cX11_play 0 = .ok (.aload_n 0, 1) := by decide +kernel
theorem dX11_play_1 : decode cX11_play 1 = .ok (.iload_n 1, 1) := by decide +kernel
theorem dX11_play_2 : decode cX11_play 2 = .ok (.iload_n 3, 1) := by decide +kernel
theorem dX11_play_3 : decode cX11_play 3 = .ok (.invokevirtual 199, 3) := by decide +kernel
theorem dX11_play_6 : decode cX11_play 6 = .ok (.ifCond .eq 40, 3) := by decide +kernel
theorem dX11_play_9 : decode cX11_play 9 = .ok (.aload_n 0, 1) := by decide +kernel
theorem dX11_play_10 : decode cX11_play 10 = .ok (.iconst 1, 1) := by decide +kernel
theorem dX11_play_11 : decode cX11_play 11 = .ok (.iload_n 2, 1) := by decide +kernel
theorem dX11_play_12 : decode cX11_play 12 = .ok (.invokevirtual 130, 3) := by decide +kernel
theorem dX11_play_15 : decode cX11_play 15 = .ok (.ifCond .eq 31, 3) := by decide +kernel
theorem dX11_play_18 : decode cX11_play 18 = .ok (.iload 5, 2) := by decide +kernel
theorem dX11_play_20 : decode cX11_play 20 = .ok (.iconst 0, 1) := by decide +kernel
theorem dX11_play_21 : decode cX11_play 21 = .ok (.bipush 59, 2) := by decide +kernel
theorem dX11_play_23 : decode cX11_play 23 = .ok (.invokestatic 90, 3) := by decide +kernel
theorem dX11_play_26 : decode cX11_play 26 = .ok (.ifCond .eq 20, 3) := by decide +kernel
theorem dX11_play_29 : decode cX11_play 29 = .ok (.aload_n 0, 1) := by decide +kernel
theorem dX11_play_30 : decode cX11_play 30 = .ok (.getfield 7, 3) := by decide +kernel
theorem dX11_play_33 : decode cX11_play 33 = .ok (.iconst 3, 1) := by decide +kernel
theorem dX11_play_34 : decode cX11_play 34 = .ok (.iaload, 1) := by decide +kernel
theorem dX11_play_35 : decode cX11_play 35 = .ok (.aload_n 0, 1) := by decide +kernel
theorem dX11_play_36 : decode cX11_play 36 = .ok (.iload_n 3, 1) := by decide +kernel
theorem dX11_play_37 : decode cX11_play 37 = .ok (.invokevirtual 153, 3) := by decide +kernel
theorem dX11_play_40 : decode cX11_play 40 = .ok (.iadd, 1) := by decide +kernel
theorem dX11_play_41 : decode cX11_play 41 = .ok (.bipush 80, 2) := by decide +kernel
theorem dX11_play_43 : decode cX11_play 43 = .ok (.if_icmp .le 5, 3) := by decide +kernel
theorem dX11_play_46 : decode cX11_play 46 = .ok (.iconst (-1), 1) := by decide +kernel
theorem dX11_play_47 : decode cX11_play 47 = .ok (.ireturn, 1) := by decide +kernel
theorem dX11_play_48 : decode cX11_play 48 = .ok (.iconst 0, 1) := by decide +kernel
theorem dX11_play_49 : decode cX11_play 49 = .ok (.iload_n 1, 1) := by decide +kernel
theorem dX11_play_50 : decode cX11_play 50 = .ok (.invokestatic 150, 3) := by decide +kernel
theorem dX11_play_53 : decode cX11_play 53 = .ok (.istore 6, 2) := by decide +kernel
theorem dX11_play_55 : decode cX11_play 55 = .ok (.iconst 1, 1) := by decide +kernel
theorem dX11_play_56 : decode cX11_play 56 = .ok (.iload_n 2, 1) := by decide +kernel
theorem dX11_play_57 : decode cX11_play 57 = .ok (.invokestatic 150, 3) := by decide +kernel
theorem dX11_play_60 : decode cX11_play 60 = .ok (.istore 7, 2) := by decide +kernel
theorem dX11_play_62 : decode cX11_play 62 = .ok (.aload_n 0, 1) := by decide +kernel
theorem dX11_play_63 : decode cX11_play 63 = .ok (.iload 4, 2) := by decide +kernel
theorem dX11_play_65 : decode cX11_play 65 = .ok (.putfield 212, 3) := by decide +kernel
theorem dX11_play_68 : decode cX11_play 68 = .ok (.iconst 0, 1) := by decide +kernel
theorem dX11_play_69 : decode cX11_play 69 = .ok (.istore 8, 2) := by decide +kernel
theorem dX11_play_71 : decode cX11_play 71 = .ok (.iload 8, 2) := by decide +kernel
theorem dX11_play_73 : decode cX11_play 73 = .ok (.aload_n 0, 1) := by decide +kernel
theorem dX11_play_74 : decode cX11_play 74 = .ok (.iload_n 3, 1) := by decide +kernel
theorem dX11_play_75 : decode cX11_play 75 = .ok (.invokevirtual 153, 3) := by decide +kernel
theorem dX11_play_78 : decode cX11_play 78 = .ok (.if_icmp .ge 241, 3) := by decide +kernel
theorem dX11_play_81 : decode cX11_play 81 = .ok (.aload_n 0, 1) := by decide +kernel
theorem dX11_play_82 : decode cX11_play 82 = .ok (.getfield 7, 3) := by decide +kernel
theorem dX11_play_85 : decode cX11_play 85 = .ok (.iconst 3, 1) := by decide +kernel
theorem dX11_play_86 : decode cX11_play 86 = .ok (.iaload, 1) := by decide +kernel
theorem dX11_play_87 : decode cX11_play 87 = .ok (.istore 9, 2) := by decide +kernel
theorem dX11_play_89 : decode cX11_play 89 = .ok (.aload_n 0, 1) := by decide +kernel
theorem dX11_play_90 : decode cX11_play 90 = .ok (.aload_n 0, 1) := by decide +kernel
theorem dX11_play_91 : decode cX11_play 91 = .ok (.iload 6, 2) := by decide +kernel
theorem dX11_play_93 : decode cX11_play 93 = .ok (.iload 7, 2) := by decide +kernel
theorem dX11_play_95 : decode cX11_play 95 = .ok (.iload_n 3, 1) := by decide +kernel
theorem dX11_play_96 : decode cX11_play 96 = .ok (.iload 8, 2) := by decide +kernel
theorem dX11_play_98 : decode cX11_play 98 = .ok (.iconst 1, 1) := by decide +kernel
theorem dX11_play_99 : decode cX11_play 99 = .ok (.invokevirtual 187, 3) := by decide +kernel
theorem dX11_play_102 : decode cX11_play 102 = .ok (.invokevirtual 219, 3) := by decide +kernel
theorem dX11_play_105 : decode cX11_play 105 = .ok (.istore 10, 2) := by decide +kernel
theorem dX11_play_107 : decode cX11_play 107 = .ok (.aload_n 0, 1) := by decide +kernel
theorem dX11_play_108 : decode cX11_play 108 = .ok (.aload_n 0, 1) := by decide +kernel
theorem dX11_play_109 : decode cX11_play 109 = .ok (.iload 6, 2) := by decide +kernel
theorem dX11_play_111 : decode cX11_play 111 = .ok (.iload 7, 2) := by decide +kernel
theorem dX11_play_113 : decode cX11_play 113 = .ok (.iload_n 3, 1) := by decide +kernel
theorem dX11_play_114 : decode cX11_play 114 = .ok (.iload 8, 2) := by decide +kernel
theorem dX11_play_116 : decode cX11_play 116 = .ok (.iconst 0, 1) := by decide +kernel
theorem dX11_play_117 : decode cX11_play 117 = .ok (.invokevirtual 187, 3) := by decide +kernel
theorem dX11_play_120 : decode cX11_play 120 = .ok (.invokevirtual 219, 3) := by decide +kernel
theorem dX11_play_123 : decode cX11_play 123 = .ok (.istore 11, 2) := by decide +kernel
theorem dX11_play_125 : decode cX11_play 125 = .ok (.aload_n 0, 1) := by decide +kernel
theorem dX11_play_126 : decode cX11_play 126 = .ok (.iload 9, 2) := by decide +kernel
theorem dX11_play_128 : decode cX11_play 128 = .ok (.iconst 0, 1) := by decide +kernel
theorem dX11_play_129 : decode cX11_play 129 = .ok (.aload_n 0, 1) := by decide +kernel
theorem dX11_play_130 : decode cX11_play 130 = .ok (.iload_n 3, 1) := by decide +kernel
theorem dX11_play_131 : decode cX11_play 131 = .ok (.iload 8, 2) := by decide +kernel
theorem dX11_play_133 : decode cX11_play 133 = .ok (.iconst 0, 1) := by decide +kernel
theorem dX11_play_134 : decode cX11_play 134 = .ok (.invokevirtual 156, 3) := by decide +kernel
theorem dX11_play_137 : decode cX11_play 137 = .ok (.invokevirtual 222, 3) := by decide +kernel
theorem dX11_play_140 : decode cX11_play 140 = .ok (.aload_n 0, 1) := by decide +kernel
theorem dX11_play_141 : decode cX11_play 141 = .ok (.iload 9, 2) := by decide +kernel
theorem dX11_play_143 : decode cX11_play 143 = .ok (.iconst 1, 1) := by decide +kernel
theorem dX11_play_144 : decode cX11_play 144 = .ok (.aload_n 0, 1) := by decide +kernel
theorem dX11_play_145 : decode cX11_play 145 = .ok (.iload_n 3, 1) := by decide +kernel
theorem dX11_play_146 : decode cX11_play 146 = .ok (.iload 8, 2) := by decide +kernel
theorem dX11_play_148 : decode cX11_play 148 = .ok (.iconst 1, 1) := by decide +kernel
theorem dX11_play_149 : decode cX11_play 149 = .ok (.invokevirtual 156, 3) := by decide +kernel
theorem dX11_play_152 : decode cX11_play 152 = .ok (.invokevirtual 222, 3) := by decide +kernel
theorem dX11_play_155 : decode cX11_play 155 = .ok (.aload_n 0, 1) := by decide +kernel
theorem dX11_play_156 : decode cX11_play 156 = .ok (.iload 9, 2) := by decide +kernel
theorem dX11_play_158 : decode cX11_play 158 = .ok (.iconst 2, 1) := by decide +kernel
theorem dX11_play_159 : decode cX11_play 159 = .ok (.iload 5, 2) := by decide +kernel
theorem dX11_play_161 : decode cX11_play 161 = .ok (.invokevirtual 222, 3) := by decide +kernel
theorem dX11_play_164 : decode cX11_play 164 = .ok (.aload_n 0, 1) := by decide +kernel
theorem dX11_play_165 : decode cX11_play 165 = .ok (.iload 9, 2) := by decide +kernel
theorem dX11_play_167 : decode cX11_play 167 = .ok (.iconst 3, 1) := by decide +kernel
theorem dX11_play_168 : decode cX11_play 168 = .ok (.iload 10, 2) := by decide +kernel
theorem dX11_play_170 : decode cX11_play 170 = .ok (.invokevirtual 222, 3) := by decide +kernel
theorem dX11_play_173 : decode cX11_play 173 = .ok (.aload_n 0, 1) := by decide +kernel
theorem dX11_play_174 : decode cX11_play 174 = .ok (.iload 9, 2) := by decide +kernel
theorem dX11_play_176 : decode cX11_play 176 = .ok (.iconst 4, 1) := by decide +kernel
theorem dX11_play_177 : decode cX11_play 177 = .ok (.iload 11, 2) := by decide +kernel
theorem dX11_play_179 : decode cX11_play 179 = .ok (.invokevirtual 222, 3) := by decide +kernel
theorem dX11_play_182 : decode cX11_play 182 = .ok (.aload_n 0, 1) := by decide +kernel
theorem dX11_play_183 : decode cX11_play 183 = .ok (.iload 9, 2) := by decide +kernel
theorem dX11_play_185 : decode cX11_play 185 = .ok (.iconst 5, 1) := by decide +kernel
theorem dX11_play_186 : decode cX11_play 186 = .ok (.aload_n 0, 1) := by decide +kernel
theorem dX11_play_187 : decode cX11_play 187 = .ok (.iconst 4, 1) := by decide +kernel
theorem dX11_play_188 : decode cX11_play 188 = .ok (.invokevirtual 216, 3) := by decide +kernel
theorem dX11_play_191 : decode cX11_play 191 = .ok (.invokevirtual 222, 3) := by decide +kernel
theorem dX11_play_194 : decode cX11_play 194 = .ok (.aload_n 0, 1) := by decide +kernel
theorem dX11_play_195 : decode cX11_play 195 = .ok (.iload 9, 2) := by decide +kernel
theorem dX11_play_197 : decode cX11_play 197 = .ok (.bipush 6, 2) := by decide +kernel
theorem dX11_play_199 : decode cX11_play 199 = .ok (.aload_n 0, 1) := by decide +kernel
theorem dX11_play_200 : decode cX11_play 200 = .ok (.iconst 4, 1) := by decide +kernel
theorem dX11_play_201 : decode cX11_play 201 = .ok (.invokevirtual 216, 3) := by decide +kernel
theorem dX11_play_204 : decode cX11_play 204 = .ok (.aload_n 0, 1) := by decide +kernel
theorem dX11_play_205 : decode cX11_play 205 = .ok (.iload 6, 2) := by decide +kernel
theorem dX11_play_207 : decode cX11_play 207 = .ok (.iload 7, 2) := by decide +kernel
theorem dX11_play_209 : decode cX11_play 209 = .ok (.iload_n 3, 1) := by decide +kernel
theorem dX11_play_210 : decode cX11_play 210 = .ok (.iload 8, 2) := by decide +kernel
theorem dX11_play_212 : decode cX11_play 212 = .ok (.iconst 4, 1) := by decide +kernel
theorem dX11_play_213 : decode cX11_play 213 = .ok (.invokevirtual 175, 3) := by decide +kernel
theorem dX11_play_216 : decode cX11_play 216 = .ok (.ifCond .le 7, 3) := by decide +kernel
theorem dX11_play_219 : decode cX11_play 219 = .ok (.iconst 1, 1) := by decide +kernel
theorem dX11_play_220 : decode cX11_play 220 = .ok (.goto 4, 3) := by decide +kernel
theorem dX11_play_223 : decode cX11_play 223 = .ok (.iconst 0, 1) := by decide +kernel
theorem dX11_play_224 : decode cX11_play 224 = .ok (.iadd, 1) := by decide +kernel
theorem dX11_play_225 : decode cX11_play 225 = .ok (.invokevirtual 222, 3) := by decide +kernel
theorem dX11_play_228 : decode cX11_play 228 = .ok (.aload_n 0, 1) := by decide +kernel
theorem dX11_play_229 : decode cX11_play 229 = .ok (.iload 9, 2) := by decide +kernel
theorem dX11_play_231 : decode cX11_play 231 = .ok (.bipush 7, 2) := by decide +kernel
theorem dX11_play_233 : decode cX11_play 233 = .ok (.iconst 1, 1) := by decide +kernel
theorem dX11_play_234 : decode cX11_play 234 = .ok (.aload_n 0, 1) := by decide +kernel
theorem dX11_play_235 : decode cX11_play 235 = .ok (.iconst 3, 1) := by decide +kernel
theorem dX11_play_236 : decode cX11_play 236 = .ok (.invokevirtual 216, 3) := by decide +kernel
theorem dX11_play_239 : decode cX11_play 239 = .ok (.iadd, 1) := by decide +kernel
theorem dX11_play_240 : decode cX11_play 240 = .ok (.aload_n 0, 1) := by decide +kernel
theorem dX11_play_241 : decode cX11_play 241 = .ok (.iload_n 3, 1) := by decide +kernel
theorem dX11_play_242 : decode cX11_play 242 = .ok (.iload 8, 2) := by decide +kernel
theorem dX11_play_244 : decode cX11_play 244 = .ok (.iconst 4, 1) := by decide +kernel
theorem dX11_play_245 : decode cX11_play 245 = .ok (.invokevirtual 156, 3) := by decide +kernel
theorem dX11_play_248 : decode cX11_play 248 = .ok (.iconst 1, 1) := by decide +kernel
theorem dX11_play_249 : decode cX11_play 249 = .ok (.if_icmp .ne 16, 3) := by decide +kernel
theorem dX11_play_252 : decode cX11_play 252 = .ok (.iload 10, 2) := by decide +kernel
theorem dX11_play_254 : decode cX11_play 254 = .ok (.iload 11, 2) := by decide +kernel
theorem dX11_play_256 : decode cX11_play 256 = .ok (.iconst 1, 1) := by decide +kernel
theorem dX11_play_257 : decode cX11_play 257 = .ok (.isub, 1) := by decide +kernel
theorem dX11_play_258 : decode cX11_play 258 = .ok (.if_icmp .ne 7, 3) := by decide +kernel
theorem dX11_play_261 : decode cX11_play 261 = .ok (.iconst 2, 1) := by decide +kernel
theorem dX11_play_262 : decode cX11_play 262 = .ok (.goto 4, 3) := by decide +kernel
theorem dX11_play_265 : decode cX11_play 265 = .ok (.iconst 0, 1) := by decide +kernel
theorem dX11_play_266 : decode cX11_play 266 = .ok (.iadd, 1) := by decide +kernel
theorem dX11_play_267 : decode cX11_play 267 = .ok (.invokevirtual 222, 3) := by decide +kernel
theorem dX11_play_270 : decode cX11_play 270 = .ok (.aload_n 0, 1) := by decide +kernel
theorem dX11_play_271 : decode cX11_play 271 = .ok (.iload 9, 2) := by decide +kernel
theorem dX11_play_273 : decode cX11_play 273 = .ok (.bipush 8, 2) := by decide +kernel
theorem dX11_play_275 : decode cX11_play 275 = .ok (.aload_n 0, 1) := by decide +kernel
theorem dX11_play_276 : decode cX11_play 276 = .ok (.iload 6, 2) := by decide +kernel
theorem dX11_play_278 : decode cX11_play 278 = .ok (.iload_n 3, 1) := by decide +kernel
theorem dX11_play_279 : decode cX11_play 279 = .ok (.iload 8, 2) := by decide +kernel
theorem dX11_play_281 : decode cX11_play 281 = .ok (.invokevirtual 168, 3) := by decide +kernel
theorem dX11_play_284 : decode cX11_play 284 = .ok (.invokevirtual 222, 3) := by decide +kernel
theorem dX11_play_287 : decode cX11_play 287 = .ok (.aload_n 0, 1) := by decide +kernel
theorem dX11_play_288 : decode cX11_play 288 = .ok (.iload 9, 2) := by decide +kernel
theorem dX11_play_290 : decode cX11_play 290 = .ok (.bipush 9, 2) := by decide +kernel
theorem dX11_play_292 : decode cX11_play 292 = .ok (.aload_n 0, 1) := by decide +kernel
theorem dX11_play_293 : decode cX11_play 293 = .ok (.iload_n 3, 1) := by decide +kernel
theorem dX11_play_294 : decode cX11_play 294 = .ok (.iload 8, 2) := by decide +kernel
theorem dX11_play_296 : decode cX11_play 296 = .ok (.iconst 4, 1) := by decide +kernel
theorem dX11_play_297 : decode cX11_play 297 = .ok (.invokevirtual 156, 3) := by decide +kernel
theorem dX11_play_300 : decode cX11_play 300 = .ok (.invokevirtual 222, 3) := by decide +kernel
theorem dX11_play_303 : decode cX11_play 303 = .ok (.aload_n 0, 1) := by decide +kernel
theorem dX11_play_304 : decode cX11_play 304 = .ok (.getfield 7, 3) := by decide +kernel
theorem dX11_play_307 : decode cX11_play 307 = .ok (.iconst 3, 1) := by decide +kernel
theorem dX11_play_308 : decode cX11_play 308 = .ok (.dup2, 1) := by decide +kernel
theorem dX11_play_309 : decode cX11_play 309 = .ok (.iaload, 1) := by decide +kernel
theorem dX11_play_310 : decode cX11_play 310 = .ok (.iconst 1, 1) := by decide +kernel
theorem dX11_play_311 : decode cX11_play 311 = .ok (.iadd, 1) := by decide +kernel
theorem dX11_play_312 : decode cX11_play 312 = .ok (.iastore, 1) := by decide +kernel
theorem dX11_play_313 : decode cX11_play 313 = .ok (.iinc 8 1, 3) := by decide +kernel
theorem dX11_play_316 : decode cX11_play 316 = .ok (.goto (-245), 3) := by decide +kernel
theorem dX11_play_319 : decode cX11_play 319 = .ok (.aload_n 0, 1) := by decide +kernel
theorem dX11_play_320 : decode cX11_play 320 = .ok (.iload_n 3, 1) := by decide +kernel
theorem dX11_play_321 : decode cX11_play 321 = .ok (.invokevirtual 153, 3) := by decide +kernel
theorem dX11_play_324 : decode cX11_play 324 = .ok (.ireturn, 1) := by decide +kernel
theorem dX11_note_0 : decode cX11_note 0 = .ok (.iload_n 1, 1) := by decide +kernel
theorem dX11_note_1 : decode cX11_note 1 = .ok (.iconst 0, 1) := by decide +kernel
theorem dX11_note_2 : decode cX11_note 2 = .ok (.bipush 7, 2) := by decide +kernel
theorem dX11_note_4 : decode cX11_note 4 = .ok (.invokestatic 90, 3) := by decide +kernel
theorem dX11_note_7 : decode cX11_note 7 = .ok (.ifCond .eq 88, 3) := by decide +kernel
theorem dX11_note_10 : decode cX11_note 10 = .ok (.iload_n 2, 1) := by decide +kernel
theorem dX11_note_11 : decode cX11_note 11 = .ok (.iconst 0, 1) := by decide +kernel
theorem dX11_note_12 : decode cX11_note 12 = .ok (.bipush 7, 2) := by decide +kernel
theorem dX11_note_14 : decode cX11_note 14 = .ok (.invokestatic 90, 3) := by decide +kernel
theorem dX11_note_17 : decode cX11_note 17 = .ok (.ifCond .eq 78, 3) := by decide +kernel
theorem dX11_note_20 : decode cX11_note 20 = .ok (.iload_n 1, 1) := by decide +kernel
theorem dX11_note_21 : decode cX11_note 21 = .ok (.iload_n 2, 1) := by decide +kernel
theorem dX11_note_22 : decode cX11_note 22 = .ok (.if_icmp .eq 73, 3) := by decide +kernel
theorem dX11_note_25 : decode cX11_note 25 = .ok (.iload_n 3, 1) := by decide +kernel
theorem dX11_note_26 : decode cX11_note 26 = .ok (.iconst 0, 1) := by decide +kernel
theorem dX11_note_27 : decode cX11_note 27 = .ok (.bipush 59, 2) := by decide +kernel
theorem dX11_note_29 : decode cX11_note 29 = .ok (.invokestatic 90, 3) := by decide +kernel
theorem dX11_note_32 : decode cX11_note 32 = .ok (.ifCond .eq 63, 3) := by decide +kernel
theorem dX11_note_35 : decode cX11_note 35 = .ok (.iload 4, 2) := by decide +kernel
theorem dX11_note_37 : decode cX11_note 37 = .ok (.iconst 0, 1) := by decide +kernel
theorem dX11_note_38 : decode cX11_note 38 = .ok (.bipush 99, 2) := by decide +kernel
theorem dX11_note_40 : decode cX11_note 40 = .ok (.invokestatic 90, 3) := by decide +kernel
theorem dX11_note_43 : decode cX11_note 43 = .ok (.ifCond .eq 52, 3) := by decide +kernel
theorem dX11_note_46 : decode cX11_note 46 = .ok (.iload 5, 2) := by decide +kernel
theorem dX11_note_48 : decode cX11_note 48 = .ok (.iconst 0, 1) := by decide +kernel
theorem dX11_note_49 : decode cX11_note 49 = .ok (.bipush 99, 2) := by decide +kernel
theorem dX11_note_51 : decode cX11_note 51 = .ok (.invokestatic 90, 3) := by decide +kernel
theorem dX11_note_54 : decode cX11_note 54 = .ok (.ifCond .eq 41, 3) := by decide +kernel
theorem dX11_note_57 : decode cX11_note 57 = .ok (.iload 6, 2) := by decide +kernel
theorem dX11_note_59 : decode cX11_note 59 = .ok (.iconst 0, 1) := by decide +kernel
theorem dX11_note_60 : decode cX11_note 60 = .ok (.bipush 19, 2) := by decide +kernel
theorem dX11_note_62 : decode cX11_note 62 = .ok (.invokestatic 90, 3) := by decide +kernel
theorem dX11_note_65 : decode cX11_note 65 = .ok (.ifCond .eq 30, 3) := by decide +kernel
theorem dX11_note_68 : decode cX11_note 68 = .ok (.iload 7, 2) := by decide +kernel
theorem dX11_note_70 : decode cX11_note 70 = .ok (.iconst 0, 1) := by decide +kernel
theorem dX11_note_71 : decode cX11_note 71 = .ok (.sipush 999, 3) := by decide +kernel
theorem dX11_note_74 : decode cX11_note 74 = .ok (.invokestatic 90, 3) := by decide +kernel
theorem dX11_note_77 : decode cX11_note 77 = .ok (.ifCond .eq 18, 3) := by decide +kernel
theorem dX11_note_80 : decode cX11_note 80 = .ok (.iload 8, 2) := by decide +kernel
theorem dX11_note_82 : decode cX11_note 82 = .ok (.iconst 0, 1) := by decide +kernel
theorem dX11_note_83 : decode cX11_note 83 = .ok (.bipush 7, 2) := by decide +kernel
theorem dX11_note_85 : decode cX11_note 85 = .ok (.invokestatic 90, 3) := by decide +kernel
theorem dX11_note_88 : decode cX11_note 88 = .ok (.ifCond .eq 7, 3) := by decide +kernel
theorem dX11_note_91 : decode cX11_note 91 = .ok (.iconst 1, 1) := by decide +kernel
theorem dX11_note_92 : decode cX11_note 92 = .ok (.goto 4, 3) := by decide +kernel
theorem dX11_note_95 : decode cX11_note 95 = .ok (.iconst 0, 1) := by decide +kernel
theorem dX11_note_96 : decode cX11_note 96 = .ok (.istore 9, 2) := by decide +kernel
theorem dX11_note_98 : decode cX11_note 98 = .ok (.iload 9, 2) := by decide +kernel
theorem dX11_note_100 : decode cX11_note 100 = .ok (.ifCond .eq 14, 3) := by decide +kernel
theorem dX11_note_103 : decode cX11_note 103 = .ok (.aload_n 0, 1) := by decide +kernel
theorem dX11_note_104 : decode cX11_note 104 = .ok (.getfield 7, 3) := by decide +kernel
theorem dX11_note_107 : decode cX11_note 107 = .ok (.iconst 3, 1) := by decide +kernel
theorem dX11_note_108 : decode cX11_note 108 = .ok (.iaload, 1) := by decide +kernel
theorem dX11_note_109 : decode cX11_note 109 = .ok (.bipush 80, 2) := by decide +kernel
theorem dX11_note_111 : decode cX11_note 111 = .ok (.if_icmp .ne 5, 3) := by decide +kernel
theorem dX11_note_114 : decode cX11_note 114 = .ok (.iconst (-1), 1) := by decide +kernel
theorem dX11_note_115 : decode cX11_note 115 = .ok (.ireturn, 1) := by decide +kernel
theorem dX11_note_116 : decode cX11_note 116 = .ok (.aload_n 0, 1) := by decide +kernel
theorem dX11_note_117 : decode cX11_note 117 = .ok (.getfield 7, 3) := by decide +kernel
theorem dX11_note_120 : decode cX11_note 120 = .ok (.iconst 3, 1) := by decide +kernel
theorem dX11_note_121 : decode cX11_note 121 = .ok (.iaload, 1) := by decide +kernel
theorem dX11_note_122 : decode cX11_note 122 = .ok (.istore 10, 2) := by decide +kernel
theorem dX11_note_124 : decode cX11_note 124 = .ok (.aload_n 0, 1) := by decide +kernel
theorem dX11_note_125 : decode cX11_note 125 = .ok (.iload 10, 2) := by decide +kernel
theorem dX11_note_127 : decode cX11_note 127 = .ok (.iconst 0, 1) := by decide +kernel
theorem dX11_note_128 : decode cX11_note 128 = .ok (.iload_n 1, 1) := by decide +kernel
theorem dX11_note_129 : decode cX11_note 129 = .ok (.invokevirtual 222, 3) := by decide +kernel
theorem dX11_note_132 : decode cX11_note 132 = .ok (.aload_n 0, 1) := by decide +kernel
theorem dX11_note_133 : decode cX11_note 133 = .ok (.iload 10, 2) := by decide +kernel
theorem dX11_note_135 : decode cX11_note 135 = .ok (.iconst 1, 1) := by decide +kernel
theorem dX11_note_136 : decode cX11_note 136 = .ok (.iload_n 2, 1) := by decide +kernel
theorem dX11_note_137 : decode cX11_note 137 = .ok (.invokevirtual 222, 3) := by decide +kernel
theorem dX11_note_140 : decode cX11_note 140 = .ok (.aload_n 0, 1) := by decide +kernel
theorem dX11_note_141 : decode cX11_note 141 = .ok (.iload 10, 2) := by decide +kernel
theorem dX11_note_143 : decode cX11_note 143 = .ok (.iconst 2, 1) := by decide +kernel
theorem dX11_note_144 : decode cX11_note 144 = .ok (.iload_n 3, 1) := by decide +kernel
theorem dX11_note_145 : decode cX11_note 145 = .ok (.invokevirtual 222, 3) := by decide +kernel
theorem dX11_note_148 : decode cX11_note 148 = .ok (.aload_n 0, 1) := by decide +kernel
theorem dX11_note_149 : decode cX11_note 149 = .ok (.iload 10, 2) := by decide +kernel
theorem dX11_note_151 : decode cX11_note 151 = .ok (.iconst 3, 1) := by decide +kernel
theorem dX11_note_152 : decode cX11_note 152 = .ok (.iload 4, 2) := by decide +kernel
theorem dX11_note_154 : decode cX11_note 154 = .ok (.bipush 10, 2) := by decide +kernel
theorem dX11_note_156 : decode cX11_note 156 = .ok (.idiv, 1) := by decide +kernel
theorem dX11_note_157 : decode cX11_note 157 = .ok (.invokevirtual 222, 3) := by decide +kernel
theorem dX11_note_160 : decode cX11_note 160 = .ok (.aload_n 0, 1) := by decide +kernel
theorem dX11_note_161 : decode cX11_note 161 = .ok (.iload 10, 2) := by decide +kernel
theorem dX11_note_163 : decode cX11_note 163 = .ok (.iconst 4, 1) := by decide +kernel
theorem dX11_note_164 : decode cX11_note 164 = .ok (.iload 4, 2) := by decide +kernel
theorem dX11_note_166 : decode cX11_note 166 = .ok (.bipush 10, 2) := by decide +kernel
theorem dX11_note_168 : decode cX11_note 168 = .ok (.irem, 1) := by decide +kernel
theorem dX11_note_169 : decode cX11_note 169 = .ok (.invokevirtual 222, 3) := by decide +kernel
theorem dX11_note_172 : decode cX11_note 172 = .ok (.aload_n 0, 1) := by decide +kernel
theorem dX11_note_173 : decode cX11_note 173 = .ok (.iload 10, 2) := by decide +kernel
theorem dX11_note_175 : decode cX11_note 175 = .ok (.iconst 5, 1) := by decide +kernel
theorem dX11_note_176 : decode cX11_note 176 = .ok (.iload 5, 2) := by decide +kernel
theorem dX11_note_178 : decode cX11_note 178 = .ok (.bipush 10, 2) := by decide +kernel
theorem dX11_note_180 : decode cX11_note 180 = .ok (.idiv, 1) := by decide +kernel
theorem dX11_note_181 : decode cX11_note 181 = .ok (.invokevirtual 222, 3) := by decide +kernel
theorem dX11_note_184 : decode cX11_note 184 = .ok (.aload_n 0, 1) := by decide +kernel
theorem dX11_note_185 : decode cX11_note 185 = .ok (.iload 10, 2) := by decide +kernel
theorem dX11_note_187 : decode cX11_note 187 = .ok (.bipush 6, 2) := by decide +kernel
theorem dX11_note_189 : decode cX11_note 189 = .ok (.iload 5, 2) := by decide +kernel
theorem dX11_note_191 : decode cX11_note 191 = .ok (.bipush 10, 2) := by decide +kernel
theorem dX11_note_193 : decode cX11_note 193 = .ok (.irem, 1) := by decide +kernel
theorem dX11_note_194 : decode cX11_note 194 = .ok (.invokevirtual 222, 3) := by decide +kernel
theorem dX11_note_197 : decode cX11_note 197 = .ok (.aload_n 0, 1) := by decide +kernel
theorem dX11_note_198 : decode cX11_note 198 = .ok (.iload 10, 2) := by decide +kernel
theorem dX11_note_200 : decode cX11_note 200 = .ok (.bipush 7, 2) := by decide +kernel
theorem dX11_note_202 : decode cX11_note 202 = .ok (.iload 6, 2) := by decide +kernel
theorem dX11_note_204 : decode cX11_note 204 = .ok (.invokevirtual 222, 3) := by decide +kernel
theorem dX11_note_207 : decode cX11_note 207 = .ok (.aload_n 0, 1) := by decide +kernel
theorem dX11_note_208 : decode cX11_note 208 = .ok (.iload 10, 2) := by decide +kernel
theorem dX11_note_210 : decode cX11_note 210 = .ok (.bipush 8, 2) := by decide +kernel
theorem dX11_note_212 : decode cX11_note 212 = .ok (.iload 7, 2) := by decide +kernel
theorem dX11_note_214 : decode cX11_note 214 = .ok (.invokevirtual 222, 3) := by decide +kernel
theorem dX11_note_217 : decode cX11_note 217 = .ok (.aload_n 0, 1) := by decide +kernel
theorem dX11_note_218 : decode cX11_note 218 = .ok (.iload 10, 2) := by decide +kernel
theorem dX11_note_220 : decode cX11_note 220 = .ok (.bipush 9, 2) := by decide +kernel
theorem dX11_note_222 : decode cX11_note 222 = .ok (.iload 8, 2) := by decide +kernel
theorem dX11_note_224 : decode cX11_note 224 = .ok (.invokevirtual 222, 3) := by decide +kernel
theorem dX11_note_227 : decode cX11_note 227 = .ok (.aload_n 0, 1) := by decide +kernel
theorem dX11_note_228 : decode cX11_note 228 = .ok (.getfield 7, 3) := by decide +kernel
theorem dX11_note_231 : decode cX11_note 231 = .ok (.iconst 3, 1) := by decide +kernel
theorem dX11_note_232 : decode cX11_note 232 = .ok (.dup2, 1) := by decide +kernel
theorem dX11_note_233 : decode cX11_note 233 = .ok (.iaload, 1) := by decide +kernel
theorem dX11_note_234 : decode cX11_note 234 = .ok (.iconst 1, 1) := by decide +kernel
theorem dX11_note_235 : decode cX11_note 235 = .ok (.iadd, 1) := by decide +kernel
theorem dX11_note_236 : decode cX11_note 236 = .ok (.iastore, 1) := by decide +kernel
theorem dX11_note_237 : decode cX11_note 237 = .ok (.iload 10, 2) := by decide +kernel
theorem dX11_note_239 : decode cX11_note 239 = .ok (.ireturn, 1) := by decide +kernel
theorem dX11_noted_0 : decode cX11_noted 0 = .ok (.iload_n 1, 1) := by decide +kernel
theorem dX11_noted_1 : decode cX11_noted 1 = .ok (.iconst 0, 1) := by decide +kernel
theorem dX11_noted_2 : decode cX11_noted 2 = .ok (.aload_n 0, 1) := by decide +kernel
theorem dX11_noted_3 : decode cX11_noted 3 = .ok (.getfield 7, 3) := by decide +kernel
theorem dX11_noted_6 : decode cX11_noted 6 = .ok (.iconst 3, 1) := by decide +kernel
theorem dX11_noted_7 : decode cX11_noted 7 = .ok (.iaload, 1) := by decide +kernel
theorem dX11_noted_8 : decode cX11_noted 8 = .ok (.iconst 1, 1) := by decide +kernel
theorem dX11_noted_9 : decode cX11_noted 9 = .ok (.isub, 1) := by decide +kernel
theorem dX11_noted_10 : decode cX11_noted 10 = .ok (.invokestatic 90, 3) := by decide +kernel
theorem dX11_noted_13 : decode cX11_noted 13 = .ok (.ifCond .eq 22, 3) := by decide +kernel
theorem dX11_noted_16 : decode cX11_noted 16 = .ok (.iload_n 2, 1) := by decide +kernel
theorem dX11_noted_17 : decode cX11_noted 17 = .ok (.iconst 0, 1) := by decide +kernel
theorem dX11_noted_18 : decode cX11_noted 18 = .ok (.bipush 9, 2) := by decide +kernel
theorem dX11_noted_20 : decode cX11_noted 20 = .ok (.invokestatic 90, 3) := by decide +kernel
theorem dX11_noted_23 : decode cX11_noted 23 = .ok (.ifCond .eq 12, 3) := by decide +kernel
theorem dX11_noted_26 : decode cX11_noted 26 = .ok (.aload_n 0, 1) := by decide +kernel
theorem dX11_noted_27 : decode cX11_noted 27 = .ok (.iload_n 1, 1) := by decide +kernel
theorem dX11_noted_28 : decode cX11_noted 28 = .ok (.iload_n 2, 1) := by decide +kernel
theorem dX11_noted_29 : decode cX11_noted 29 = .ok (.invokevirtual 226, 3) := by decide +kernel
theorem dX11_noted_32 : decode cX11_noted 32 = .ok (.goto 4, 3) := by decide +kernel
theorem dX11_noted_35 : decode cX11_noted 35 = .ok (.iconst (-1), 1) := by decide +kernel
