/-! printed: decode rows -/
theorem dX10_init_0 : decode cX10_init 0 = .ok (.aload_n 0, 1) := by decide +kernel
theorem dX10_init_1 : decode cX10_init 1 = .ok (.invokespecial 1, 3) := by decide +kernel
theorem dX10_init_4 : decode cX10_init 4 = .ok (.aload_n 0, 1) := by decide +kernel
theorem dX10_init_5 : decode cX10_init 5 = .ok (.new 7, 3) := by decide +kernel
theorem dX10_init_8 : decode cX10_init 8 = .ok (.dup, 1) := by decide +kernel
theorem dX10_init_9 : decode cX10_init 9 = .ok (.invokespecial 9, 3) := by decide +kernel
theorem dX10_init_12 : decode cX10_init 12 = .ok (.putfield 10, 3) := by decide +kernel
theorem dX10_init_15 : decode cX10_init 15 = .ok (.aload_n 0, 1) := by decide +kernel
theorem dX10_init_16 : decode cX10_init 16 = .ok (.iconst 3, 1) := by decide +kernel
theorem dX10_init_17 : decode cX10_init 17 = .ok (.anewarray 7, 3) := by decide +kernel
theorem dX10_init_20 : decode cX10_init 20 = .ok (.putfield 16, 3) := by decide +kernel
theorem dX10_init_23 : decode cX10_init 23 = .ok (.aload_n 0, 1) := by decide +kernel
theorem dX10_init_24 : decode cX10_init 24 = .ok (.new 20, 3) := by decide +kernel
theorem dX10_init_27 : decode cX10_init 27 = .ok (.dup, 1) := by decide +kernel
theorem dX10_init_28 : decode cX10_init 28 = .ok (.invokespecial 22, 3) := by decide +kernel
theorem dX10_init_31 : decode cX10_init 31 = .ok (.putfield 23, 3) := by decide +kernel
theorem dX10_init_34 : decode cX10_init 34 = .ok (.aload_n 0, 1) := by decide +kernel
theorem dX10_init_35 : decode cX10_init 35 = .ok (.new 27, 3) := by decide +kernel
theorem dX10_init_38 : decode cX10_init 38 = .ok (.dup, 1) := by decide +kernel
theorem dX10_init_39 : decode cX10_init 39 = .ok (.invokespecial 29, 3) := by decide +kernel
theorem dX10_init_42 : decode cX10_init 42 = .ok (.putfield 30, 3) := by decide +kernel
theorem dX10_init_45 : decode cX10_init 45 = .ok (.aload_n 0, 1) := by decide +kernel
theorem dX10_init_46 : decode cX10_init 46 = .ok (.new 34, 3) := by decide +kernel
theorem dX10_init_49 : decode cX10_init 49 = .ok (.dup, 1) := by decide +kernel
theorem dX10_init_50 : decode cX10_init 50 = .ok (.invokespecial 36, 3) := by decide +kernel
theorem dX10_init_53 : decode cX10_init 53 = .ok (.putfield 37, 3) := by decide +kernel
theorem dX10_init_56 : decode cX10_init 56 = .ok (.aload_n 0, 1) := by decide +kernel
theorem dX10_init_57 : decode cX10_init 57 = .ok (.new 41, 3) := by decide +kernel
theorem dX10_init_60 : decode cX10_init 60 = .ok (.dup, 1) := by decide +kernel
theorem dX10_init_61 : decode cX10_init 61 = .ok (.invokespecial 43, 3) := by decide +kernel
theorem dX10_init_64 : decode cX10_init 64 = .ok (.putfield 44, 3) := by decide +kernel
theorem dX10_init_67 : decode cX10_init 67 = .ok (.aload_n 0, 1) := by decide +kernel
theorem dX10_init_68 : decode cX10_init 68 = .ok (.bipush 80, 2) := by decide +kernel
theorem dX10_init_70 : decode cX10_init 70 = .ok (.newarray .int, 2) := by decide +kernel
theorem dX10_init_72 : decode cX10_init 72 = .ok (.putfield 48, 3) := by decide +kernel
theorem dX10_init_75 : decode cX10_init 75 = .ok (.aload_n 0, 1) := by decide +kernel
theorem dX10_init_76 : decode cX10_init 76 = .ok (.bipush 40, 2) := by decide +kernel
theorem dX10_init_78 : decode cX10_init 78 = .ok (.newarray .int, 2) := by decide +kernel
theorem dX10_init_80 : decode cX10_init 80 = .ok (.putfield 52, 3) := by decide +kernel
theorem dX10_init_83 : decode cX10_init 83 = .ok (.return_, 1) := by decide +kernel
theorem dX10_feed_0 : decode cX10_feed 0 = .ok (.aload_n 0, 1) := by decide +kernel
theorem dX10_feed_1 : decode cX10_feed 1 = .ok (.getfield 10, 3) := by decide +kernel
theorem dX10_feed_4 : decode cX10_feed 4 = .ok (.getfield 55, 3) := by decide +kernel
theorem dX10_feed_7 : decode cX10_feed 7 = .ok (.bipush 20, 2) := by decide +kernel
theorem dX10_feed_9 : decode cX10_feed 9 = .ok (.iadd, 1) := by decide +kernel
theorem dX10_feed_10 : decode cX10_feed 10 = .ok (.sipush 500, 3) := by decide +kernel
theorem dX10_feed_13 : decode cX10_feed 13 = .ok (.if_icmp .le 5, 3) := by decide +kernel
theorem dX10_feed_16 : decode cX10_feed 16 = .ok (.iconst (-1), 1) := by decide +kernel
theorem dX10_feed_17 : decode cX10_feed 17 = .ok (.ireturn, 1) := by decide +kernel
theorem dX10_feed_18 : decode cX10_feed 18 = .ok (.aload_n 0, 1) := by decide +kernel
theorem dX10_feed_19 : decode cX10_feed 19 = .ok (.getfield 10, 3) := by decide +kernel
theorem dX10_feed_22 : decode cX10_feed 22 = .ok (.iload_n 1, 1) := by decide +kernel
theorem dX10_feed_23 : decode cX10_feed 23 = .ok (.invokevirtual 59, 3) := by decide +kernel
theorem dX10_feed_26 : decode cX10_feed 26 = .ok (.aload_n 0, 1) := by decide +kernel
theorem dX10_feed_27 : decode cX10_feed 27 = .ok (.getfield 10, 3) := by decide +kernel
theorem dX10_feed_30 : decode cX10_feed 30 = .ok (.iload_n 2, 1) := by decide +kernel
theorem dX10_feed_31 : decode cX10_feed 31 = .ok (.invokevirtual 59, 3) := by decide +kernel
theorem dX10_feed_34 : decode cX10_feed 34 = .ok (.aload_n 0, 1) := by decide +kernel
theorem dX10_feed_35 : decode cX10_feed 35 = .ok (.getfield 10, 3) := by decide +kernel
theorem dX10_feed_38 : decode cX10_feed 38 = .ok (.iload_n 3, 1) := by decide +kernel
theorem dX10_feed_39 : decode cX10_feed 39 = .ok (.invokevirtual 59, 3) := by decide +kernel
theorem dX10_feed_42 : decode cX10_feed 42 = .ok (.aload_n 0, 1) := by decide +kernel
theorem dX10_feed_43 : decode cX10_feed 43 = .ok (.getfield 10, 3) := by decide +kernel
theorem dX10_feed_46 : decode cX10_feed 46 = .ok (.iload 4, 2) := by decide +kernel
theorem dX10_feed_48 : decode cX10_feed 48 = .ok (.invokevirtual 59, 3) := by decide +kernel
theorem dX10_feed_51 : decode cX10_feed 51 = .ok (.aload_n 0, 1) := by decide +kernel
theorem dX10_feed_52 : decode cX10_feed 52 = .ok (.getfield 10, 3) := by decide +kernel
theorem dX10_feed_55 : decode cX10_feed 55 = .ok (.iload 5, 2) := by decide +kernel
theorem dX10_feed_57 : decode cX10_feed 57 = .ok (.invokevirtual 59, 3) := by decide +kernel
theorem dX10_feed_60 : decode cX10_feed 60 = .ok (.aload_n 0, 1) := by decide +kernel
theorem dX10_feed_61 : decode cX10_feed 61 = .ok (.getfield 10, 3) := by decide +kernel
theorem dX10_feed_64 : decode cX10_feed 64 = .ok (.getfield 55, 3) := by decide +kernel
theorem dX10_feed_67 : decode cX10_feed 67 = .ok (.ireturn, 1) := by decide +kernel
theorem dX10_end_0 : decode cX10_end 0 = .ok (.iload_n 1, 1) := by decide +kernel
theorem dX10_end_1 : decode cX10_end 1 = .ok (.ifCond .lt 14, 3) := by decide +kernel
theorem dX10_end_4 : decode cX10_end 4 = .ok (.iload_n 1, 1) := by decide +kernel
theorem dX10_end_5 : decode cX10_end 5 = .ok (.aload_n 0, 1) := by decide +kernel
theorem dX10_end_6 : decode cX10_end 6 = .ok (.getfield 10, 3) := by decide +kernel
theorem dX10_end_9 : decode cX10_end 9 = .ok (.getfield 55, 3) := by decide +kernel
theorem dX10_end_12 : decode cX10_end 12 = .ok (.if_icmp .le 5, 3) := by decide +kernel
theorem dX10_end_15 : decode cX10_end 15 = .ok (.iconst (-1), 1) := by decide +kernel
theorem dX10_end_16 : decode cX10_end 16 = .ok (.ireturn, 1) := by decide +kernel
theorem dX10_end_17 : decode cX10_end 17 = .ok (.aload_n 0, 1) := by decide +kernel
theorem dX10_end_18 : decode cX10_end 18 = .ok (.getfield 10, 3) := by decide +kernel
theorem dX10_end_21 : decode cX10_end 21 = .ok (.iload_n 1, 1) := by decide +kernel
theorem dX10_end_22 : decode cX10_end 22 = .ok (.putfield 55, 3) := by decide +kernel
theorem dX10_end_25 : decode cX10_end 25 = .ok (.iload_n 1, 1) := by decide +kernel
theorem dX10_end_26 : decode cX10_end 26 = .ok (.ireturn, 1) := by decide +kernel
theorem dX10_text_0 : decode cX10_text 0 = .ok (.aload_n 0, 1) := by decide +kernel
theorem dX10_text_1 : decode cX10_text 1 = .ok (.getfield 10, 3) := by decide +kernel
theorem dX10_text_4 : decode cX10_text 4 = .ok (.getfield 55, 3) := by decide +kernel
theorem dX10_text_7 : decode cX10_text 7 = .ok (.istore_n 3, 1) := by decide +kernel
theorem dX10_text_8 : decode cX10_text 8 = .ok (.aload_n 0, 1) := by decide +kernel
theorem dX10_text_9 : decode cX10_text 9 = .ok (.getfield 10, 3) := by decide +kernel
theorem dX10_text_12 : decode cX10_text 12 = .ok (.iload_n 1, 1) := by decide +kernel
theorem dX10_text_13 : decode cX10_text 13 = .ok (.iload_n 2, 1) := by decide +kernel
theorem dX10_text_14 : decode cX10_text 14 = .ok (.invokevirtual 63, 3) := by decide +kernel
theorem dX10_text_17 : decode cX10_text 17 = .ok (.istore 4, 2) := by decide +kernel
theorem dX10_text_19 : decode cX10_text 19 = .ok (.aload_n 0, 1) := by decide +kernel
theorem dX10_text_20 : decode cX10_text 20 = .ok (.getfield 10, 3) := by decide +kernel
theorem dX10_text_23 : decode cX10_text 23 = .ok (.iconst 0, 1) := by decide +kernel
theorem dX10_text_24 : decode cX10_text 24 = .ok (.putfield 55, 3) := by decide +kernel
theorem dX10_text_27 : decode cX10_text 27 = .ok (.aload_n 0, 1) := by decide +kernel
theorem dX10_text_28 : decode cX10_text 28 = .ok (.getfield 10, 3) := by decide +kernel
theorem dX10_text_31 : decode cX10_text 31 = .ok (.iconst 0, 1) := by decide +kernel
theorem dX10_text_32 : decode cX10_text 32 = .ok (.putfield 67, 3) := by decide +kernel
theorem dX10_text_35 : decode cX10_text 35 = .ok (.aload_n 0, 1) := by decide +kernel
theorem dX10_text_36 : decode cX10_text 36 = .ok (.getfield 10, 3) := by decide +kernel
theorem dX10_text_39 : decode cX10_text 39 = .ok (.iconst (-1), 1) := by decide +kernel
theorem dX10_text_40 : decode cX10_text 40 = .ok (.putfield 70, 3) := by decide +kernel
theorem dX10_text_43 : decode cX10_text 43 = .ok (.iload 4, 2) := by decide +kernel
theorem dX10_text_45 : decode cX10_text 45 = .ok (.iconst (-1), 1) := by decide +kernel
theorem dX10_text_46 : decode cX10_text 46 = .ok (.if_icmp .ne 6, 3) := by decide +kernel
theorem dX10_text_49 : decode cX10_text 49 = .ok (.bipush (-2), 2) := by decide +kernel
theorem dX10_text_51 : decode cX10_text 51 = .ok (.ireturn, 1) := by decide +kernel
theorem dX10_text_52 : decode cX10_text 52 = .ok (.aload_n 0, 1) := by decide +kernel
theorem dX10_text_53 : decode cX10_text 53 = .ok (.iload_n 1, 1) := by decide +kernel
theorem dX10_text_54 : decode cX10_text 54 = .ok (.iload 4, 2) := by decide +kernel
theorem dX10_text_56 : decode cX10_text 56 = .ok (.iload_n 3, 1) := by decide +kernel
theorem dX10_text_57 : decode cX10_text 57 = .ok (.invokevirtual 73, 3) := by decide +kernel
theorem dX10_text_60 : decode cX10_text 60 = .ok (.aload_n 0, 1) := by decide +kernel
theorem dX10_text_61 : decode cX10_text 61 = .ok (.getfield 10, 3) := by decide +kernel
theorem dX10_text_64 : decode cX10_text 64 = .ok (.aload_n 0, 1) := by decide +kernel
theorem dX10_text_65 : decode cX10_text 65 = .ok (.getfield 23, 3) := by decide +kernel
theorem dX10_text_68 : decode cX10_text 68 = .ok (.getfield 77, 3) := by decide +kernel
theorem dX10_text_71 : decode cX10_text 71 = .ok (.putfield 67, 3) := by decide +kernel
theorem dX10_text_74 : decode cX10_text 74 = .ok (.aload_n 0, 1) := by decide +kernel
theorem dX10_text_75 : decode cX10_text 75 = .ok (.getfield 10, 3) := by decide +kernel
theorem dX10_text_78 : decode cX10_text 78 = .ok (.aload_n 0, 1) := by decide +kernel
theorem dX10_text_79 : decode cX10_text 79 = .ok (.getfield 23, 3) := by decide +kernel
theorem dX10_text_82 : decode cX10_text 82 = .ok (.getfield 78, 3) := by decide +kernel
theorem dX10_text_85 : decode cX10_text 85 = .ok (.putfield 70, 3) := by decide +kernel
theorem dX10_text_88 : decode cX10_text 88 = .ok (.aload_n 0, 1) := by decide +kernel
theorem dX10_text_89 : decode cX10_text 89 = .ok (.getfield 10, 3) := by decide +kernel
theorem dX10_text_92 : decode cX10_text 92 = .ok (.getfield 67, 3) := by decide +kernel
theorem dX10_text_95 : decode cX10_text 95 = .ok (.ifCond .ne 8, 3) := by decide +kernel
theorem dX10_text_98 : decode cX10_text 98 = .ok (.iload 4, 2) := by decide +kernel
theorem dX10_text_100 : decode cX10_text 100 = .ok (.goto 4, 3) := by decide +kernel
theorem dX10_text_103 : decode cX10_text 103 = .ok (.iconst (-1), 1) := by decide +kernel
theorem dX10_text_104 : decode cX10_text 104 = .ok (.ireturn, 1) := by decide +kernel
theorem dX10_readInto_0 : decode cX10_readInto 0 = .ok (.iload_n 1, 1) := by decide +kernel
theorem dX10_readInto_1 : decode cX10_readInto 1 = .ok (.ifCond .ne 53, 3) := by decide +kernel
theorem dX10_readInto_4 : decode cX10_readInto 4 = .ok (.new 79, 3) := by decide +kernel
theorem dX10_readInto_7 : decode cX10_readInto 7 = .ok (.dup, 1) := by decide +kernel
theorem dX10_readInto_8 : decode cX10_readInto 8 = .ok (.invokespecial 81, 3) := by decide +kernel
theorem dX10_readInto_11 : decode cX10_readInto 11 = .ok (.astore 4, 2) := by decide +kernel
theorem dX10_readInto_13 : decode cX10_readInto 13 = .ok (.aload_n 0, 1) := by decide +kernel
theorem dX10_readInto_14 : decode cX10_readInto 14 = .ok (.getfield 23, 3) := by decide +kernel
theorem dX10_readInto_17 : decode cX10_readInto 17 = .ok (.aload_n 0, 1) := by decide +kernel
theorem dX10_readInto_18 : decode cX10_readInto 18 = .ok (.getfield 10, 3) := by decide +kernel
theorem dX10_readInto_21 : decode cX10_readInto 21 = .ok (.getfield 82, 3) := by decide +kernel
theorem dX10_readInto_24 : decode cX10_readInto 24 = .ok (.iload_n 3, 1) := by decide +kernel
theorem dX10_readInto_25 : decode cX10_readInto 25 = .ok (.iload_n 1, 1) := by decide +kernel
theorem dX10_readInto_26 : decode cX10_readInto 26 = .ok (.aload 4, 2) := by decide +kernel
theorem dX10_readInto_28 : decode cX10_readInto 28 = .ok (.invokevirtual 86, 3) := by decide +kernel
theorem dX10_readInto_31 : decode cX10_readInto 31 = .ok (.aload_n 0, 1) := by decide +kernel
theorem dX10_readInto_32 : decode cX10_readInto 32 = .ok (.getfield 23, 3) := by decide +kernel
theorem dX10_readInto_35 : decode cX10_readInto 35 = .ok (.getfield 77, 3) := by decide +kernel
theorem dX10_readInto_38 : decode cX10_readInto 38 = .ok (.ifCond .ne 13, 3) := by decide +kernel
theorem dX10_readInto_41 : decode cX10_readInto 41 = .ok (.aload_n 0, 1) := by decide +kernel
theorem dX10_readInto_42 : decode cX10_readInto 42 = .ok (.getfield 10, 3) := by decide +kernel
theorem dX10_readInto_45 : decode cX10_readInto 45 = .ok (.iload_n 2, 1) := by decide +kernel
theorem dX10_readInto_46 : decode cX10_readInto 46 = .ok (.aload 4, 2) := by decide +kernel
theorem dX10_readInto_48 : decode cX10_readInto 48 = .ok (.invokevirtual 90, 3) := by decide +kernel
theorem dX10_readInto_51 : decode cX10_readInto 51 = .ok (.goto 105, 3) := by decide +kernel
theorem dX10_readInto_54 : decode cX10_readInto 54 = .ok (.iload_n 1, 1) := by decide +kernel
theorem dX10_readInto_55 : decode cX10_readInto 55 = .ok (.iconst 1, 1) := by decide +kernel
theorem dX10_readInto_56 : decode cX10_readInto 56 = .ok (.if_icmp .ne 53, 3) := by decide +kernel
theorem dX10_readInto_59 : decode cX10_readInto 59 = .ok (.new 94, 3) := by decide +kernel
theorem dX10_readInto_62 : decode cX10_readInto 62 = .ok (.dup, 1) := by decide +kernel
theorem dX10_readInto_63 : decode cX10_readInto 63 = .ok (.invokespecial 96, 3) := by decide +kernel
theorem dX10_readInto_66 : decode cX10_readInto 66 = .ok (.astore 4, 2) := by decide +kernel
theorem dX10_readInto_68 : decode cX10_readInto 68 = .ok (.aload_n 0, 1) := by decide +kernel
theorem dX10_readInto_69 : decode cX10_readInto 69 = .ok (.getfield 23, 3) := by decide +kernel
theorem dX10_readInto_72 : decode cX10_readInto 72 = .ok (.aload_n 0, 1) := by decide +kernel
theorem dX10_readInto_73 : decode cX10_readInto 73 = .ok (.getfield 10, 3) := by decide +kernel
theorem dX10_readInto_76 : decode cX10_readInto 76 = .ok (.getfield 82, 3) := by decide +kernel
theorem dX10_readInto_79 : decode cX10_readInto 79 = .ok (.iload_n 3, 1) := by decide +kernel
theorem dX10_readInto_80 : decode cX10_readInto 80 = .ok (.iload_n 1, 1) := by decide +kernel
theorem dX10_readInto_81 : decode cX10_readInto 81 = .ok (.aload 4, 2) := by decide +kernel
theorem dX10_readInto_83 : decode cX10_readInto 83 = .ok (.invokevirtual 86, 3) := by decide +kernel
theorem dX10_readInto_86 : decode cX10_readInto 86 = .ok (.aload_n 0, 1) := by decide +kernel
theorem dX10_readInto_87 : decode cX10_readInto 87 = .ok (.getfield 23, 3) := by decide +kernel
theorem dX10_readInto_90 : decode cX10_readInto 90 = .ok (.getfield 77, 3) := by decide +kernel
theorem dX10_readInto_93 : decode cX10_readInto 93 = .ok (.ifCond .ne 13, 3) := by decide +kernel
theorem dX10_readInto_96 : decode cX10_readInto 96 = .ok (.aload_n 0, 1) := by decide +kernel
theorem dX10_readInto_97 : decode cX10_readInto 97 = .ok (.getfield 10, 3) := by decide +kernel
theorem dX10_readInto_100 : decode cX10_readInto 100 = .ok (.iload_n 2, 1) := by decide +kernel
theorem dX10_readInto_101 : decode cX10_readInto 101 = .ok (.aload 4, 2) := by decide +kernel
theorem dX10_readInto_103 : decode cX10_readInto 103 = .ok (.invokevirtual 97, 3) := by decide +kernel
theorem dX10_readInto_106 : decode cX10_readInto 106 = .ok (.goto 50, 3) := by decide +kernel
theorem dX10_readInto_109 : decode cX10_readInto 109 = .ok (.new 101, 3) := by decide +kernel
theorem dX10_readInto_112 : decode cX10_readInto 112 = .ok (.dup, 1) := by decide +kernel
theorem dX10_readInto_113 : decode cX10_readInto 113 = .ok (.invokespecial 103, 3) := by decide +kernel
theorem dX10_readInto_116 : decode cX10_readInto 116 = .ok (.astore 4, 2) := by decide +kernel
theorem dX10_readInto_118 : decode cX10_readInto 118 = .ok (.aload_n 0, 1) := by decide +kernel
theorem dX10_readInto_119 : decode cX10_readInto 119 = .ok (.getfield 23, 3) := by decide +kernel
theorem dX10_readInto_122 : decode cX10_readInto 122 = .ok (.aload_n 0, 1) := by decide +kernel
theorem dX10_readInto_123 : decode cX10_readInto 123 = .ok (.getfield 10, 3) := by decide +kernel
theorem dX10_readInto_126 : decode cX10_readInto 126 = .ok (.getfield 82, 3) := by decide +kernel
theorem dX10_readInto_129 : decode cX10_readInto 129 = .ok (.iload_n 3, 1) := by decide +kernel
theorem dX10_readInto_130 : decode cX10_readInto 130 = .ok (.iload_n 1, 1) := by decide +kernel
theorem dX10_readInto_131 : decode cX10_readInto 131 = .ok (.aload 4, 2) := by decide +kernel
theorem dX10_readInto_133 : decode cX10_readInto 133 = .ok (.invokevirtual 86, 3) := by decide +kernel
theorem dX10_readInto_136 : decode cX10_readInto 136 = .ok (.aload_n 0, 1) := by decide +kernel
theorem dX10_readInto_137 : decode cX10_readInto 137 = .ok (.getfield 23, 3) := by decide +kernel
theorem dX10_readInto_140 : decode cX10_readInto 140 = .ok (.getfield 77, 3) := by decide +kernel
theorem dX10_readInto_143 : decode cX10_readInto 143 = .ok (.ifCond .ne 13, 3) := by decide +kernel
theorem dX10_readInto_146 : decode cX10_readInto 146 = .ok (.aload_n 0, 1) := by decide +kernel
theorem dX10_readInto_147 : decode cX10_readInto 147 = .ok (.getfield 10, 3) := by decide +kernel
theorem dX10_readInto_150 : decode cX10_readInto 150 = .ok (.iload_n 2, 1) := by decide +kernel
theorem dX10_readInto_151 : decode cX10_readInto 151 = .ok (.aload 4, 2) := by decide +kernel
theorem dX10_readInto_153 : decode cX10_readInto 153 = .ok (.invokevirtual 104, 3) := by decide +kernel
theorem dX10_readInto_156 : decode cX10_readInto 156 = .ok (.return_, 1) := by decide +kernel
theorem dX10_fault_0 : decode cX10_fault 0 = .ok (.iload_n 1, 1) := by decide +kernel
theorem dX10_fault_1 : decode cX10_fault 1 = .ok (.ifCond .ne 11, 3) := by decide +kernel
theorem dX10_fault_4 : decode cX10_fault 4 = .ok (.aload_n 0, 1) := by decide +kernel
theorem dX10_fault_5 : decode cX10_fault 5 = .ok (.getfield 10, 3) := by decide +kernel
theorem dX10_fault_8 : decode cX10_fault 8 = .ok (.getfield 67, 3) := by decide +kernel
theorem dX10_fault_11 : decode cX10_fault 11 = .ok (.ireturn, 1) := by decide +kernel
theorem dX10_fault_12 : decode cX10_fault 12 = .ok (.iload_n 1, 1) := by decide +kernel
theorem dX10_fault_13 : decode cX10_fault 13 = .ok (.iconst 1, 1) := by decide +kernel
theorem dX10_fault_14 : decode cX10_fault 14 = .ok (.if_icmp .ne 13, 3) := by decide +kernel
theorem dX10_fault_17 : decode cX10_fault 17 = .ok (.aload_n 0, 1) := by decide +kernel
theorem dX10_fault_18 : decode cX10_fault 18 = .ok (.getfield 10, 3) := by decide +kernel
theorem dX10_fault_21 : decode cX10_fault 21 = .ok (.getfield 70, 3) := by decide +kernel
theorem dX10_fault_24 : decode cX10_fault 24 = .ok (.goto 4, 3) := by decide +kernel
theorem dX10_fault_27 : decode cX10_fault 27 = .ok (.iconst (-1), 1) := by decide +kernel
theorem dX10_fault_28 : decode cX10_fault 28 = .ok (.ireturn, 1) := by decide +kernel
theorem dX10_league_0 : decode cX10_league 0 = .ok (.aload_n 0, 1) := by decide +kernel
theorem dX10_league_1 : decode cX10_league 1 = .ok (.getfield 10, 3) := by decide +kernel
theorem dX10_league_4 : decode cX10_league 4 = .ok (.iload_n 1, 1) := by decide +kernel
theorem dX10_league_5 : decode cX10_league 5 = .ok (.invokevirtual 108, 3) := by decide +kernel
theorem dX10_league_8 : decode cX10_league 8 = .ok (.astore_n 3, 1) := by decide +kernel
theorem dX10_league_9 : decode cX10_league 9 = .ok (.aload_n 3, 1) := by decide +kernel
theorem dX10_league_10 : decode cX10_league 10 = .ok (.ifnonnull 7, 3) := by decide +kernel
theorem dX10_league_13 : decode cX10_league 13 = .ok (.iconst (-1), 1) := by decide +kernel
theorem dX10_league_14 : decode cX10_league 14 = .ok (.goto 8, 3) := by decide +kernel
theorem dX10_league_17 : decode cX10_league 17 = .ok (.aload_n 3, 1) := by decide +kernel
theorem dX10_league_18 : decode cX10_league 18 = .ok (.iload_n 2, 1) := by decide +kernel
theorem dX10_league_19 : decode cX10_league 19 = .ok (.invokevirtual 112, 3) := by decide +kernel
theorem dX10_league_22 : decode cX10_league 22 = .ok (.ireturn, 1) := by decide +kernel
theorem dX10_miles_0 : decode cX10_miles 0 = .ok (.aload_n 0, 1) := by decide +kernel
theorem dX10_miles_1 : decode cX10_miles 1 = .ok (.getfield 10, 3) := by decide +kernel
theorem dX10_miles_4 : decode cX10_miles 4 = .ok (.iload_n 1, 1) := by decide +kernel
theorem dX10_miles_5 : decode cX10_miles 5 = .ok (.invokevirtual 108, 3) := by decide +kernel
theorem dX10_miles_8 : decode cX10_miles 8 = .ok (.astore 4, 2) := by decide +kernel
theorem dX10_miles_10 : decode cX10_miles 10 = .ok (.aload 4, 2) := by decide +kernel
theorem dX10_miles_12 : decode cX10_miles 12 = .ok (.ifnull 21, 3) := by decide +kernel
theorem dX10_miles_15 : decode cX10_miles 15 = .ok (.aload 4, 2) := by decide +kernel
theorem dX10_miles_17 : decode cX10_miles 17 = .ok (.iload_n 2, 1) := by decide +kernel
theorem dX10_miles_18 : decode cX10_miles 18 = .ok (.invokevirtual 116, 3) := by decide +kernel
theorem dX10_miles_21 : decode cX10_miles 21 = .ok (.ifCond .eq 12, 3) := by decide +kernel
theorem dX10_miles_24 : decode cX10_miles 24 = .ok (.aload 4, 2) := by decide +kernel
theorem dX10_miles_26 : decode cX10_miles 26 = .ok (.iload_n 3, 1) := by decide +kernel
theorem dX10_miles_27 : decode cX10_miles 27 = .ok (.invokevirtual 116, 3) := by decide +kernel
theorem dX10_miles_30 : decode cX10_miles 30 = .ok (.ifCond .ne 5, 3) := by decide +kernel
theorem dX10_miles_33 : decode cX10_miles 33 = .ok (.iconst (-1), 1) := by decide +kernel
theorem dX10_miles_34 : decode cX10_miles 34 = .ok (.ireturn, 1) := by decide +kernel
theorem dX10_miles_35 : decode cX10_miles 35 = .ok (.aload 4, 2) := by decide +kernel
theorem dX10_miles_37 : decode cX10_miles 37 = .ok (.iload_n 2, 1) := by decide +kernel
theorem dX10_miles_38 : decode cX10_miles 38 = .ok (.iload_n 3, 1) := by decide +kernel
theorem dX10_miles_39 : decode cX10_miles 39 = .ok (.invokevirtual 120, 3) := by decide +kernel
theorem dX10_miles_42 : decode cX10_miles 42 = .ok (.ireturn, 1) := by decide +kernel
theorem dX10_law_0 : decode cX10_law 0 = .ok (.aload_n 0, 1) := by decide +kernel
theorem dX10_law_1 : decode cX10_law 1 = .ok (.getfield 10, 3) := by decide +kernel
theorem dX10_law_4 : decode cX10_law 4 = .ok (.iload_n 1, 1) := by decide +kernel
theorem dX10_law_5 : decode cX10_law 5 = .ok (.invokevirtual 123, 3) := by decide +kernel
theorem dX10_law_8 : decode cX10_law 8 = .ok (.astore_n 3, 1) := by decide +kernel
theorem dX10_law_9 : decode cX10_law 9 = .ok (.aload_n 3, 1) := by decide +kernel
theorem dX10_law_10 : decode cX10_law 10 = .ok (.ifnonnull 7, 3) := by decide +kernel
theorem dX10_law_13 : decode cX10_law 13 = .ok (.iconst (-1), 1) := by decide +kernel
theorem dX10_law_14 : decode cX10_law 14 = .ok (.goto 8, 3) := by decide +kernel
theorem dX10_law_17 : decode cX10_law 17 = .ok (.aload_n 3, 1) := by decide +kernel
theorem dX10_law_18 : decode cX10_law 18 = .ok (.iload_n 2, 1) := by decide +kernel
theorem dX10_law_19 : decode cX10_law 19 = .ok (.invokevirtual 127, 3) := by decide +kernel
theorem dX10_law_22 : decode cX10_law 22 = .ok (.ireturn, 1) := by decide +kernel
theorem dX10_plan_0 : decode cX10_plan 0 = .ok (.aload_n 0, 1) := by decide +kernel
theorem dX10_plan_1 : decode cX10_plan 1 = .ok (.getfield 10, 3) := by decide +kernel
theorem dX10_plan_4 : decode cX10_plan 4 = .ok (.iload_n 1, 1) := by decide +kernel
theorem dX10_plan_5 : decode cX10_plan 5 = .ok (.invokevirtual 128, 3) := by decide +kernel
theorem dX10_plan_8 : decode cX10_plan 8 = .ok (.astore 4, 2) := by decide +kernel
theorem dX10_plan_10 : decode cX10_plan 10 = .ok (.aload 4, 2) := by decide +kernel
theorem dX10_plan_12 : decode cX10_plan 12 = .ok (.ifnonnull 6, 3) := by decide +kernel
theorem dX10_plan_15 : decode cX10_plan 15 = .ok (.bipush (-2), 2) := by decide +kernel
theorem dX10_plan_17 : decode cX10_plan 17 = .ok (.ireturn, 1) := by decide +kernel
theorem dX10_plan_18 : decode cX10_plan 18 = .ok (.iload_n 2, 1) := by decide +kernel
theorem dX10_plan_19 : decode cX10_plan 19 = .ok (.iconst (-1), 1) := by decide +kernel
theorem dX10_plan_20 : decode cX10_plan 20 = .ok (.if_icmp .ne 18, 3) := by decide +kernel
theorem dX10_plan_23 : decode cX10_plan 23 = .ok (.iload_n 3, 1) := by decide +kernel
theorem dX10_plan_24 : decode cX10_plan 24 = .ok (.ifCond .ne 11, 3) := by decide +kernel
theorem dX10_plan_27 : decode cX10_plan 27 = .ok (.aload 4, 2) := by decide +kernel
theorem dX10_plan_29 : decode cX10_plan 29 = .ok (.getfield 132, 3) := by decide +kernel
theorem dX10_plan_32 : decode cX10_plan 32 = .ok (.goto 5, 3) := by decide +kernel
theorem dX10_plan_35 : decode cX10_plan 35 = .ok (.bipush (-2), 2) := by decide +kernel
theorem dX10_plan_37 : decode cX10_plan 37 = .ok (.ireturn, 1) := by decide +kernel
theorem dX10_plan_38 : decode cX10_plan 38 = .ok (.aload 4, 2) := by decide +kernel
theorem dX10_plan_40 : decode cX10_plan 40 = .ok (.iload_n 2, 1) := by decide +kernel
theorem dX10_plan_41 : decode cX10_plan 41 = .ok (.invokevirtual 135, 3) := by decide +kernel
theorem dX10_plan_44 : decode cX10_plan 44 = .ok (.ifCond .eq 13, 3) := by decide +kernel
theorem dX10_plan_47 : decode cX10_plan 47 = .ok (.iload_n 3, 1) := by decide +kernel
theorem dX10_plan_48 : decode cX10_plan 48 = .ok (.ifCond .lt 9, 3) := by decide +kernel
theorem dX10_plan_51 : decode cX10_plan 51 = .ok (.iload_n 3, 1) := by decide +kernel
theorem dX10_plan_52 : decode cX10_plan 52 = .ok (.bipush 6, 2) := by decide +kernel
theorem dX10_plan_54 : decode cX10_plan 54 = .ok (.if_icmp .lt 6, 3) := by decide +kernel
theorem dX10_plan_57 : decode cX10_plan 57 = .ok (.bipush (-2), 2) := by decide +kernel
theorem dX10_plan_59 : decode cX10_plan 59 = .ok (.ireturn, 1) := by decide +kernel
theorem dX10_plan_60 : decode cX10_plan 60 = .ok (.aload 4, 2) := by decide +kernel
theorem dX10_plan_62 : decode cX10_plan 62 = .ok (.iload_n 2, 1) := by decide +kernel
theorem dX10_plan_63 : decode cX10_plan 63 = .ok (.iload_n 3, 1) := by decide +kernel
theorem dX10_plan_64 : decode cX10_plan 64 = .ok (.invokevirtual 138, 3) := by decide +kernel
theorem dX10_plan_67 : decode cX10_plan 67 = .ok (.ireturn, 1) := by decide +kernel
theorem dX10_goes_0 : decode cX10_goes 0 = .ok (.aload_n 0, 1) := by decide +kernel
theorem dX10_goes_1 : decode cX10_goes 1 = .ok (.getfield 30, 3) := by decide +kernel
theorem dX10_goes_4 : decode cX10_goes 4 = .ok (.aload_n 0, 1) := by decide +kernel
theorem dX10_goes_5 : decode cX10_goes 5 = .ok (.getfield 10, 3) := by decide +kernel
theorem dX10_goes_8 : decode cX10_goes 8 = .ok (.iload_n 1, 1) := by decide +kernel
theorem dX10_goes_9 : decode cX10_goes 9 = .ok (.iload_n 2, 1) := by decide +kernel
theorem dX10_goes_10 : decode cX10_goes 10 = .ok (.invokevirtual 141, 3) := by decide +kernel
theorem dX10_goes_13 : decode cX10_goes 13 = .ok (.ireturn, 1) := by decide +kernel
theorem dX10_worth_0 : decode cX10_worth 0 = .ok (.aload_n 0, 1) := by decide +kernel
theorem dX10_worth_1 : decode cX10_worth 1 = .ok (.getfield 30, 3) := by decide +kernel
theorem dX10_worth_4 : decode cX10_worth 4 = .ok (.aload_n 0, 1) := by decide +kernel
theorem dX10_worth_5 : decode cX10_worth 5 = .ok (.getfield 10, 3) := by decide +kernel
theorem dX10_worth_8 : decode cX10_worth 8 = .ok (.iload_n 1, 1) := by decide +kernel
theorem dX10_worth_9 : decode cX10_worth 9 = .ok (.iload_n 2, 1) := by decide +kernel
theorem dX10_worth_10 : decode cX10_worth 10 = .ok (.iload_n 3, 1) := by decide +kernel
theorem dX10_worth_11 : decode cX10_worth 11 = .ok (.invokevirtual 145, 3) := by decide +kernel
theorem dX10_worth_14 : decode cX10_worth 14 = .ok (.ifCond .eq 18, 3) := by decide +kernel
theorem dX10_worth_17 : decode cX10_worth 17 = .ok (.aload_n 0, 1) := by decide +kernel
theorem dX10_worth_18 : decode cX10_worth 18 = .ok (.getfield 30, 3) := by decide +kernel
theorem dX10_worth_21 : decode cX10_worth 21 = .ok (.getfield 148, 3) := by decide +kernel
theorem dX10_worth_24 : decode cX10_worth 24 = .ok (.iload 4, 2) := by decide +kernel
theorem dX10_worth_26 : decode cX10_worth 26 = .ok (.invokevirtual 135, 3) := by decide +kernel
theorem dX10_worth_29 : decode cX10_worth 29 = .ok (.ifCond .ne 5, 3) := by decide +kernel
theorem dX10_worth_32 : decode cX10_worth 32 = .ok (.iconst (-1), 1) := by decide +kernel
theorem dX10_worth_33 : decode cX10_worth 33 = .ok (.ireturn, 1) := by decide +kernel
theorem dX10_worth_34 : decode cX10_worth 34 = .ok (.aload_n 0, 1) := by decide +kernel
theorem dX10_worth_35 : decode cX10_worth 35 = .ok (.getfield 30, 3) := by decide +kernel
theorem dX10_worth_38 : decode cX10_worth 38 = .ok (.iload 4, 2) := by decide +kernel
theorem dX10_worth_40 : decode cX10_worth 40 = .ok (.invokevirtual 152, 3) := by decide +kernel
theorem dX10_worth_43 : decode cX10_worth 43 = .ok (.iload 5, 2) := by decide +kernel
theorem dX10_worth_45 : decode cX10_worth 45 = .ok (.tableswitch 63 6 9 #[31, 39, 47, 55], 31) := by decide +kernel
theorem dX10_worth_76 : decode cX10_worth 76 = .ok (.aload_n 0, 1) := by decide +kernel
theorem dX10_worth_77 : decode cX10_worth 77 = .ok (.getfield 30, 3) := by decide +kernel
theorem dX10_worth_80 : decode cX10_worth 80 = .ok (.getfield 155, 3) := by decide +kernel
theorem dX10_worth_83 : decode cX10_worth 83 = .ok (.ireturn, 1) := by decide +kernel
theorem dX10_worth_84 : decode cX10_worth 84 = .ok (.aload_n 0, 1) := by decide +kernel
theorem dX10_worth_85 : decode cX10_worth 85 = .ok (.getfield 30, 3) := by decide +kernel
theorem dX10_worth_88 : decode cX10_worth 88 = .ok (.getfield 158, 3) := by decide +kernel
theorem dX10_worth_91 : decode cX10_worth 91 = .ok (.ireturn, 1) := by decide +kernel
theorem dX10_worth_92 : decode cX10_worth 92 = .ok (.aload_n 0, 1) := by decide +kernel
theorem dX10_worth_93 : decode cX10_worth 93 = .ok (.getfield 30, 3) := by decide +kernel
theorem dX10_worth_96 : decode cX10_worth 96 = .ok (.getfield 161, 3) := by decide +kernel
theorem dX10_worth_99 : decode cX10_worth 99 = .ok (.ireturn, 1) := by decide +kernel
theorem dX10_worth_100 : decode cX10_worth 100 = .ok (.aload_n 0, 1) := by decide +kernel
theorem dX10_worth_101 : decode cX10_worth 101 = .ok (.getfield 30, 3) := by decide +kernel
theorem dX10_worth_104 : decode cX10_worth 104 = .ok (.getfield 164, 3) := by decide +kernel
theorem dX10_worth_107 : decode cX10_worth 107 = .ok (.ireturn, 1) := by decide +kernel
theorem dX10_worth_108 : decode cX10_worth 108 = .ok (.iload 5, 2) := by decide +kernel
theorem dX10_worth_110 : decode cX10_worth 110 = .ok (.invokestatic 167, 3) := by decide +kernel
theorem dX10_worth_113 : decode cX10_worth 113 = .ok (.ifCond .eq 15, 3) := by decide +kernel
theorem dX10_worth_116 : decode cX10_worth 116 = .ok (.aload_n 0, 1) := by decide +kernel
theorem dX10_worth_117 : decode cX10_worth 117 = .ok (.getfield 30, 3) := by decide +kernel
theorem dX10_worth_120 : decode cX10_worth 120 = .ok (.iload 5, 2) := by decide +kernel
theorem dX10_worth_122 : decode cX10_worth 122 = .ok (.invokevirtual 170, 3) := by decide +kernel
theorem dX10_worth_125 : decode cX10_worth 125 = .ok (.goto 4, 3) := by decide +kernel
theorem dX10_worth_128 : decode cX10_worth 128 = .ok (.iconst (-1), 1) := by decide +kernel
theorem dX10_worth_129 : decode cX10_worth 129 = .ok (.ireturn, 1) := by decide +kernel
theorem dX10_chance_0 : decode cX10_chance 0 = .ok (.iload 5, 2) := by decide +kernel
theorem dX10_chance_2 : decode cX10_chance 2 = .ok (.ifCond .lt 41, 3) := by decide +kernel
theorem dX10_chance_5 : decode cX10_chance 5 = .ok (.iload 5, 2) := by decide +kernel
theorem dX10_chance_7 : decode cX10_chance 7 = .ok (.iconst 3, 1) := by decide +kernel
theorem dX10_chance_8 : decode cX10_chance 8 = .ok (.if_icmp .gt 35, 3) := by decide +kernel
theorem dX10_chance_11 : decode cX10_chance 11 = .ok (.aload_n 0, 1) := by decide +kernel
theorem dX10_chance_12 : decode cX10_chance 12 = .ok (.getfield 30, 3) := by decide +kernel
theorem dX10_chance_15 : decode cX10_chance 15 = .ok (.aload_n 0, 1) := by decide +kernel
theorem dX10_chance_16 : decode cX10_chance 16 = .ok (.getfield 10, 3) := by decide +kernel
theorem dX10_chance_19 : decode cX10_chance 19 = .ok (.iload_n 1, 1) := by decide +kernel
theorem dX10_chance_20 : decode cX10_chance 20 = .ok (.iload_n 2, 1) := by decide +kernel
theorem dX10_chance_21 : decode cX10_chance 21 = .ok (.iload_n 3, 1) := by decide +kernel
theorem dX10_chance_22 : decode cX10_chance 22 = .ok (.invokevirtual 145, 3) := by decide +kernel
theorem dX10_chance_25 : decode cX10_chance 25 = .ok (.ifCond .eq 18, 3) := by decide +kernel
theorem dX10_chance_28 : decode cX10_chance 28 = .ok (.aload_n 0, 1) := by decide +kernel
theorem dX10_chance_29 : decode cX10_chance 29 = .ok (.getfield 30, 3) := by decide +kernel
theorem dX10_chance_32 : decode cX10_chance 32 = .ok (.getfield 148, 3) := by decide +kernel
theorem dX10_chance_35 : decode cX10_chance 35 = .ok (.iload 4, 2) := by decide +kernel
theorem dX10_chance_37 : decode cX10_chance 37 = .ok (.invokevirtual 135, 3) := by decide +kernel
theorem dX10_chance_40 : decode cX10_chance 40 = .ok (.ifCond .ne 7, 3) := by decide +kernel
theorem dX10_chance_43 : decode cX10_chance 43 = .ok (.ldc2_w 173, 3) := by decide +kernel
theorem dX10_chance_46 : decode cX10_chance 46 = .ok (.lreturn, 1) := by decide +kernel
theorem dX10_chance_47 : decode cX10_chance 47 = .ok (.aload_n 0, 1) := by decide +kernel
theorem dX10_chance_48 : decode cX10_chance 48 = .ok (.getfield 30, 3) := by decide +kernel
theorem dX10_chance_51 : decode cX10_chance 51 = .ok (.iload 4, 2) := by decide +kernel
theorem dX10_chance_53 : decode cX10_chance 53 = .ok (.invokevirtual 152, 3) := by decide +kernel
theorem dX10_chance_56 : decode cX10_chance 56 = .ok (.aload_n 0, 1) := by decide +kernel
theorem dX10_chance_57 : decode cX10_chance 57 = .ok (.getfield 30, 3) := by decide +kernel
theorem dX10_chance_60 : decode cX10_chance 60 = .ok (.iload 5, 2) := by decide +kernel
theorem dX10_chance_62 : decode cX10_chance 62 = .ok (.invokevirtual 175, 3) := by decide +kernel
theorem dX10_chance_65 : decode cX10_chance 65 = .ok (.lreturn, 1) := by decide +kernel
theorem dX10_play_0 : decode cX10_play 0 = .ok (.iload 5, 2) := by decide +kernel
theorem dX10_play_2 : decode cX10_play 2 = .ok (.invokestatic 179, 3) := by decide +kernel
theorem dX10_play_5 : decode cX10_play 5 = .ok (.ifCond .eq 20, 3) := by decide +kernel
theorem dX10_play_8 : decode cX10_play 8 = .ok (.aload_n 0, 1) := by decide +kernel
theorem dX10_play_9 : decode cX10_play 9 = .ok (.getfield 30, 3) := by decide +kernel
theorem dX10_play_12 : decode cX10_play 12 = .ok (.aload_n 0, 1) := by decide +kernel
theorem dX10_play_13 : decode cX10_play 13 = .ok (.getfield 10, 3) := by decide +kernel
theorem dX10_play_16 : decode cX10_play 16 = .ok (.iload_n 1, 1) := by decide +kernel
theorem dX10_play_17 : decode cX10_play 17 = .ok (.iload_n 2, 1) := by decide +kernel
theorem dX10_play_18 : decode cX10_play 18 = .ok (.iload_n 3, 1) := by decide +kernel
theorem dX10_play_19 : decode cX10_play 19 = .ok (.invokevirtual 145, 3) := by decide +kernel
theorem dX10_play_22 : decode cX10_play 22 = .ok (.ifCond .ne 5, 3) := by decide +kernel
theorem dX10_play_25 : decode cX10_play 25 = .ok (.iconst (-1), 1) := by decide +kernel
theorem dX10_play_26 : decode cX10_play 26 = .ok (.ireturn, 1) := by decide +kernel
theorem dX10_play_27 : decode cX10_play 27 = .ok (.aload_n 0, 1) := by decide +kernel
theorem dX10_play_28 : decode cX10_play 28 = .ok (.getfield 30, 3) := by decide +kernel
theorem dX10_play_31 : decode cX10_play 31 = .ok (.getfield 148, 3) := by decide +kernel
theorem dX10_play_34 : decode cX10_play 34 = .ok (.getfield 132, 3) := by decide +kernel
theorem dX10_play_37 : decode cX10_play 37 = .ok (.istore 6, 2) := by decide +kernel
theorem dX10_play_39 : decode cX10_play 39 = .ok (.aload_n 0, 1) := by decide +kernel
theorem dX10_play_40 : decode cX10_play 40 = .ok (.getfield 10, 3) := by decide +kernel
theorem dX10_play_43 : decode cX10_play 43 = .ok (.iconst 3, 1) := by decide +kernel
theorem dX10_play_44 : decode cX10_play 44 = .ok (.invokevirtual 182, 3) := by decide +kernel
theorem dX10_play_47 : decode cX10_play 47 = .ok (.iload 6, 2) := by decide +kernel
theorem dX10_play_49 : decode cX10_play 49 = .ok (.iadd, 1) := by decide +kernel
theorem dX10_play_50 : decode cX10_play 50 = .ok (.bipush 80, 2) := by decide +kernel
theorem dX10_play_52 : decode cX10_play 52 = .ok (.if_icmp .le 5, 3) := by decide +kernel
theorem dX10_play_55 : decode cX10_play 55 = .ok (.iconst (-1), 1) := by decide +kernel
theorem dX10_play_56 : decode cX10_play 56 = .ok (.ireturn, 1) := by decide +kernel
theorem dX10_play_57 : decode cX10_play 57 = .ok (.new 185, 3) := by decide +kernel
theorem dX10_play_60 : decode cX10_play 60 = .ok (.dup, 1) := by decide +kernel
theorem dX10_play_61 : decode cX10_play 61 = .ok (.iload 4, 2) := by decide +kernel
theorem dX10_play_63 : decode cX10_play 63 = .ok (.invokespecial 187, 3) := by decide +kernel
theorem dX10_play_66 : decode cX10_play 66 = .ok (.astore 7, 2) := by decide +kernel
theorem dX10_play_68 : decode cX10_play 68 = .ok (.iconst 0, 1) := by decide +kernel
theorem dX10_play_69 : decode cX10_play 69 = .ok (.istore 8, 2) := by decide +kernel
theorem dX10_play_71 : decode cX10_play 71 = .ok (.iload 8, 2) := by decide +kernel
theorem dX10_play_73 : decode cX10_play 73 = .ok (.iload 6, 2) := by decide +kernel
theorem dX10_play_75 : decode cX10_play 75 = .ok (.if_icmp .ge 28, 3) := by decide +kernel
theorem dX10_play_78 : decode cX10_play 78 = .ok (.aload_n 0, 1) := by decide +kernel
theorem dX10_play_79 : decode cX10_play 79 = .ok (.getfield 30, 3) := by decide +kernel
theorem dX10_play_82 : decode cX10_play 82 = .ok (.iload 8, 2) := by decide +kernel
theorem dX10_play_84 : decode cX10_play 84 = .ok (.invokevirtual 152, 3) := by decide +kernel
theorem dX10_play_87 : decode cX10_play 87 = .ok (.aload_n 0, 1) := by decide +kernel
theorem dX10_play_88 : decode cX10_play 88 = .ok (.iload 8, 2) := by decide +kernel
theorem dX10_play_90 : decode cX10_play 90 = .ok (.iload 5, 2) := by decide +kernel
theorem dX10_play_92 : decode cX10_play 92 = .ok (.aload 7, 2) := by decide +kernel
theorem dX10_play_94 : decode cX10_play 94 = .ok (.invokevirtual 189, 3) := by decide +kernel
theorem dX10_play_97 : decode cX10_play 97 = .ok (.iinc 8 1, 3) := by decide +kernel
theorem dX10_play_100 : decode cX10_play 100 = .ok (.goto (-29), 3) := by decide +kernel
theorem dX10_play_103 : decode cX10_play 103 = .ok (.iload 6, 2) := by decide +kernel
theorem dX10_play_105 : decode cX10_play 105 = .ok (.ireturn, 1) := by decide +kernel
theorem dX10_playOne_0 : decode cX10_playOne 0 = .ok (.aload_n 3, 1) := by decide +kernel
theorem dX10_playOne_1 : decode cX10_playOne 1 = .ok (.aload_n 0, 1) := by decide +kernel
theorem dX10_playOne_2 : decode cX10_playOne 2 = .ok (.getfield 30, 3) := by decide +kernel
theorem dX10_playOne_5 : decode cX10_playOne 5 = .ok (.getfield 161, 3) := by decide +kernel
theorem dX10_playOne_8 : decode cX10_playOne 8 = .ok (.invokevirtual 193, 3) := by decide +kernel
theorem dX10_playOne_11 : decode cX10_playOne 11 = .ok (.istore 4, 2) := by decide +kernel
theorem dX10_playOne_13 : decode cX10_playOne 13 = .ok (.aload_n 3, 1) := by decide +kernel
theorem dX10_playOne_14 : decode cX10_playOne 14 = .ok (.aload_n 0, 1) := by decide +kernel
theorem dX10_playOne_15 : decode cX10_playOne 15 = .ok (.getfield 30, 3) := by decide +kernel
theorem dX10_playOne_18 : decode cX10_playOne 18 = .ok (.getfield 164, 3) := by decide +kernel
theorem dX10_playOne_21 : decode cX10_playOne 21 = .ok (.invokevirtual 193, 3) := by decide +kernel
theorem dX10_playOne_24 : decode cX10_playOne 24 = .ok (.istore 5, 2) := by decide +kernel
theorem dX10_playOne_26 : decode cX10_playOne 26 = .ok (.aload_n 3, 1) := by decide +kernel
theorem dX10_playOne_27 : decode cX10_playOne 27 = .ok (.iconst 4, 1) := by decide +kernel
theorem dX10_playOne_28 : decode cX10_playOne 28 = .ok (.invokevirtual 196, 3) := by decide +kernel
theorem dX10_playOne_31 : decode cX10_playOne 31 = .ok (.istore 6, 2) := by decide +kernel
theorem dX10_playOne_33 : decode cX10_playOne 33 = .ok (.aload_n 3, 1) := by decide +kernel
theorem dX10_playOne_34 : decode cX10_playOne 34 = .ok (.iconst 4, 1) := by decide +kernel
theorem dX10_playOne_35 : decode cX10_playOne 35 = .ok (.invokevirtual 196, 3) := by decide +kernel
theorem dX10_playOne_38 : decode cX10_playOne 38 = .ok (.aload_n 0, 1) := by decide +kernel
theorem dX10_playOne_39 : decode cX10_playOne 39 = .ok (.getfield 30, 3) := by decide +kernel
theorem dX10_playOne_42 : decode cX10_playOne 42 = .ok (.iconst 4, 1) := by decide +kernel
theorem dX10_playOne_43 : decode cX10_playOne 43 = .ok (.invokevirtual 170, 3) := by decide +kernel
theorem dX10_playOne_46 : decode cX10_playOne 46 = .ok (.ifCond .le 7, 3) := by decide +kernel
theorem dX10_playOne_49 : decode cX10_playOne 49 = .ok (.iconst 1, 1) := by decide +kernel
theorem dX10_playOne_50 : decode cX10_playOne 50 = .ok (.goto 4, 3) := by decide +kernel
theorem dX10_playOne_53 : decode cX10_playOne 53 = .ok (.iconst 0, 1) := by decide +kernel
theorem dX10_playOne_54 : decode cX10_playOne 54 = .ok (.iadd, 1) := by decide +kernel
theorem dX10_playOne_55 : decode cX10_playOne 55 = .ok (.istore 7, 2) := by decide +kernel
theorem dX10_playOne_57 : decode cX10_playOne 57 = .ok (.aload_n 0, 1) := by decide +kernel
theorem dX10_playOne_58 : decode cX10_playOne 58 = .ok (.getfield 30, 3) := by decide +kernel
theorem dX10_playOne_61 : decode cX10_playOne 61 = .ok (.getfield 148, 3) := by decide +kernel
theorem dX10_playOne_64 : decode cX10_playOne 64 = .ok (.iload_n 1, 1) := by decide +kernel
theorem dX10_playOne_65 : decode cX10_playOne 65 = .ok (.iconst 4, 1) := by decide +kernel
theorem dX10_playOne_66 : decode cX10_playOne 66 = .ok (.invokevirtual 138, 3) := by decide +kernel
theorem dX10_playOne_69 : decode cX10_playOne 69 = .ok (.istore 8, 2) := by decide +kernel
theorem dX10_playOne_71 : decode cX10_playOne 71 = .ok (.iconst 1, 1) := by decide +kernel
theorem dX10_playOne_72 : decode cX10_playOne 72 = .ok (.aload_n 3, 1) := by decide +kernel
theorem dX10_playOne_73 : decode cX10_playOne 73 = .ok (.iconst 3, 1) := by decide +kernel
theorem dX10_playOne_74 : decode cX10_playOne 74 = .ok (.invokevirtual 196, 3) := by decide +kernel
theorem dX10_playOne_77 : decode cX10_playOne 77 = .ok (.iadd, 1) := by decide +kernel
theorem dX10_playOne_78 : decode cX10_playOne 78 = .ok (.iload 8, 2) := by decide +kernel
theorem dX10_playOne_80 : decode cX10_playOne 80 = .ok (.iconst 1, 1) := by decide +kernel
theorem dX10_playOne_81 : decode cX10_playOne 81 = .ok (.if_icmp .ne 16, 3) := by decide +kernel
theorem dX10_playOne_84 : decode cX10_playOne 84 = .ok (.iload 4, 2) := by decide +kernel
theorem dX10_playOne_86 : decode cX10_playOne 86 = .ok (.iload 5, 2) := by decide +kernel
theorem dX10_playOne_88 : decode cX10_playOne 88 = .ok (.isub, 1) := by decide +kernel
theorem dX10_playOne_89 : decode cX10_playOne 89 = .ok (.iconst (-1), 1) := by decide +kernel
theorem dX10_playOne_90 : decode cX10_playOne 90 = .ok (.if_icmp .ne 7, 3) := by decide +kernel
theorem dX10_playOne_93 : decode cX10_playOne 93 = .ok (.iconst 2, 1) := by decide +kernel
theorem dX10_playOne_94 : decode cX10_playOne 94 = .ok (.goto 4, 3) := by decide +kernel
theorem dX10_playOne_97 : decode cX10_playOne 97 = .ok (.iconst 0, 1) := by decide +kernel
theorem dX10_playOne_98 : decode cX10_playOne 98 = .ok (.iadd, 1) := by decide +kernel
theorem dX10_playOne_99 : decode cX10_playOne 99 = .ok (.istore 9, 2) := by decide +kernel
theorem dX10_playOne_101 : decode cX10_playOne 101 = .ok (.aload_n 0, 1) := by decide +kernel
theorem dX10_playOne_102 : decode cX10_playOne 102 = .ok (.getfield 10, 3) := by decide +kernel
theorem dX10_playOne_105 : decode cX10_playOne 105 = .ok (.invokevirtual 199, 3) := by decide +kernel
theorem dX10_playOne_108 : decode cX10_playOne 108 = .ok (.istore 10, 2) := by decide +kernel
theorem dX10_playOne_110 : decode cX10_playOne 110 = .ok (.aload_n 0, 1) := by decide +kernel
theorem dX10_playOne_111 : decode cX10_playOne 111 = .ok (.getfield 10, 3) := by decide +kernel
theorem dX10_playOne_114 : decode cX10_playOne 114 = .ok (.iload 10, 2) := by decide +kernel
theorem dX10_playOne_116 : decode cX10_playOne 116 = .ok (.iconst 0, 1) := by decide +kernel
theorem dX10_playOne_117 : decode cX10_playOne 117 = .ok (.aload_n 0, 1) := by decide +kernel
theorem dX10_playOne_118 : decode cX10_playOne 118 = .ok (.getfield 30, 3) := by decide +kernel
theorem dX10_playOne_121 : decode cX10_playOne 121 = .ok (.getfield 148, 3) := by decide +kernel
theorem dX10_playOne_124 : decode cX10_playOne 124 = .ok (.iload_n 1, 1) := by decide +kernel
theorem dX10_playOne_125 : decode cX10_playOne 125 = .ok (.iconst 0, 1) := by decide +kernel
theorem dX10_playOne_126 : decode cX10_playOne 126 = .ok (.invokevirtual 138, 3) := by decide +kernel
theorem dX10_playOne_129 : decode cX10_playOne 129 = .ok (.invokevirtual 203, 3) := by decide +kernel
theorem dX10_playOne_132 : decode cX10_playOne 132 = .ok (.aload_n 0, 1) := by decide +kernel
theorem dX10_playOne_133 : decode cX10_playOne 133 = .ok (.getfield 10, 3) := by decide +kernel
theorem dX10_playOne_136 : decode cX10_playOne 136 = .ok (.iload 10, 2) := by decide +kernel
theorem dX10_playOne_138 : decode cX10_playOne 138 = .ok (.iconst 1, 1) := by decide +kernel
theorem dX10_playOne_139 : decode cX10_playOne 139 = .ok (.aload_n 0, 1) := by decide +kernel
theorem dX10_playOne_140 : decode cX10_playOne 140 = .ok (.getfield 30, 3) := by decide +kernel
theorem dX10_playOne_143 : decode cX10_playOne 143 = .ok (.getfield 148, 3) := by decide +kernel
theorem dX10_playOne_146 : decode cX10_playOne 146 = .ok (.iload_n 1, 1) := by decide +kernel
theorem dX10_playOne_147 : decode cX10_playOne 147 = .ok (.iconst 1, 1) := by decide +kernel
theorem dX10_playOne_148 : decode cX10_playOne 148 = .ok (.invokevirtual 138, 3) := by decide +kernel
theorem dX10_playOne_151 : decode cX10_playOne 151 = .ok (.invokevirtual 203, 3) := by decide +kernel
theorem dX10_playOne_154 : decode cX10_playOne 154 = .ok (.aload_n 0, 1) := by decide +kernel
theorem dX10_playOne_155 : decode cX10_playOne 155 = .ok (.getfield 10, 3) := by decide +kernel
theorem dX10_playOne_158 : decode cX10_playOne 158 = .ok (.iload 10, 2) := by decide +kernel
theorem dX10_playOne_160 : decode cX10_playOne 160 = .ok (.iconst 2, 1) := by decide +kernel
theorem dX10_playOne_161 : decode cX10_playOne 161 = .ok (.iload_n 2, 1) := by decide +kernel
theorem dX10_playOne_162 : decode cX10_playOne 162 = .ok (.invokevirtual 203, 3) := by decide +kernel
theorem dX10_playOne_165 : decode cX10_playOne 165 = .ok (.aload_n 0, 1) := by decide +kernel
theorem dX10_playOne_166 : decode cX10_playOne 166 = .ok (.getfield 10, 3) := by decide +kernel
theorem dX10_playOne_169 : decode cX10_playOne 169 = .ok (.iload 10, 2) := by decide +kernel
theorem dX10_playOne_171 : decode cX10_playOne 171 = .ok (.iconst 3, 1) := by decide +kernel
theorem dX10_playOne_172 : decode cX10_playOne 172 = .ok (.iload 4, 2) := by decide +kernel
theorem dX10_playOne_174 : decode cX10_playOne 174 = .ok (.invokevirtual 203, 3) := by decide +kernel
theorem dX10_playOne_177 : decode cX10_playOne 177 = .ok (.aload_n 0, 1) := by decide +kernel
theorem dX10_playOne_178 : decode cX10_playOne 178 = .ok (.getfield 10, 3) := by decide +kernel
theorem dX10_playOne_181 : decode cX10_playOne 181 = .ok (.iload 10, 2) := by decide +kernel
theorem dX10_playOne_183 : decode cX10_playOne 183 = .ok (.iconst 4, 1) := by decide +kernel
theorem dX10_playOne_184 : decode cX10_playOne 184 = .ok (.iload 5, 2) := by decide +kernel
theorem dX10_playOne_186 : decode cX10_playOne 186 = .ok (.invokevirtual 203, 3) := by decide +kernel
theorem dX10_playOne_189 : decode cX10_playOne 189 = .ok (.aload_n 0, 1) := by decide +kernel
theorem dX10_playOne_190 : decode cX10_playOne 190 = .ok (.getfield 10, 3) := by decide +kernel
theorem dX10_playOne_193 : decode cX10_playOne 193 = .ok (.iload 10, 2) := by decide +kernel
theorem dX10_playOne_195 : decode cX10_playOne 195 = .ok (.iconst 5, 1) := by decide +kernel
theorem dX10_playOne_196 : decode cX10_playOne 196 = .ok (.iload 6, 2) := by decide +kernel
theorem dX10_playOne_198 : decode cX10_playOne 198 = .ok (.invokevirtual 203, 3) := by decide +kernel
theorem dX10_playOne_201 : decode cX10_playOne 201 = .ok (.aload_n 0, 1) := by decide +kernel
theorem dX10_playOne_202 : decode cX10_playOne 202 = .ok (.getfield 10, 3) := by decide +kernel
theorem dX10_playOne_205 : decode cX10_playOne 205 = .ok (.iload 10, 2) := by decide +kernel
theorem dX10_playOne_207 : decode cX10_playOne 207 = .ok (.bipush 6, 2) := by decide +kernel
theorem dX10_playOne_209 : decode cX10_playOne 209 = .ok (.iload 7, 2) := by decide +kernel
theorem dX10_playOne_211 : decode cX10_playOne 211 = .ok (.invokevirtual 203, 3) := by decide +kernel
theorem dX10_playOne_214 : decode cX10_playOne 214 = .ok (.aload_n 0, 1) := by decide +kernel
theorem dX10_playOne_215 : decode cX10_playOne 215 = .ok (.getfield 10, 3) := by decide +kernel
theorem dX10_playOne_218 : decode cX10_playOne 218 = .ok (.iload 10, 2) := by decide +kernel
theorem dX10_playOne_220 : decode cX10_playOne 220 = .ok (.bipush 7, 2) := by decide +kernel
theorem dX10_playOne_222 : decode cX10_playOne 222 = .ok (.iload 9, 2) := by decide +kernel
theorem dX10_playOne_224 : decode cX10_playOne 224 = .ok (.invokevirtual 203, 3) := by decide +kernel
theorem dX10_playOne_227 : decode cX10_playOne 227 = .ok (.aload_n 0, 1) := by decide +kernel
theorem dX10_playOne_228 : decode cX10_playOne 228 = .ok (.getfield 10, 3) := by decide +kernel
theorem dX10_playOne_231 : decode cX10_playOne 231 = .ok (.iload 10, 2) := by decide +kernel
theorem dX10_playOne_233 : decode cX10_playOne 233 = .ok (.bipush 8, 2) := by decide +kernel
theorem dX10_playOne_235 : decode cX10_playOne 235 = .ok (.aload_n 0, 1) := by decide +kernel
theorem dX10_playOne_236 : decode cX10_playOne 236 = .ok (.getfield 30, 3) := by decide +kernel
theorem dX10_playOne_239 : decode cX10_playOne 239 = .ok (.getfield 158, 3) := by decide +kernel
theorem dX10_playOne_242 : decode cX10_playOne 242 = .ok (.invokevirtual 203, 3) := by decide +kernel
theorem dX10_playOne_245 : decode cX10_playOne 245 = .ok (.aload_n 0, 1) := by decide +kernel
theorem dX10_playOne_246 : decode cX10_playOne 246 = .ok (.getfield 10, 3) := by decide +kernel
theorem dX10_playOne_249 : decode cX10_playOne 249 = .ok (.iload 10, 2) := by decide +kernel
theorem dX10_playOne_251 : decode cX10_playOne 251 = .ok (.bipush 9, 2) := by decide +kernel
theorem dX10_playOne_253 : decode cX10_playOne 253 = .ok (.iload 8, 2) := by decide +kernel
theorem dX10_playOne_255 : decode cX10_playOne 255 = .ok (.invokevirtual 203, 3) := by decide +kernel
theorem dX10_playOne_258 : decode cX10_playOne 258 = .ok (.return_, 1) := by decide +kernel
theorem dX10_note_0 : decode cX10_note 0 = .ok (.iload_n 1, 1) := by decide +kernel
theorem dX10_note_1 : decode cX10_note 1 = .ok (.invokestatic 206, 3) := by decide +kernel
theorem dX10_note_4 : decode cX10_note 4 = .ok (.ifCond .eq 19, 3) := by decide +kernel
theorem dX10_note_7 : decode cX10_note 7 = .ok (.iload_n 2, 1) := by decide +kernel
theorem dX10_note_8 : decode cX10_note 8 = .ok (.invokestatic 206, 3) := by decide +kernel
theorem dX10_note_11 : decode cX10_note 11 = .ok (.ifCond .eq 12, 3) := by decide +kernel
theorem dX10_note_14 : decode cX10_note 14 = .ok (.iload_n 1, 1) := by decide +kernel
theorem dX10_note_15 : decode cX10_note 15 = .ok (.iload_n 2, 1) := by decide +kernel
theorem dX10_note_16 : decode cX10_note 16 = .ok (.if_icmp .eq 7, 3) := by decide +kernel
theorem dX10_note_19 : decode cX10_note 19 = .ok (.iconst 1, 1) := by decide +kernel
theorem dX10_note_20 : decode cX10_note 20 = .ok (.goto 4, 3) := by decide +kernel
theorem dX10_note_23 : decode cX10_note 23 = .ok (.iconst 0, 1) := by decide +kernel
theorem dX10_note_24 : decode cX10_note 24 = .ok (.istore 9, 2) := by decide +kernel
theorem dX10_note_26 : decode cX10_note 26 = .ok (.iload 4, 2) := by decide +kernel
theorem dX10_note_28 : decode cX10_note 28 = .ok (.iconst 0, 1) := by decide +kernel
theorem dX10_note_29 : decode cX10_note 29 = .ok (.bipush 99, 2) := by decide +kernel
theorem dX10_note_31 : decode cX10_note 31 = .ok (.invokestatic 209, 3) := by decide +kernel
theorem dX10_note_34 : decode cX10_note 34 = .ok (.ifCond .eq 18, 3) := by decide +kernel
theorem dX10_note_37 : decode cX10_note 37 = .ok (.iload 5, 2) := by decide +kernel
theorem dX10_note_39 : decode cX10_note 39 = .ok (.iconst 0, 1) := by decide +kernel
theorem dX10_note_40 : decode cX10_note 40 = .ok (.bipush 99, 2) := by decide +kernel
theorem dX10_note_42 : decode cX10_note 42 = .ok (.invokestatic 209, 3) := by decide +kernel
theorem dX10_note_45 : decode cX10_note 45 = .ok (.ifCond .eq 7, 3) := by decide +kernel
theorem dX10_note_48 : decode cX10_note 48 = .ok (.iconst 1, 1) := by decide +kernel
theorem dX10_note_49 : decode cX10_note 49 = .ok (.goto 4, 3) := by decide +kernel
theorem dX10_note_52 : decode cX10_note 52 = .ok (.iconst 0, 1) := by decide +kernel
theorem dX10_note_53 : decode cX10_note 53 = .ok (.istore 10, 2) := by decide +kernel
theorem dX10_note_55 : decode cX10_note 55 = .ok (.iload 6, 2) := by decide +kernel
theorem dX10_note_57 : decode cX10_note 57 = .ok (.iconst 0, 1) := by decide +kernel
theorem dX10_note_58 : decode cX10_note 58 = .ok (.bipush 19, 2) := by decide +kernel
theorem dX10_note_60 : decode cX10_note 60 = .ok (.invokestatic 209, 3) := by decide +kernel
theorem dX10_note_63 : decode cX10_note 63 = .ok (.ifCond .eq 27, 3) := by decide +kernel
theorem dX10_note_66 : decode cX10_note 66 = .ok (.iload 7, 2) := by decide +kernel
theorem dX10_note_68 : decode cX10_note 68 = .ok (.iconst 0, 1) := by decide +kernel
theorem dX10_note_69 : decode cX10_note 69 = .ok (.sipush 999, 3) := by decide +kernel
theorem dX10_note_72 : decode cX10_note 72 = .ok (.invokestatic 209, 3) := by decide +kernel
theorem dX10_note_75 : decode cX10_note 75 = .ok (.ifCond .eq 15, 3) := by decide +kernel
theorem dX10_note_78 : decode cX10_note 78 = .ok (.iload 8, 2) := by decide +kernel
theorem dX10_note_80 : decode cX10_note 80 = .ok (.invokestatic 213, 3) := by decide +kernel
theorem dX10_note_83 : decode cX10_note 83 = .ok (.ifCond .eq 7, 3) := by decide +kernel
theorem dX10_note_86 : decode cX10_note 86 = .ok (.iconst 1, 1) := by decide +kernel
theorem dX10_note_87 : decode cX10_note 87 = .ok (.goto 4, 3) := by decide +kernel
theorem dX10_note_90 : decode cX10_note 90 = .ok (.iconst 0, 1) := by decide +kernel
theorem dX10_note_91 : decode cX10_note 91 = .ok (.istore 11, 2) := by decide +kernel
theorem dX10_note_93 : decode cX10_note 93 = .ok (.iload 9, 2) := by decide +kernel
theorem dX10_note_95 : decode cX10_note 95 = .ok (.ifCond .eq 33, 3) := by decide +kernel
theorem dX10_note_98 : decode cX10_note 98 = .ok (.iload 10, 2) := by decide +kernel
theorem dX10_note_100 : decode cX10_note 100 = .ok (.ifCond .eq 28, 3) := by decide +kernel
theorem dX10_note_103 : decode cX10_note 103 = .ok (.iload 11, 2) := by decide +kernel
theorem dX10_note_105 : decode cX10_note 105 = .ok (.ifCond .eq 23, 3) := by decide +kernel
theorem dX10_note_108 : decode cX10_note 108 = .ok (.iload_n 3, 1) := by decide +kernel
theorem dX10_note_109 : decode cX10_note 109 = .ok (.invokestatic 179, 3) := by decide +kernel
theorem dX10_note_112 : decode cX10_note 112 = .ok (.ifCond .eq 16, 3) := by decide +kernel
theorem dX10_note_115 : decode cX10_note 115 = .ok (.aload_n 0, 1) := by decide +kernel
theorem dX10_note_116 : decode cX10_note 116 = .ok (.getfield 10, 3) := by decide +kernel
theorem dX10_note_119 : decode cX10_note 119 = .ok (.iconst 3, 1) := by decide +kernel
theorem dX10_note_120 : decode cX10_note 120 = .ok (.invokevirtual 182, 3) := by decide +kernel
theorem dX10_note_123 : decode cX10_note 123 = .ok (.bipush 80, 2) := by decide +kernel
theorem dX10_note_125 : decode cX10_note 125 = .ok (.if_icmp .lt 5, 3) := by decide +kernel
theorem dX10_note_128 : decode cX10_note 128 = .ok (.iconst (-1), 1) := by decide +kernel
theorem dX10_note_129 : decode cX10_note 129 = .ok (.ireturn, 1) := by decide +kernel
theorem dX10_note_130 : decode cX10_note 130 = .ok (.aload_n 0, 1) := by decide +kernel
theorem dX10_note_131 : decode cX10_note 131 = .ok (.getfield 10, 3) := by decide +kernel
theorem dX10_note_134 : decode cX10_note 134 = .ok (.invokevirtual 199, 3) := by decide +kernel
theorem dX10_note_137 : decode cX10_note 137 = .ok (.istore 12, 2) := by decide +kernel
theorem dX10_note_139 : decode cX10_note 139 = .ok (.aload_n 0, 1) := by decide +kernel
theorem dX10_note_140 : decode cX10_note 140 = .ok (.getfield 10, 3) := by decide +kernel
theorem dX10_note_143 : decode cX10_note 143 = .ok (.iload 12, 2) := by decide +kernel
theorem dX10_note_145 : decode cX10_note 145 = .ok (.iconst 0, 1) := by decide +kernel
theorem dX10_note_146 : decode cX10_note 146 = .ok (.iload_n 1, 1) := by decide +kernel
theorem dX10_note_147 : decode cX10_note 147 = .ok (.invokevirtual 203, 3) := by decide +kernel
theorem dX10_note_150 : decode cX10_note 150 = .ok (.aload_n 0, 1) := by decide +kernel
theorem dX10_note_151 : decode cX10_note 151 = .ok (.getfield 10, 3) := by decide +kernel
theorem dX10_note_154 : decode cX10_note 154 = .ok (.iload 12, 2) := by decide +kernel
theorem dX10_note_156 : decode cX10_note 156 = .ok (.iconst 1, 1) := by decide +kernel
theorem dX10_note_157 : decode cX10_note 157 = .ok (.iload_n 2, 1) := by decide +kernel
theorem dX10_note_158 : decode cX10_note 158 = .ok (.invokevirtual 203, 3) := by decide +kernel
theorem dX10_note_161 : decode cX10_note 161 = .ok (.aload_n 0, 1) := by decide +kernel
theorem dX10_note_162 : decode cX10_note 162 = .ok (.getfield 10, 3) := by decide +kernel
theorem dX10_note_165 : decode cX10_note 165 = .ok (.iload 12, 2) := by decide +kernel
theorem dX10_note_167 : decode cX10_note 167 = .ok (.iconst 2, 1) := by decide +kernel
theorem dX10_note_168 : decode cX10_note 168 = .ok (.iload_n 3, 1) := by decide +kernel
theorem dX10_note_169 : decode cX10_note 169 = .ok (.invokevirtual 203, 3) := by decide +kernel
theorem dX10_note_172 : decode cX10_note 172 = .ok (.aload_n 0, 1) := by decide +kernel
theorem dX10_note_173 : decode cX10_note 173 = .ok (.getfield 10, 3) := by decide +kernel
theorem dX10_note_176 : decode cX10_note 176 = .ok (.iload 12, 2) := by decide +kernel
theorem dX10_note_178 : decode cX10_note 178 = .ok (.iconst 3, 1) := by decide +kernel
theorem dX10_note_179 : decode cX10_note 179 = .ok (.iload 4, 2) := by decide +kernel
theorem dX10_note_181 : decode cX10_note 181 = .ok (.bipush 10, 2) := by decide +kernel
theorem dX10_note_183 : decode cX10_note 183 = .ok (.idiv, 1) := by decide +kernel
theorem dX10_note_184 : decode cX10_note 184 = .ok (.invokevirtual 203, 3) := by decide +kernel
theorem dX10_note_187 : decode cX10_note 187 = .ok (.aload_n 0, 1) := by decide +kernel
theorem dX10_note_188 : decode cX10_note 188 = .ok (.getfield 10, 3) := by decide +kernel
theorem dX10_note_191 : decode cX10_note 191 = .ok (.iload 12, 2) := by decide +kernel
theorem dX10_note_193 : decode cX10_note 193 = .ok (.iconst 4, 1) := by decide +kernel
theorem dX10_note_194 : decode cX10_note 194 = .ok (.iload 4, 2) := by decide +kernel
theorem dX10_note_196 : decode cX10_note 196 = .ok (.bipush 10, 2) := by decide +kernel
theorem dX10_note_198 : decode cX10_note 198 = .ok (.irem, 1) := by decide +kernel
theorem dX10_note_199 : decode cX10_note 199 = .ok (.invokevirtual 203, 3) := by decide +kernel
theorem dX10_note_202 : decode cX10_note 202 = .ok (.aload_n 0, 1) := by decide +kernel
theorem dX10_note_203 : decode cX10_note 203 = .ok (.getfield 10, 3) := by decide +kernel
theorem dX10_note_206 : decode cX10_note 206 = .ok (.iload 12, 2) := by decide +kernel
theorem dX10_note_208 : decode cX10_note 208 = .ok (.iconst 5, 1) := by decide +kernel
theorem dX10_note_209 : decode cX10_note 209 = .ok (.iload 5, 2) := by decide +kernel
theorem dX10_note_211 : decode cX10_note 211 = .ok (.bipush 10, 2) := by decide +kernel
theorem dX10_note_213 : decode cX10_note 213 = .ok (.idiv, 1) := by decide +kernel
theorem dX10_note_214 : decode cX10_note 214 = .ok (.invokevirtual 203, 3) := by decide +kernel
theorem dX10_note_217 : decode cX10_note 217 = .ok (.aload_n 0, 1) := by decide +kernel
theorem dX10_note_218 : decode cX10_note 218 = .ok (.getfield 10, 3) := by decide +kernel
theorem dX10_note_221 : decode cX10_note 221 = .ok (.iload 12, 2) := by decide +kernel
theorem dX10_note_223 : decode cX10_note 223 = .ok (.bipush 6, 2) := by decide +kernel
theorem dX10_note_225 : decode cX10_note 225 = .ok (.iload 5, 2) := by decide +kernel
theorem dX10_note_227 : decode cX10_note 227 = .ok (.bipush 10, 2) := by decide +kernel
theorem dX10_note_229 : decode cX10_note 229 = .ok (.irem, 1) := by decide +kernel
theorem dX10_note_230 : decode cX10_note 230 = .ok (.invokevirtual 203, 3) := by decide +kernel
theorem dX10_note_233 : decode cX10_note 233 = .ok (.aload_n 0, 1) := by decide +kernel
theorem dX10_note_234 : decode cX10_note 234 = .ok (.getfield 10, 3) := by decide +kernel
theorem dX10_note_237 : decode cX10_note 237 = .ok (.iload 12, 2) := by decide +kernel
theorem dX10_note_239 : decode cX10_note 239 = .ok (.bipush 7, 2) := by decide +kernel
theorem dX10_note_241 : decode cX10_note 241 = .ok (.iload 6, 2) := by decide +kernel
theorem dX10_note_243 : decode cX10_note 243 = .ok (.invokevirtual 203, 3) := by decide +kernel
theorem dX10_note_246 : decode cX10_note 246 = .ok (.aload_n 0, 1) := by decide +kernel
theorem dX10_note_247 : decode cX10_note 247 = .ok (.getfield 10, 3) := by decide +kernel
theorem dX10_note_250 : decode cX10_note 250 = .ok (.iload 12, 2) := by decide +kernel
theorem dX10_note_252 : decode cX10_note 252 = .ok (.bipush 8, 2) := by decide +kernel
theorem dX10_note_254 : decode cX10_note 254 = .ok (.iload 7, 2) := by decide +kernel
theorem dX10_note_256 : decode cX10_note 256 = .ok (.invokevirtual 203, 3) := by decide +kernel
theorem dX10_note_259 : decode cX10_note 259 = .ok (.aload_n 0, 1) := by decide +kernel
theorem dX10_note_260 : decode cX10_note 260 = .ok (.getfield 10, 3) := by decide +kernel
theorem dX10_note_263 : decode cX10_note 263 = .ok (.iload 12, 2) := by decide +kernel
theorem dX10_note_265 : decode cX10_note 265 = .ok (.bipush 9, 2) := by decide +kernel
theorem dX10_note_267 : decode cX10_note 267 = .ok (.iload 8, 2) := by decide +kernel
theorem dX10_note_269 : decode cX10_note 269 = .ok (.invokevirtual 203, 3) := by decide +kernel
theorem dX10_note_272 : decode cX10_note 272 = .ok (.iload 12, 2) := by decide +kernel
theorem dX10_note_274 : decode cX10_note 274 = .ok (.ireturn, 1) := by decide +kernel
theorem dX10_noted_0 : decode cX10_noted 0 = .ok (.iload_n 1, 1) := by decide +kernel
theorem dX10_noted_1 : decode cX10_noted 1 = .ok (.ifCond .lt 25, 3) := by decide +kernel
theorem dX10_noted_4 : decode cX10_noted 4 = .ok (.iload_n 1, 1) := by decide +kernel
theorem dX10_noted_5 : decode cX10_noted 5 = .ok (.aload_n 0, 1) := by decide +kernel
theorem dX10_noted_6 : decode cX10_noted 6 = .ok (.getfield 10, 3) := by decide +kernel
theorem dX10_noted_9 : decode cX10_noted 9 = .ok (.iconst 3, 1) := by decide +kernel
theorem dX10_noted_10 : decode cX10_noted 10 = .ok (.invokevirtual 182, 3) := by decide +kernel
theorem dX10_noted_13 : decode cX10_noted 13 = .ok (.if_icmp .ge 13, 3) := by decide +kernel
theorem dX10_noted_16 : decode cX10_noted 16 = .ok (.iload_n 2, 1) := by decide +kernel
theorem dX10_noted_17 : decode cX10_noted 17 = .ok (.ifCond .lt 9, 3) := by decide +kernel
theorem dX10_noted_20 : decode cX10_noted 20 = .ok (.iload_n 2, 1) := by decide +kernel
theorem dX10_noted_21 : decode cX10_noted 21 = .ok (.bipush 10, 2) := by decide +kernel
theorem dX10_noted_23 : decode cX10_noted 23 = .ok (.if_icmp .lt 5, 3) := by decide +kernel
theorem dX10_noted_26 : decode cX10_noted 26 = .ok (.iconst (-1), 1) := by decide +kernel
theorem dX10_noted_27 : decode cX10_noted 27 = .ok (.ireturn, 1) := by decide +kernel
theorem dX10_noted_28 : decode cX10_noted 28 = .ok (.aload_n 0, 1) := by decide +kernel
theorem dX10_noted_29 : decode cX10_noted 29 = .ok (.getfield 10, 3) := by decide +kernel
theorem dX10_noted_32 : decode cX10_noted 32 = .ok (.iload_n 1, 1) := by decide +kernel
theorem dX10_noted_33 : decode cX10_noted 33 = .ok (.iload_n 2, 1) := by decide +kernel
theorem dX10_noted_34 : decode cX10_noted 34 = .ok (.invokevirtual 216, 3) := by decide +kernel
theorem dX10_noted_37 : decode cX10_noted 37 = .ok (.ireturn, 1) := by decide +kernel
theorem dX10_sum_0 : decode cX10_sum 0 = .ok (.iload_n 3, 1) := by decide +kernel
theorem dX10_sum_1 : decode cX10_sum 1 = .ok (.ifCond .lt 8, 3) := by decide +kernel
theorem dX10_sum_4 : decode cX10_sum 4 = .ok (.iload_n 3, 1) := by decide +kernel
theorem dX10_sum_5 : decode cX10_sum 5 = .ok (.iconst 5, 1) := by decide +kernel
theorem dX10_sum_6 : decode cX10_sum 6 = .ok (.if_icmp .le 5, 3) := by decide +kernel
theorem dX10_sum_9 : decode cX10_sum 9 = .ok (.iconst (-1), 1) := by decide +kernel
theorem dX10_sum_10 : decode cX10_sum 10 = .ok (.ireturn, 1) := by decide +kernel
theorem dX10_sum_11 : decode cX10_sum 11 = .ok (.aload_n 0, 1) := by decide +kernel
theorem dX10_sum_12 : decode cX10_sum 12 = .ok (.iload_n 1, 1) := by decide +kernel
theorem dX10_sum_13 : decode cX10_sum 13 = .ok (.iload_n 2, 1) := by decide +kernel
theorem dX10_sum_14 : decode cX10_sum 14 = .ok (.invokevirtual 219, 3) := by decide +kernel
theorem dX10_sum_17 : decode cX10_sum 17 = .ok (.istore 4, 2) := by decide +kernel
theorem dX10_sum_19 : decode cX10_sum 19 = .ok (.iconst 0, 1) := by decide +kernel
theorem dX10_sum_20 : decode cX10_sum 20 = .ok (.istore 5, 2) := by decide +kernel
theorem dX10_sum_22 : decode cX10_sum 22 = .ok (.iconst 0, 1) := by decide +kernel
theorem dX10_sum_23 : decode cX10_sum 23 = .ok (.istore 6, 2) := by decide +kernel
theorem dX10_sum_25 : decode cX10_sum 25 = .ok (.iload 6, 2) := by decide +kernel
theorem dX10_sum_27 : decode cX10_sum 27 = .ok (.iload 4, 2) := by decide +kernel
theorem dX10_sum_29 : decode cX10_sum 29 = .ok (.if_icmp .ge 21, 3) := by decide +kernel
theorem dX10_sum_32 : decode cX10_sum 32 = .ok (.iload 5, 2) := by decide +kernel
theorem dX10_sum_34 : decode cX10_sum 34 = .ok (.aload_n 0, 1) := by decide +kernel
theorem dX10_sum_35 : decode cX10_sum 35 = .ok (.iload 6, 2) := by decide +kernel
theorem dX10_sum_37 : decode cX10_sum 37 = .ok (.iload_n 3, 1) := by decide +kernel
theorem dX10_sum_38 : decode cX10_sum 38 = .ok (.invokevirtual 222, 3) := by decide +kernel
theorem dX10_sum_41 : decode cX10_sum 41 = .ok (.iadd, 1) := by decide +kernel
theorem dX10_sum_42 : decode cX10_sum 42 = .ok (.istore 5, 2) := by decide +kernel
theorem dX10_sum_44 : decode cX10_sum 44 = .ok (.iinc 6 1, 3) := by decide +kernel
theorem dX10_sum_47 : decode cX10_sum 47 = .ok (.goto (-22), 3) := by decide +kernel
theorem dX10_sum_50 : decode cX10_sum 50 = .ok (.iload 5, 2) := by decide +kernel
theorem dX10_sum_52 : decode cX10_sum 52 = .ok (.ireturn, 1) := by decide +kernel
theorem dX10_counted_0 : decode cX10_counted 0 = .ok (.aload_n 0, 1) := by decide +kernel
theorem dX10_counted_1 : decode cX10_counted 1 = .ok (.iload_n 1, 1) := by decide +kernel
theorem dX10_counted_2 : decode cX10_counted 2 = .ok (.invokevirtual 225, 3) := by decide +kernel
theorem dX10_counted_5 : decode cX10_counted 5 = .ok (.istore_n 3, 1) := by decide +kernel
theorem dX10_counted_6 : decode cX10_counted 6 = .ok (.iload_n 2, 1) := by decide +kernel
theorem dX10_counted_7 : decode cX10_counted 7 = .ok (.tableswitch 72 0 4 #[33, 35, 45, 55, 65], 33) := by decide +kernel
theorem dX10_counted_40 : decode cX10_counted 40 = .ok (.iconst 1, 1) := by decide +kernel
theorem dX10_counted_41 : decode cX10_counted 41 = .ok (.ireturn, 1) := by decide +kernel
theorem dX10_counted_42 : decode cX10_counted 42 = .ok (.iload_n 3, 1) := by decide +kernel
theorem dX10_counted_43 : decode cX10_counted 43 = .ok (.ifCond .le 7, 3) := by decide +kernel
theorem dX10_counted_46 : decode cX10_counted 46 = .ok (.iconst 1, 1) := by decide +kernel
theorem dX10_counted_47 : decode cX10_counted 47 = .ok (.goto 4, 3) := by decide +kernel
theorem dX10_counted_50 : decode cX10_counted 50 = .ok (.iconst 0, 1) := by decide +kernel
theorem dX10_counted_51 : decode cX10_counted 51 = .ok (.ireturn, 1) := by decide +kernel
theorem dX10_counted_52 : decode cX10_counted 52 = .ok (.iload_n 3, 1) := by decide +kernel
theorem dX10_counted_53 : decode cX10_counted 53 = .ok (.ifCond .ne 7, 3) := by decide +kernel
theorem dX10_counted_56 : decode cX10_counted 56 = .ok (.iconst 1, 1) := by decide +kernel
theorem dX10_counted_57 : decode cX10_counted 57 = .ok (.goto 4, 3) := by decide +kernel
theorem dX10_counted_60 : decode cX10_counted 60 = .ok (.iconst 0, 1) := by decide +kernel
theorem dX10_counted_61 : decode cX10_counted 61 = .ok (.ireturn, 1) := by decide +kernel
theorem dX10_counted_62 : decode cX10_counted 62 = .ok (.iload_n 3, 1) := by decide +kernel
theorem dX10_counted_63 : decode cX10_counted 63 = .ok (.ifCond .ge 7, 3) := by decide +kernel
theorem dX10_counted_66 : decode cX10_counted 66 = .ok (.iconst 1, 1) := by decide +kernel
theorem dX10_counted_67 : decode cX10_counted 67 = .ok (.goto 4, 3) := by decide +kernel
theorem dX10_counted_70 : decode cX10_counted 70 = .ok (.iconst 0, 1) := by decide +kernel
theorem dX10_counted_71 : decode cX10_counted 71 = .ok (.ireturn, 1) := by decide +kernel
theorem dX10_counted_72 : decode cX10_counted 72 = .ok (.aload_n 0, 1) := by decide +kernel
theorem dX10_counted_73 : decode cX10_counted 73 = .ok (.iload_n 1, 1) := by decide +kernel
theorem dX10_counted_74 : decode cX10_counted 74 = .ok (.iconst 3, 1) := by decide +kernel
theorem dX10_counted_75 : decode cX10_counted 75 = .ok (.invokevirtual 228, 3) := by decide +kernel
theorem dX10_counted_78 : decode cX10_counted 78 = .ok (.ireturn, 1) := by decide +kernel
theorem dX10_counted_79 : decode cX10_counted 79 = .ok (.aload_n 0, 1) := by decide +kernel
theorem dX10_counted_80 : decode cX10_counted 80 = .ok (.iload_n 1, 1) := by decide +kernel
theorem dX10_counted_81 : decode cX10_counted 81 = .ok (.iconst 4, 1) := by decide +kernel
theorem dX10_counted_82 : decode cX10_counted 82 = .ok (.invokevirtual 228, 3) := by decide +kernel
theorem dX10_counted_85 : decode cX10_counted 85 = .ok (.ireturn, 1) := by decide +kernel
theorem dX10_table_0 : decode cX10_table 0 = .ok (.aload_n 0, 1) := by decide +kernel
theorem dX10_table_1 : decode cX10_table 1 = .ok (.iload_n 1, 1) := by decide +kernel
theorem dX10_table_2 : decode cX10_table 2 = .ok (.iload_n 2, 1) := by decide +kernel
theorem dX10_table_3 : decode cX10_table 3 = .ok (.invokevirtual 231, 3) := by decide +kernel
theorem dX10_table_6 : decode cX10_table 6 = .ok (.aload_n 0, 1) := by decide +kernel
theorem dX10_table_7 : decode cX10_table 7 = .ok (.getfield 44, 3) := by decide +kernel
theorem dX10_table_10 : decode cX10_table 10 = .ok (.iload_n 3, 1) := by decide +kernel
theorem dX10_table_11 : decode cX10_table 11 = .ok (.invokevirtual 235, 3) := by decide +kernel
theorem dX10_table_14 : decode cX10_table 14 = .ok (.ireturn, 1) := by decide +kernel
theorem dX10_points_0 : decode cX10_points 0 = .ok (.iload_n 3, 1) := by decide +kernel
theorem dX10_points_1 : decode cX10_points 1 = .ok (.invokestatic 206, 3) := by decide +kernel
theorem dX10_points_4 : decode cX10_points 4 = .ok (.ifCond .ne 5, 3) := by decide +kernel
theorem dX10_points_7 : decode cX10_points 7 = .ok (.iconst (-1), 1) := by decide +kernel
theorem dX10_points_8 : decode cX10_points 8 = .ok (.ireturn, 1) := by decide +kernel
theorem dX10_points_9 : decode cX10_points 9 = .ok (.aload_n 0, 1) := by decide +kernel
theorem dX10_points_10 : decode cX10_points 10 = .ok (.iload_n 1, 1) := by decide +kernel
theorem dX10_points_11 : decode cX10_points 11 = .ok (.iload_n 2, 1) := by decide +kernel
theorem dX10_points_12 : decode cX10_points 12 = .ok (.invokevirtual 231, 3) := by decide +kernel
theorem dX10_points_15 : decode cX10_points 15 = .ok (.aload_n 0, 1) := by decide +kernel
theorem dX10_points_16 : decode cX10_points 16 = .ok (.getfield 44, 3) := by decide +kernel
theorem dX10_points_19 : decode cX10_points 19 = .ok (.iload_n 3, 1) := by decide +kernel
theorem dX10_points_20 : decode cX10_points 20 = .ok (.invokevirtual 238, 3) := by decide +kernel
theorem dX10_points_23 : decode cX10_points 23 = .ok (.ireturn, 1) := by decide +kernel
theorem dX10_fillTable_0 : decode cX10_fillTable 0 = .ok (.aload_n 0, 1) := by decide +kernel
theorem dX10_fillTable_1 : decode cX10_fillTable 1 = .ok (.getfield 44, 3) := by decide +kernel
theorem dX10_fillTable_4 : decode cX10_fillTable 4 = .ok (.invokevirtual 241, 3) := by decide +kernel
theorem dX10_fillTable_7 : decode cX10_fillTable 7 = .ok (.aload_n 0, 1) := by decide +kernel
theorem dX10_fillTable_8 : decode cX10_fillTable 8 = .ok (.iload_n 1, 1) := by decide +kernel
theorem dX10_fillTable_9 : decode cX10_fillTable 9 = .ok (.iload_n 2, 1) := by decide +kernel
theorem dX10_fillTable_10 : decode cX10_fillTable 10 = .ok (.invokevirtual 219, 3) := by decide +kernel
theorem dX10_fillTable_13 : decode cX10_fillTable 13 = .ok (.istore_n 3, 1) := by decide +kernel
theorem dX10_fillTable_14 : decode cX10_fillTable 14 = .ok (.iconst 0, 1) := by decide +kernel
theorem dX10_fillTable_15 : decode cX10_fillTable 15 = .ok (.istore 4, 2) := by decide +kernel
theorem dX10_fillTable_17 : decode cX10_fillTable 17 = .ok (.iload 4, 2) := by decide +kernel
theorem dX10_fillTable_19 : decode cX10_fillTable 19 = .ok (.iload_n 3, 1) := by decide +kernel
theorem dX10_fillTable_20 : decode cX10_fillTable 20 = .ok (.if_icmp .ge 63, 3) := by decide +kernel
theorem dX10_fillTable_23 : decode cX10_fillTable 23 = .ok (.aload_n 0, 1) := by decide +kernel
theorem dX10_fillTable_24 : decode cX10_fillTable 24 = .ok (.iload 4, 2) := by decide +kernel
theorem dX10_fillTable_26 : decode cX10_fillTable 26 = .ok (.iconst 3, 1) := by decide +kernel
theorem dX10_fillTable_27 : decode cX10_fillTable 27 = .ok (.invokevirtual 228, 3) := by decide +kernel
theorem dX10_fillTable_30 : decode cX10_fillTable 30 = .ok (.istore 5, 2) := by decide +kernel
theorem dX10_fillTable_32 : decode cX10_fillTable 32 = .ok (.aload_n 0, 1) := by decide +kernel
theorem dX10_fillTable_33 : decode cX10_fillTable 33 = .ok (.iload 4, 2) := by decide +kernel
theorem dX10_fillTable_35 : decode cX10_fillTable 35 = .ok (.iconst 4, 1) := by decide +kernel
theorem dX10_fillTable_36 : decode cX10_fillTable 36 = .ok (.invokevirtual 228, 3) := by decide +kernel
theorem dX10_fillTable_39 : decode cX10_fillTable 39 = .ok (.istore 6, 2) := by decide +kernel
theorem dX10_fillTable_41 : decode cX10_fillTable 41 = .ok (.aload_n 0, 1) := by decide +kernel
theorem dX10_fillTable_42 : decode cX10_fillTable 42 = .ok (.getfield 44, 3) := by decide +kernel
theorem dX10_fillTable_45 : decode cX10_fillTable 45 = .ok (.aload_n 0, 1) := by decide +kernel
theorem dX10_fillTable_46 : decode cX10_fillTable 46 = .ok (.iload 4, 2) := by decide +kernel
theorem dX10_fillTable_48 : decode cX10_fillTable 48 = .ok (.iconst 0, 1) := by decide +kernel
theorem dX10_fillTable_49 : decode cX10_fillTable 49 = .ok (.invokevirtual 228, 3) := by decide +kernel
theorem dX10_fillTable_52 : decode cX10_fillTable 52 = .ok (.iload 5, 2) := by decide +kernel
theorem dX10_fillTable_54 : decode cX10_fillTable 54 = .ok (.iload 6, 2) := by decide +kernel
theorem dX10_fillTable_56 : decode cX10_fillTable 56 = .ok (.invokevirtual 244, 3) := by decide +kernel
theorem dX10_fillTable_59 : decode cX10_fillTable 59 = .ok (.aload_n 0, 1) := by decide +kernel
theorem dX10_fillTable_60 : decode cX10_fillTable 60 = .ok (.getfield 44, 3) := by decide +kernel
theorem dX10_fillTable_63 : decode cX10_fillTable 63 = .ok (.aload_n 0, 1) := by decide +kernel
theorem dX10_fillTable_64 : decode cX10_fillTable 64 = .ok (.iload 4, 2) := by decide +kernel
theorem dX10_fillTable_66 : decode cX10_fillTable 66 = .ok (.iconst 1, 1) := by decide +kernel
theorem dX10_fillTable_67 : decode cX10_fillTable 67 = .ok (.invokevirtual 228, 3) := by decide +kernel
theorem dX10_fillTable_70 : decode cX10_fillTable 70 = .ok (.iload 6, 2) := by decide +kernel
theorem dX10_fillTable_72 : decode cX10_fillTable 72 = .ok (.iload 5, 2) := by decide +kernel
theorem dX10_fillTable_74 : decode cX10_fillTable 74 = .ok (.invokevirtual 244, 3) := by decide +kernel
theorem dX10_fillTable_77 : decode cX10_fillTable 77 = .ok (.iinc 4 1, 3) := by decide +kernel
theorem dX10_fillTable_80 : decode cX10_fillTable 80 = .ok (.goto (-63), 3) := by decide +kernel
theorem dX10_fillTable_83 : decode cX10_fillTable 83 = .ok (.return_, 1) := by decide +kernel
theorem dX10_alone_0 : decode cX10_alone 0 = .ok (.aload_n 0, 1) := by decide +kernel
theorem dX10_alone_1 : decode cX10_alone 1 = .ok (.iload_n 1, 1) := by decide +kernel
theorem dX10_alone_2 : decode cX10_alone 2 = .ok (.iload_n 2, 1) := by decide +kernel
theorem dX10_alone_3 : decode cX10_alone 3 = .ok (.invokevirtual 219, 3) := by decide +kernel
theorem dX10_alone_6 : decode cX10_alone 6 = .ok (.istore 4, 2) := by decide +kernel
theorem dX10_alone_8 : decode cX10_alone 8 = .ok (.iload 4, 2) := by decide +kernel
theorem dX10_alone_10 : decode cX10_alone 10 = .ok (.ifCond .ne 8, 3) := by decide +kernel
theorem dX10_alone_13 : decode cX10_alone 13 = .ok (.ldc 247, 2) := by decide +kernel
theorem dX10_alone_15 : decode cX10_alone 15 = .ok (.goto 18, 3) := by decide +kernel
theorem dX10_alone_18 : decode cX10_alone 18 = .ok (.aload_n 0, 1) := by decide +kernel
theorem dX10_alone_19 : decode cX10_alone 19 = .ok (.iload 4, 2) := by decide +kernel
theorem dX10_alone_21 : decode cX10_alone 21 = .ok (.invokevirtual 248, 3) := by decide +kernel
theorem dX10_alone_24 : decode cX10_alone 24 = .ok (.i2l, 1) := by decide +kernel
theorem dX10_alone_25 : decode cX10_alone 25 = .ok (.iload 4, 2) := by decide +kernel
theorem dX10_alone_27 : decode cX10_alone 27 = .ok (.i2l, 1) := by decide +kernel
theorem dX10_alone_28 : decode cX10_alone 28 = .ok (.iload_n 3, 1) := by decide +kernel
theorem dX10_alone_29 : decode cX10_alone 29 = .ok (.invokestatic 251, 3) := by decide +kernel
theorem dX10_alone_32 : decode cX10_alone 32 = .ok (.l2i, 1) := by decide +kernel
theorem dX10_alone_33 : decode cX10_alone 33 = .ok (.ireturn, 1) := by decide +kernel
theorem dX10_marginsTogether_0 : decode cX10_marginsTogether 0 = .ok (.iconst 0, 1) := by decide +kernel
theorem dX10_marginsTogether_1 : decode cX10_marginsTogether 1 = .ok (.istore_n 2, 1) := by decide +kernel
theorem dX10_marginsTogether_2 : decode cX10_marginsTogether 2 = .ok (.iconst 0, 1) := by decide +kernel
theorem dX10_marginsTogether_3 : decode cX10_marginsTogether 3 = .ok (.istore_n 3, 1) := by decide +kernel
theorem dX10_marginsTogether_4 : decode cX10_marginsTogether 4 = .ok (.iload_n 3, 1) := by decide +kernel
theorem dX10_marginsTogether_5 : decode cX10_marginsTogether 5 = .ok (.iload_n 1, 1) := by decide +kernel
theorem dX10_marginsTogether_6 : decode cX10_marginsTogether 6 = .ok (.if_icmp .ge 17, 3) := by decide +kernel
theorem dX10_marginsTogether_9 : decode cX10_marginsTogether 9 = .ok (.iload_n 2, 1) := by decide +kernel
theorem dX10_marginsTogether_10 : decode cX10_marginsTogether 10 = .ok (.aload_n 0, 1) := by decide +kernel
theorem dX10_marginsTogether_11 : decode cX10_marginsTogether 11 = .ok (.iload_n 3, 1) := by decide +kernel
theorem dX10_marginsTogether_12 : decode cX10_marginsTogether 12 = .ok (.invokevirtual 225, 3) := by decide +kernel
theorem dX10_marginsTogether_15 : decode cX10_marginsTogether 15 = .ok (.iadd, 1) := by decide +kernel
theorem dX10_marginsTogether_16 : decode cX10_marginsTogether 16 = .ok (.istore_n 2, 1) := by decide +kernel
theorem dX10_marginsTogether_17 : decode cX10_marginsTogether 17 = .ok (.iinc 3 1, 3) := by decide +kernel
theorem dX10_marginsTogether_20 : decode cX10_marginsTogether 20 = .ok (.goto (-16), 3) := by decide +kernel
theorem dX10_marginsTogether_23 : decode cX10_marginsTogether 23 = .ok (.iload_n 2, 1) := by decide +kernel
theorem dX10_marginsTogether_24 : decode cX10_marginsTogether 24 = .ok (.ireturn, 1) := by decide +kernel
theorem dX10_both_0 : decode cX10_both 0 = .ok (.aload_n 0, 1) := by decide +kernel
theorem dX10_both_1 : decode cX10_both 1 = .ok (.iload_n 1, 1) := by decide +kernel
theorem dX10_both_2 : decode cX10_both 2 = .ok (.iload_n 2, 1) := by decide +kernel
theorem dX10_both_3 : decode cX10_both 3 = .ok (.invokevirtual 255, 3) := by decide +kernel
theorem dX10_both_6 : decode cX10_both 6 = .ok (.ifCond .ne 7, 3) := by decide +kernel
theorem dX10_both_9 : decode cX10_both 9 = .ok (.ldc2_w 259, 3) := by decide +kernel
theorem dX10_both_12 : decode cX10_both 12 = .ok (.lreturn, 1) := by decide +kernel
theorem dX10_both_13 : decode cX10_both 13 = .ok (.iload_n 3, 1) := by decide +kernel
theorem dX10_both_14 : decode cX10_both 14 = .ok (.iconst (-1), 1) := by decide +kernel
theorem dX10_both_15 : decode cX10_both 15 = .ok (.if_icmp .ne 23, 3) := by decide +kernel
theorem dX10_both_18 : decode cX10_both 18 = .ok (.aload_n 0, 1) := by decide +kernel
theorem dX10_both_19 : decode cX10_both 19 = .ok (.getfield 37, 3) := by decide +kernel
theorem dX10_both_22 : decode cX10_both 22 = .ok (.invokevirtual 261, 3) := by decide +kernel
theorem dX10_both_25 : decode cX10_both 25 = .ok (.aload_n 0, 1) := by decide +kernel
theorem dX10_both_26 : decode cX10_both 26 = .ok (.getfield 37, 3) := by decide +kernel
theorem dX10_both_29 : decode cX10_both 29 = .ok (.invokevirtual 265, 3) := by decide +kernel
theorem dX10_both_32 : decode cX10_both 32 = .ok (.iload 4, 2) := by decide +kernel
theorem dX10_both_34 : decode cX10_both 34 = .ok (.invokestatic 251, 3) := by decide +kernel
theorem dX10_both_37 : decode cX10_both 37 = .ok (.lreturn, 1) := by decide +kernel
theorem dX10_both_38 : decode cX10_both 38 = .ok (.aload_n 0, 1) := by decide +kernel
theorem dX10_both_39 : decode cX10_both 39 = .ok (.getfield 37, 3) := by decide +kernel
theorem dX10_both_42 : decode cX10_both 42 = .ok (.iload_n 3, 1) := by decide +kernel
theorem dX10_both_43 : decode cX10_both 43 = .ok (.invokevirtual 268, 3) := by decide +kernel
theorem dX10_both_46 : decode cX10_both 46 = .ok (.ifCond .eq 26, 3) := by decide +kernel
theorem dX10_both_49 : decode cX10_both 49 = .ok (.aload_n 0, 1) := by decide +kernel
theorem dX10_both_50 : decode cX10_both 50 = .ok (.getfield 37, 3) := by decide +kernel
theorem dX10_both_53 : decode cX10_both 53 = .ok (.iload_n 3, 1) := by decide +kernel
theorem dX10_both_54 : decode cX10_both 54 = .ok (.invokevirtual 271, 3) := by decide +kernel
theorem dX10_both_57 : decode cX10_both 57 = .ok (.aload_n 0, 1) := by decide +kernel
theorem dX10_both_58 : decode cX10_both 58 = .ok (.getfield 37, 3) := by decide +kernel
theorem dX10_both_61 : decode cX10_both 61 = .ok (.invokevirtual 265, 3) := by decide +kernel
theorem dX10_both_64 : decode cX10_both 64 = .ok (.iload 4, 2) := by decide +kernel
theorem dX10_both_66 : decode cX10_both 66 = .ok (.invokestatic 251, 3) := by decide +kernel
theorem dX10_both_69 : decode cX10_both 69 = .ok (.goto 6, 3) := by decide +kernel
theorem dX10_both_72 : decode cX10_both 72 = .ok (.ldc2_w 259, 3) := by decide +kernel
theorem dX10_both_75 : decode cX10_both 75 = .ok (.lreturn, 1) := by decide +kernel
theorem dX10_off_0 : decode cX10_off 0 = .ok (.aload_n 0, 1) := by decide +kernel
theorem dX10_off_1 : decode cX10_off 1 = .ok (.iload_n 1, 1) := by decide +kernel
theorem dX10_off_2 : decode cX10_off 2 = .ok (.iload_n 2, 1) := by decide +kernel
theorem dX10_off_3 : decode cX10_off 3 = .ok (.invokevirtual 255, 3) := by decide +kernel
theorem dX10_off_6 : decode cX10_off 6 = .ok (.ifCond .ne 7, 3) := by decide +kernel
theorem dX10_off_9 : decode cX10_off 9 = .ok (.ldc2_w 259, 3) := by decide +kernel
theorem dX10_off_12 : decode cX10_off 12 = .ok (.lreturn, 1) := by decide +kernel
theorem dX10_off_13 : decode cX10_off 13 = .ok (.aload_n 0, 1) := by decide +kernel
theorem dX10_off_14 : decode cX10_off 14 = .ok (.iload_n 1, 1) := by decide +kernel
theorem dX10_off_15 : decode cX10_off 15 = .ok (.iload_n 2, 1) := by decide +kernel
theorem dX10_off_16 : decode cX10_off 16 = .ok (.invokevirtual 219, 3) := by decide +kernel
theorem dX10_off_19 : decode cX10_off 19 = .ok (.istore 4, 2) := by decide +kernel
theorem dX10_off_21 : decode cX10_off 21 = .ok (.aload_n 0, 1) := by decide +kernel
theorem dX10_off_22 : decode cX10_off 22 = .ok (.iload 4, 2) := by decide +kernel
theorem dX10_off_24 : decode cX10_off 24 = .ok (.invokevirtual 248, 3) := by decide +kernel
theorem dX10_off_27 : decode cX10_off 27 = .ok (.i2l, 1) := by decide +kernel
theorem dX10_off_28 : decode cX10_off 28 = .ok (.aload_n 0, 1) := by decide +kernel
theorem dX10_off_29 : decode cX10_off 29 = .ok (.getfield 37, 3) := by decide +kernel
theorem dX10_off_32 : decode cX10_off 32 = .ok (.invokevirtual 265, 3) := by decide +kernel
theorem dX10_off_35 : decode cX10_off 35 = .ok (.lmul, 1) := by decide +kernel
theorem dX10_off_36 : decode cX10_off 36 = .ok (.iload 4, 2) := by decide +kernel
theorem dX10_off_38 : decode cX10_off 38 = .ok (.i2l, 1) := by decide +kernel
theorem dX10_off_39 : decode cX10_off 39 = .ok (.aload_n 0, 1) := by decide +kernel
theorem dX10_off_40 : decode cX10_off 40 = .ok (.getfield 37, 3) := by decide +kernel
theorem dX10_off_43 : decode cX10_off 43 = .ok (.invokevirtual 261, 3) := by decide +kernel
theorem dX10_off_46 : decode cX10_off 46 = .ok (.lmul, 1) := by decide +kernel
theorem dX10_off_47 : decode cX10_off 47 = .ok (.lsub, 1) := by decide +kernel
theorem dX10_off_48 : decode cX10_off 48 = .ok (.iload 4, 2) := by decide +kernel
theorem dX10_off_50 : decode cX10_off 50 = .ok (.i2l, 1) := by decide +kernel
theorem dX10_off_51 : decode cX10_off 51 = .ok (.aload_n 0, 1) := by decide +kernel
theorem dX10_off_52 : decode cX10_off 52 = .ok (.getfield 37, 3) := by decide +kernel
theorem dX10_off_55 : decode cX10_off 55 = .ok (.invokevirtual 265, 3) := by decide +kernel
theorem dX10_off_58 : decode cX10_off 58 = .ok (.lmul, 1) := by decide +kernel
theorem dX10_off_59 : decode cX10_off 59 = .ok (.iload_n 3, 1) := by decide +kernel
theorem dX10_off_60 : decode cX10_off 60 = .ok (.invokestatic 251, 3) := by decide +kernel
theorem dX10_off_63 : decode cX10_off 63 = .ok (.lreturn, 1) := by decide +kernel
theorem dX10_fitYears_0 : decode cX10_fitYears 0 = .ok (.aload_n 0, 1) := by decide +kernel
theorem dX10_fitYears_1 : decode cX10_fitYears 1 = .ok (.iload_n 1, 1) := by decide +kernel
theorem dX10_fitYears_2 : decode cX10_fitYears 2 = .ok (.iload_n 2, 1) := by decide +kernel
theorem dX10_fitYears_3 : decode cX10_fitYears 3 = .ok (.invokevirtual 219, 3) := by decide +kernel
theorem dX10_fitYears_6 : decode cX10_fitYears 6 = .ok (.istore_n 3, 1) := by decide +kernel
theorem dX10_fitYears_7 : decode cX10_fitYears 7 = .ok (.aload_n 0, 1) := by decide +kernel
theorem dX10_fitYears_8 : decode cX10_fitYears 8 = .ok (.getfield 37, 3) := by decide +kernel
theorem dX10_fitYears_11 : decode cX10_fitYears 11 = .ok (.invokevirtual 274, 3) := by decide +kernel
theorem dX10_fitYears_14 : decode cX10_fitYears 14 = .ok (.iconst 0, 1) := by decide +kernel
theorem dX10_fitYears_15 : decode cX10_fitYears 15 = .ok (.istore 4, 2) := by decide +kernel
theorem dX10_fitYears_17 : decode cX10_fitYears 17 = .ok (.iload 4, 2) := by decide +kernel
theorem dX10_fitYears_19 : decode cX10_fitYears 19 = .ok (.iload_n 3, 1) := by decide +kernel
theorem dX10_fitYears_20 : decode cX10_fitYears 20 = .ok (.if_icmp .ge 30, 3) := by decide +kernel
theorem dX10_fitYears_23 : decode cX10_fitYears 23 = .ok (.aload_n 0, 1) := by decide +kernel
theorem dX10_fitYears_24 : decode cX10_fitYears 24 = .ok (.getfield 37, 3) := by decide +kernel
theorem dX10_fitYears_27 : decode cX10_fitYears 27 = .ok (.aload_n 0, 1) := by decide +kernel
theorem dX10_fitYears_28 : decode cX10_fitYears 28 = .ok (.iload 4, 2) := by decide +kernel
theorem dX10_fitYears_30 : decode cX10_fitYears 30 = .ok (.iconst 0, 1) := by decide +kernel
theorem dX10_fitYears_31 : decode cX10_fitYears 31 = .ok (.invokevirtual 228, 3) := by decide +kernel
theorem dX10_fitYears_34 : decode cX10_fitYears 34 = .ok (.aload_n 0, 1) := by decide +kernel
theorem dX10_fitYears_35 : decode cX10_fitYears 35 = .ok (.iload 4, 2) := by decide +kernel
theorem dX10_fitYears_37 : decode cX10_fitYears 37 = .ok (.iconst 1, 1) := by decide +kernel
theorem dX10_fitYears_38 : decode cX10_fitYears 38 = .ok (.invokevirtual 228, 3) := by decide +kernel
theorem dX10_fitYears_41 : decode cX10_fitYears 41 = .ok (.invokevirtual 275, 3) := by decide +kernel
theorem dX10_fitYears_44 : decode cX10_fitYears 44 = .ok (.iinc 4 1, 3) := by decide +kernel
theorem dX10_fitYears_47 : decode cX10_fitYears 47 = .ok (.goto (-30), 3) := by decide +kernel
theorem dX10_fitYears_50 : decode cX10_fitYears 50 = .ok (.aload_n 0, 1) := by decide +kernel
theorem dX10_fitYears_51 : decode cX10_fitYears 51 = .ok (.getfield 37, 3) := by decide +kernel
theorem dX10_fitYears_54 : decode cX10_fitYears 54 = .ok (.invokevirtual 278, 3) := by decide +kernel
theorem dX10_fitYears_57 : decode cX10_fitYears 57 = .ok (.ifCond .ne 5, 3) := by decide +kernel
theorem dX10_fitYears_60 : decode cX10_fitYears 60 = .ok (.iconst 0, 1) := by decide +kernel
theorem dX10_fitYears_61 : decode cX10_fitYears 61 = .ok (.ireturn, 1) := by decide +kernel
theorem dX10_fitYears_62 : decode cX10_fitYears 62 = .ok (.iconst 0, 1) := by decide +kernel
theorem dX10_fitYears_63 : decode cX10_fitYears 63 = .ok (.istore 4, 2) := by decide +kernel
theorem dX10_fitYears_65 : decode cX10_fitYears 65 = .ok (.iload 4, 2) := by decide +kernel
theorem dX10_fitYears_67 : decode cX10_fitYears 67 = .ok (.iload_n 3, 1) := by decide +kernel
theorem dX10_fitYears_68 : decode cX10_fitYears 68 = .ok (.if_icmp .ge 36, 3) := by decide +kernel
theorem dX10_fitYears_71 : decode cX10_fitYears 71 = .ok (.aload_n 0, 1) := by decide +kernel
theorem dX10_fitYears_72 : decode cX10_fitYears 72 = .ok (.getfield 37, 3) := by decide +kernel
theorem dX10_fitYears_75 : decode cX10_fitYears 75 = .ok (.aload_n 0, 1) := by decide +kernel
theorem dX10_fitYears_76 : decode cX10_fitYears 76 = .ok (.iload 4, 2) := by decide +kernel
theorem dX10_fitYears_78 : decode cX10_fitYears 78 = .ok (.iconst 0, 1) := by decide +kernel
theorem dX10_fitYears_79 : decode cX10_fitYears 79 = .ok (.invokevirtual 228, 3) := by decide +kernel
theorem dX10_fitYears_82 : decode cX10_fitYears 82 = .ok (.aload_n 0, 1) := by decide +kernel
theorem dX10_fitYears_83 : decode cX10_fitYears 83 = .ok (.iload 4, 2) := by decide +kernel
theorem dX10_fitYears_85 : decode cX10_fitYears 85 = .ok (.iconst 1, 1) := by decide +kernel
theorem dX10_fitYears_86 : decode cX10_fitYears 86 = .ok (.invokevirtual 228, 3) := by decide +kernel
theorem dX10_fitYears_89 : decode cX10_fitYears 89 = .ok (.aload_n 0, 1) := by decide +kernel
theorem dX10_fitYears_90 : decode cX10_fitYears 90 = .ok (.iload 4, 2) := by decide +kernel
theorem dX10_fitYears_92 : decode cX10_fitYears 92 = .ok (.invokevirtual 225, 3) := by decide +kernel
theorem dX10_fitYears_95 : decode cX10_fitYears 95 = .ok (.invokevirtual 282, 3) := by decide +kernel
theorem dX10_fitYears_98 : decode cX10_fitYears 98 = .ok (.iinc 4 1, 3) := by decide +kernel
theorem dX10_fitYears_101 : decode cX10_fitYears 101 = .ok (.goto (-36), 3) := by decide +kernel
theorem dX10_fitYears_104 : decode cX10_fitYears 104 = .ok (.aload_n 0, 1) := by decide +kernel
theorem dX10_fitYears_105 : decode cX10_fitYears 105 = .ok (.getfield 37, 3) := by decide +kernel
theorem dX10_fitYears_108 : decode cX10_fitYears 108 = .ok (.invokevirtual 283, 3) := by decide +kernel
theorem dX10_fitYears_111 : decode cX10_fitYears 111 = .ok (.ireturn, 1) := by decide +kernel
theorem dX10_people_0 : decode cX10_people 0 = .ok (.iload_n 3, 1) := by decide +kernel
theorem dX10_people_1 : decode cX10_people 1 = .ok (.iconst 0, 1) := by decide +kernel
theorem dX10_people_2 : decode cX10_people 2 = .ok (.sipush 1000, 3) := by decide +kernel
theorem dX10_people_5 : decode cX10_people 5 = .ok (.invokestatic 209, 3) := by decide +kernel
theorem dX10_people_8 : decode cX10_people 8 = .ok (.ifCond .ne 6, 3) := by decide +kernel
theorem dX10_people_11 : decode cX10_people 11 = .ok (.ldc 247, 2) := by decide +kernel
theorem dX10_people_13 : decode cX10_people 13 = .ok (.ireturn, 1) := by decide +kernel
theorem dX10_people_14 : decode cX10_people 14 = .ok (.aload_n 0, 1) := by decide +kernel
theorem dX10_people_15 : decode cX10_people 15 = .ok (.iload_n 1, 1) := by decide +kernel
theorem dX10_people_16 : decode cX10_people 16 = .ok (.iload_n 2, 1) := by decide +kernel
theorem dX10_people_17 : decode cX10_people 17 = .ok (.invokevirtual 219, 3) := by decide +kernel
theorem dX10_people_20 : decode cX10_people 20 = .ok (.istore 5, 2) := by decide +kernel
theorem dX10_people_22 : decode cX10_people 22 = .ok (.iconst 0, 1) := by decide +kernel
theorem dX10_people_23 : decode cX10_people 23 = .ok (.istore 6, 2) := by decide +kernel
theorem dX10_people_25 : decode cX10_people 25 = .ok (.iconst 0, 1) := by decide +kernel
theorem dX10_people_26 : decode cX10_people 26 = .ok (.istore 7, 2) := by decide +kernel
theorem dX10_people_28 : decode cX10_people 28 = .ok (.iconst 0, 1) := by decide +kernel
theorem dX10_people_29 : decode cX10_people 29 = .ok (.istore 8, 2) := by decide +kernel
theorem dX10_people_31 : decode cX10_people 31 = .ok (.iconst 0, 1) := by decide +kernel
theorem dX10_people_32 : decode cX10_people 32 = .ok (.istore 9, 2) := by decide +kernel
theorem dX10_people_34 : decode cX10_people 34 = .ok (.iload 9, 2) := by decide +kernel
theorem dX10_people_36 : decode cX10_people 36 = .ok (.iload 5, 2) := by decide +kernel
theorem dX10_people_38 : decode cX10_people 38 = .ok (.if_icmp .ge 49, 3) := by decide +kernel
theorem dX10_people_41 : decode cX10_people 41 = .ok (.aload_n 0, 1) := by decide +kernel
theorem dX10_people_42 : decode cX10_people 42 = .ok (.iload 9, 2) := by decide +kernel
theorem dX10_people_44 : decode cX10_people 44 = .ok (.bipush 8, 2) := by decide +kernel
theorem dX10_people_46 : decode cX10_people 46 = .ok (.invokevirtual 228, 3) := by decide +kernel
theorem dX10_people_49 : decode cX10_people 49 = .ok (.iload_n 3, 1) := by decide +kernel
theorem dX10_people_50 : decode cX10_people 50 = .ok (.if_icmp .lt 20, 3) := by decide +kernel
theorem dX10_people_53 : decode cX10_people 53 = .ok (.iinc 6 1, 3) := by decide +kernel
theorem dX10_people_56 : decode cX10_people 56 = .ok (.iload 7, 2) := by decide +kernel
theorem dX10_people_58 : decode cX10_people 58 = .ok (.aload_n 0, 1) := by decide +kernel
theorem dX10_people_59 : decode cX10_people 59 = .ok (.iload 9, 2) := by decide +kernel
theorem dX10_people_61 : decode cX10_people 61 = .ok (.invokevirtual 225, 3) := by decide +kernel
theorem dX10_people_64 : decode cX10_people 64 = .ok (.iadd, 1) := by decide +kernel
theorem dX10_people_65 : decode cX10_people 65 = .ok (.istore 7, 2) := by decide +kernel
theorem dX10_people_67 : decode cX10_people 67 = .ok (.goto 14, 3) := by decide +kernel
theorem dX10_people_70 : decode cX10_people 70 = .ok (.iload 8, 2) := by decide +kernel
theorem dX10_people_72 : decode cX10_people 72 = .ok (.aload_n 0, 1) := by decide +kernel
theorem dX10_people_73 : decode cX10_people 73 = .ok (.iload 9, 2) := by decide +kernel
theorem dX10_people_75 : decode cX10_people 75 = .ok (.invokevirtual 225, 3) := by decide +kernel
theorem dX10_people_78 : decode cX10_people 78 = .ok (.iadd, 1) := by decide +kernel
theorem dX10_people_79 : decode cX10_people 79 = .ok (.istore 8, 2) := by decide +kernel
theorem dX10_people_81 : decode cX10_people 81 = .ok (.iinc 9 1, 3) := by decide +kernel
theorem dX10_people_84 : decode cX10_people 84 = .ok (.goto (-50), 3) := by decide +kernel
theorem dX10_people_87 : decode cX10_people 87 = .ok (.iload 7, 2) := by decide +kernel
theorem dX10_people_89 : decode cX10_people 89 = .ok (.iload 6, 2) := by decide +kernel
theorem dX10_people_91 : decode cX10_people 91 = .ok (.iload 8, 2) := by decide +kernel
theorem dX10_people_93 : decode cX10_people 93 = .ok (.iload 5, 2) := by decide +kernel
theorem dX10_people_95 : decode cX10_people 95 = .ok (.iload 6, 2) := by decide +kernel
theorem dX10_people_97 : decode cX10_people 97 = .ok (.isub, 1) := by decide +kernel
theorem dX10_people_98 : decode cX10_people 98 = .ok (.iload 4, 2) := by decide +kernel
theorem dX10_people_100 : decode cX10_people 100 = .ok (.invokestatic 286, 3) := by decide +kernel
theorem dX10_people_103 : decode cX10_people 103 = .ok (.ireturn, 1) := by decide +kernel
theorem dX10_slope_0 : decode cX10_slope 0 = .ok (.aload_n 0, 1) := by decide +kernel
theorem dX10_slope_1 : decode cX10_slope 1 = .ok (.iload_n 1, 1) := by decide +kernel
theorem dX10_slope_2 : decode cX10_slope 2 = .ok (.iload_n 2, 1) := by decide +kernel
theorem dX10_slope_3 : decode cX10_slope 3 = .ok (.invokevirtual 219, 3) := by decide +kernel
theorem dX10_slope_6 : decode cX10_slope 6 = .ok (.istore 4, 2) := by decide +kernel
theorem dX10_slope_8 : decode cX10_slope 8 = .ok (.iconst 0, 1) := by decide +kernel
theorem dX10_slope_9 : decode cX10_slope 9 = .ok (.istore 5, 2) := by decide +kernel
theorem dX10_slope_11 : decode cX10_slope 11 = .ok (.iconst 0, 1) := by decide +kernel
theorem dX10_slope_12 : decode cX10_slope 12 = .ok (.istore 6, 2) := by decide +kernel
theorem dX10_slope_14 : decode cX10_slope 14 = .ok (.iconst 0, 1) := by decide +kernel
theorem dX10_slope_15 : decode cX10_slope 15 = .ok (.istore 7, 2) := by decide +kernel
theorem dX10_slope_17 : decode cX10_slope 17 = .ok (.iconst 0, 1) := by decide +kernel
theorem dX10_slope_18 : decode cX10_slope 18 = .ok (.istore 8, 2) := by decide +kernel
theorem dX10_slope_20 : decode cX10_slope 20 = .ok (.iconst 0, 1) := by decide +kernel
theorem dX10_slope_21 : decode cX10_slope 21 = .ok (.istore 9, 2) := by decide +kernel
theorem dX10_slope_23 : decode cX10_slope 23 = .ok (.iload 9, 2) := by decide +kernel
theorem dX10_slope_25 : decode cX10_slope 25 = .ok (.iload 4, 2) := by decide +kernel
theorem dX10_slope_27 : decode cX10_slope 27 = .ok (.if_icmp .ge 60, 3) := by decide +kernel
theorem dX10_slope_30 : decode cX10_slope 30 = .ok (.aload_n 0, 1) := by decide +kernel
theorem dX10_slope_31 : decode cX10_slope 31 = .ok (.iload 9, 2) := by decide +kernel
theorem dX10_slope_33 : decode cX10_slope 33 = .ok (.iconst 2, 1) := by decide +kernel
theorem dX10_slope_34 : decode cX10_slope 34 = .ok (.invokevirtual 228, 3) := by decide +kernel
theorem dX10_slope_37 : decode cX10_slope 37 = .ok (.istore 10, 2) := by decide +kernel
theorem dX10_slope_39 : decode cX10_slope 39 = .ok (.iload 5, 2) := by decide +kernel
theorem dX10_slope_41 : decode cX10_slope 41 = .ok (.iload 10, 2) := by decide +kernel
theorem dX10_slope_43 : decode cX10_slope 43 = .ok (.iadd, 1) := by decide +kernel
theorem dX10_slope_44 : decode cX10_slope 44 = .ok (.istore 5, 2) := by decide +kernel
theorem dX10_slope_46 : decode cX10_slope 46 = .ok (.iload 6, 2) := by decide +kernel
theorem dX10_slope_48 : decode cX10_slope 48 = .ok (.aload_n 0, 1) := by decide +kernel
theorem dX10_slope_49 : decode cX10_slope 49 = .ok (.iload 9, 2) := by decide +kernel
theorem dX10_slope_51 : decode cX10_slope 51 = .ok (.invokevirtual 225, 3) := by decide +kernel
theorem dX10_slope_54 : decode cX10_slope 54 = .ok (.iadd, 1) := by decide +kernel
theorem dX10_slope_55 : decode cX10_slope 55 = .ok (.istore 6, 2) := by decide +kernel
theorem dX10_slope_57 : decode cX10_slope 57 = .ok (.iload 7, 2) := by decide +kernel
theorem dX10_slope_59 : decode cX10_slope 59 = .ok (.iload 10, 2) := by decide +kernel
theorem dX10_slope_61 : decode cX10_slope 61 = .ok (.iload 10, 2) := by decide +kernel
theorem dX10_slope_63 : decode cX10_slope 63 = .ok (.imul, 1) := by decide +kernel
theorem dX10_slope_64 : decode cX10_slope 64 = .ok (.iadd, 1) := by decide +kernel
theorem dX10_slope_65 : decode cX10_slope 65 = .ok (.istore 7, 2) := by decide +kernel
theorem dX10_slope_67 : decode cX10_slope 67 = .ok (.iload 8, 2) := by decide +kernel
theorem dX10_slope_69 : decode cX10_slope 69 = .ok (.iload 10, 2) := by decide +kernel
theorem dX10_slope_71 : decode cX10_slope 71 = .ok (.aload_n 0, 1) := by decide +kernel
theorem dX10_slope_72 : decode cX10_slope 72 = .ok (.iload 9, 2) := by decide +kernel
theorem dX10_slope_74 : decode cX10_slope 74 = .ok (.invokevirtual 225, 3) := by decide +kernel
theorem dX10_slope_77 : decode cX10_slope 77 = .ok (.imul, 1) := by decide +kernel
theorem dX10_slope_78 : decode cX10_slope 78 = .ok (.iadd, 1) := by decide +kernel
theorem dX10_slope_79 : decode cX10_slope 79 = .ok (.istore 8, 2) := by decide +kernel
theorem dX10_slope_81 : decode cX10_slope 81 = .ok (.iinc 9 1, 3) := by decide +kernel
theorem dX10_slope_84 : decode cX10_slope 84 = .ok (.goto (-61), 3) := by decide +kernel
theorem dX10_slope_87 : decode cX10_slope 87 = .ok (.iload 4, 2) := by decide +kernel
theorem dX10_slope_89 : decode cX10_slope 89 = .ok (.iload 7, 2) := by decide +kernel
theorem dX10_slope_91 : decode cX10_slope 91 = .ok (.imul, 1) := by decide +kernel
theorem dX10_slope_92 : decode cX10_slope 92 = .ok (.iload 5, 2) := by decide +kernel
theorem dX10_slope_94 : decode cX10_slope 94 = .ok (.iload 5, 2) := by decide +kernel
theorem dX10_slope_96 : decode cX10_slope 96 = .ok (.imul, 1) := by decide +kernel
theorem dX10_slope_97 : decode cX10_slope 97 = .ok (.isub, 1) := by decide +kernel
theorem dX10_slope_98 : decode cX10_slope 98 = .ok (.istore 9, 2) := by decide +kernel
theorem dX10_slope_100 : decode cX10_slope 100 = .ok (.iload 9, 2) := by decide +kernel
theorem dX10_slope_102 : decode cX10_slope 102 = .ok (.ifCond .ne 8, 3) := by decide +kernel
theorem dX10_slope_105 : decode cX10_slope 105 = .ok (.ldc 247, 2) := by decide +kernel
theorem dX10_slope_107 : decode cX10_slope 107 = .ok (.goto 23, 3) := by decide +kernel
theorem dX10_slope_110 : decode cX10_slope 110 = .ok (.iload 4, 2) := by decide +kernel
theorem dX10_slope_112 : decode cX10_slope 112 = .ok (.iload 8, 2) := by decide +kernel
theorem dX10_slope_114 : decode cX10_slope 114 = .ok (.imul, 1) := by decide +kernel
theorem dX10_slope_115 : decode cX10_slope 115 = .ok (.iload 5, 2) := by decide +kernel
theorem dX10_slope_117 : decode cX10_slope 117 = .ok (.iload 6, 2) := by decide +kernel
theorem dX10_slope_119 : decode cX10_slope 119 = .ok (.imul, 1) := by decide +kernel
theorem dX10_slope_120 : decode cX10_slope 120 = .ok (.isub, 1) := by decide +kernel
theorem dX10_slope_121 : decode cX10_slope 121 = .ok (.i2l, 1) := by decide +kernel
theorem dX10_slope_122 : decode cX10_slope 122 = .ok (.iload 9, 2) := by decide +kernel
theorem dX10_slope_124 : decode cX10_slope 124 = .ok (.i2l, 1) := by decide +kernel
theorem dX10_slope_125 : decode cX10_slope 125 = .ok (.iload_n 3, 1) := by decide +kernel
theorem dX10_slope_126 : decode cX10_slope 126 = .ok (.invokestatic 251, 3) := by decide +kernel
theorem dX10_slope_129 : decode cX10_slope 129 = .ok (.l2i, 1) := by decide +kernel
theorem dX10_slope_130 : decode cX10_slope 130 = .ok (.ireturn, 1) := by decide +kernel
theorem dX10_odds_0 : decode cX10_odds 0 = .ok (.aload_n 0, 1) := by decide +kernel
theorem dX10_odds_1 : decode cX10_odds 1 = .ok (.iload_n 1, 1) := by decide +kernel
theorem dX10_odds_2 : decode cX10_odds 2 = .ok (.iload_n 2, 1) := by decide +kernel
theorem dX10_odds_3 : decode cX10_odds 3 = .ok (.invokevirtual 219, 3) := by decide +kernel
theorem dX10_odds_6 : decode cX10_odds 6 = .ok (.istore 5, 2) := by decide +kernel
theorem dX10_odds_8 : decode cX10_odds 8 = .ok (.iload 5, 2) := by decide +kernel
theorem dX10_odds_10 : decode cX10_odds 10 = .ok (.bipush 60, 2) := by decide +kernel
theorem dX10_odds_12 : decode cX10_odds 12 = .ok (.if_icmp .gt 14, 3) := by decide +kernel
theorem dX10_odds_15 : decode cX10_odds 15 = .ok (.iload_n 3, 1) := by decide +kernel
theorem dX10_odds_16 : decode cX10_odds 16 = .ok (.iconst 0, 1) := by decide +kernel
theorem dX10_odds_17 : decode cX10_odds 17 = .ok (.sipush 1000, 3) := by decide +kernel
theorem dX10_odds_20 : decode cX10_odds 20 = .ok (.invokestatic 209, 3) := by decide +kernel
theorem dX10_odds_23 : decode cX10_odds 23 = .ok (.ifCond .ne 7, 3) := by decide +kernel
theorem dX10_odds_26 : decode cX10_odds 26 = .ok (.ldc2_w 173, 3) := by decide +kernel
theorem dX10_odds_29 : decode cX10_odds 29 = .ok (.lreturn, 1) := by decide +kernel
theorem dX10_odds_30 : decode cX10_odds 30 = .ok (.iconst 0, 1) := by decide +kernel
theorem dX10_odds_31 : decode cX10_odds 31 = .ok (.istore 6, 2) := by decide +kernel
theorem dX10_odds_33 : decode cX10_odds 33 = .ok (.iconst 0, 1) := by decide +kernel
theorem dX10_odds_34 : decode cX10_odds 34 = .ok (.istore 7, 2) := by decide +kernel
theorem dX10_odds_36 : decode cX10_odds 36 = .ok (.iconst 0, 1) := by decide +kernel
theorem dX10_odds_37 : decode cX10_odds 37 = .ok (.istore 8, 2) := by decide +kernel
theorem dX10_odds_39 : decode cX10_odds 39 = .ok (.iconst 0, 1) := by decide +kernel
theorem dX10_odds_40 : decode cX10_odds 40 = .ok (.istore 9, 2) := by decide +kernel
theorem dX10_odds_42 : decode cX10_odds 42 = .ok (.iload 9, 2) := by decide +kernel
theorem dX10_odds_44 : decode cX10_odds 44 = .ok (.iload 5, 2) := by decide +kernel
theorem dX10_odds_46 : decode cX10_odds 46 = .ok (.if_icmp .ge 54, 3) := by decide +kernel
theorem dX10_odds_49 : decode cX10_odds 49 = .ok (.aload_n 0, 1) := by decide +kernel
theorem dX10_odds_50 : decode cX10_odds 50 = .ok (.iload 9, 2) := by decide +kernel
theorem dX10_odds_52 : decode cX10_odds 52 = .ok (.invokevirtual 225, 3) := by decide +kernel
theorem dX10_odds_55 : decode cX10_odds 55 = .ok (.ifCond .le 7, 3) := by decide +kernel
theorem dX10_odds_58 : decode cX10_odds 58 = .ok (.iconst 1, 1) := by decide +kernel
theorem dX10_odds_59 : decode cX10_odds 59 = .ok (.goto 4, 3) := by decide +kernel
theorem dX10_odds_62 : decode cX10_odds 62 = .ok (.iconst 0, 1) := by decide +kernel
theorem dX10_odds_63 : decode cX10_odds 63 = .ok (.istore 10, 2) := by decide +kernel
theorem dX10_odds_65 : decode cX10_odds 65 = .ok (.iload 6, 2) := by decide +kernel
theorem dX10_odds_67 : decode cX10_odds 67 = .ok (.iload 10, 2) := by decide +kernel
theorem dX10_odds_69 : decode cX10_odds 69 = .ok (.iadd, 1) := by decide +kernel
theorem dX10_odds_70 : decode cX10_odds 70 = .ok (.istore 6, 2) := by decide +kernel
theorem dX10_odds_72 : decode cX10_odds 72 = .ok (.aload_n 0, 1) := by decide +kernel
theorem dX10_odds_73 : decode cX10_odds 73 = .ok (.iload 9, 2) := by decide +kernel
theorem dX10_odds_75 : decode cX10_odds 75 = .ok (.bipush 8, 2) := by decide +kernel
theorem dX10_odds_77 : decode cX10_odds 77 = .ok (.invokevirtual 228, 3) := by decide +kernel
theorem dX10_odds_80 : decode cX10_odds 80 = .ok (.iload_n 3, 1) := by decide +kernel
theorem dX10_odds_81 : decode cX10_odds 81 = .ok (.if_icmp .lt 13, 3) := by decide +kernel
theorem dX10_odds_84 : decode cX10_odds 84 = .ok (.iinc 7 1, 3) := by decide +kernel
theorem dX10_odds_87 : decode cX10_odds 87 = .ok (.iload 8, 2) := by decide +kernel
theorem dX10_odds_89 : decode cX10_odds 89 = .ok (.iload 10, 2) := by decide +kernel
theorem dX10_odds_91 : decode cX10_odds 91 = .ok (.iadd, 1) := by decide +kernel
theorem dX10_odds_92 : decode cX10_odds 92 = .ok (.istore 8, 2) := by decide +kernel
theorem dX10_odds_94 : decode cX10_odds 94 = .ok (.iinc 9 1, 3) := by decide +kernel
theorem dX10_odds_97 : decode cX10_odds 97 = .ok (.goto (-55), 3) := by decide +kernel
theorem dX10_odds_100 : decode cX10_odds 100 = .ok (.iload 4, 2) := by decide +kernel
theorem dX10_odds_102 : decode cX10_odds 102 = .ok (.ifCond .eq 13, 3) := by decide +kernel
theorem dX10_odds_105 : decode cX10_odds 105 = .ok (.iload 5, 2) := by decide +kernel
theorem dX10_odds_107 : decode cX10_odds 107 = .ok (.iload 7, 2) := by decide +kernel
theorem dX10_odds_109 : decode cX10_odds 109 = .ok (.invokestatic 290, 3) := by decide +kernel
theorem dX10_odds_112 : decode cX10_odds 112 = .ok (.goto 14, 3) := by decide +kernel
theorem dX10_odds_115 : decode cX10_odds 115 = .ok (.iload 5, 2) := by decide +kernel
theorem dX10_odds_117 : decode cX10_odds 117 = .ok (.iload 6, 2) := by decide +kernel
theorem dX10_odds_119 : decode cX10_odds 119 = .ok (.iload 7, 2) := by decide +kernel
theorem dX10_odds_121 : decode cX10_odds 121 = .ok (.iload 8, 2) := by decide +kernel
theorem dX10_odds_123 : decode cX10_odds 123 = .ok (.invokestatic 294, 3) := by decide +kernel
theorem dX10_odds_126 : decode cX10_odds 126 = .ok (.lreturn, 1) := by decide +kernel
theorem dX10_carded_0 : decode cX10_carded 0 = .ok (.aload_n 0, 1) := by decide +kernel
theorem dX10_carded_1 : decode cX10_carded 1 = .ok (.iload_n 1, 1) := by decide +kernel
theorem dX10_carded_2 : decode cX10_carded 2 = .ok (.iload_n 2, 1) := by decide +kernel
theorem dX10_carded_3 : decode cX10_carded 3 = .ok (.invokevirtual 219, 3) := by decide +kernel
theorem dX10_carded_6 : decode cX10_carded 6 = .ok (.istore 4, 2) := by decide +kernel
theorem dX10_carded_8 : decode cX10_carded 8 = .ok (.iconst 0, 1) := by decide +kernel
theorem dX10_carded_9 : decode cX10_carded 9 = .ok (.istore 5, 2) := by decide +kernel
theorem dX10_carded_11 : decode cX10_carded 11 = .ok (.iconst 0, 1) := by decide +kernel
theorem dX10_carded_12 : decode cX10_carded 12 = .ok (.istore 6, 2) := by decide +kernel
theorem dX10_carded_14 : decode cX10_carded 14 = .ok (.iconst 0, 1) := by decide +kernel
theorem dX10_carded_15 : decode cX10_carded 15 = .ok (.istore 7, 2) := by decide +kernel
theorem dX10_carded_17 : decode cX10_carded 17 = .ok (.iload 7, 2) := by decide +kernel
theorem dX10_carded_19 : decode cX10_carded 19 = .ok (.iload 4, 2) := by decide +kernel
theorem dX10_carded_21 : decode cX10_carded 21 = .ok (.if_icmp .ge 45, 3) := by decide +kernel
theorem dX10_carded_24 : decode cX10_carded 24 = .ok (.aload_n 0, 1) := by decide +kernel
theorem dX10_carded_25 : decode cX10_carded 25 = .ok (.iload 7, 2) := by decide +kernel
theorem dX10_carded_27 : decode cX10_carded 27 = .ok (.bipush 9, 2) := by decide +kernel
theorem dX10_carded_29 : decode cX10_carded 29 = .ok (.invokevirtual 228, 3) := by decide +kernel
theorem dX10_carded_32 : decode cX10_carded 32 = .ok (.iload_n 3, 1) := by decide +kernel
theorem dX10_carded_33 : decode cX10_carded 33 = .ok (.if_icmp .ne 27, 3) := by decide +kernel
theorem dX10_carded_36 : decode cX10_carded 36 = .ok (.iinc 5 1, 3) := by decide +kernel
theorem dX10_carded_39 : decode cX10_carded 39 = .ok (.iload 6, 2) := by decide +kernel
theorem dX10_carded_41 : decode cX10_carded 41 = .ok (.aload_n 0, 1) := by decide +kernel
theorem dX10_carded_42 : decode cX10_carded 42 = .ok (.iload 7, 2) := by decide +kernel
theorem dX10_carded_44 : decode cX10_carded 44 = .ok (.bipush 6, 2) := by decide +kernel
theorem dX10_carded_46 : decode cX10_carded 46 = .ok (.invokevirtual 228, 3) := by decide +kernel
theorem dX10_carded_49 : decode cX10_carded 49 = .ok (.aload_n 0, 1) := by decide +kernel
theorem dX10_carded_50 : decode cX10_carded 50 = .ok (.iload 7, 2) := by decide +kernel
theorem dX10_carded_52 : decode cX10_carded 52 = .ok (.iconst 5, 1) := by decide +kernel
theorem dX10_carded_53 : decode cX10_carded 53 = .ok (.invokevirtual 228, 3) := by decide +kernel
theorem dX10_carded_56 : decode cX10_carded 56 = .ok (.isub, 1) := by decide +kernel
theorem dX10_carded_57 : decode cX10_carded 57 = .ok (.iadd, 1) := by decide +kernel
theorem dX10_carded_58 : decode cX10_carded 58 = .ok (.istore 6, 2) := by decide +kernel
theorem dX10_carded_60 : decode cX10_carded 60 = .ok (.iinc 7 1, 3) := by decide +kernel
theorem dX10_carded_63 : decode cX10_carded 63 = .ok (.goto (-46), 3) := by decide +kernel
theorem dX10_carded_66 : decode cX10_carded 66 = .ok (.iload 5, 2) := by decide +kernel
theorem dX10_carded_68 : decode cX10_carded 68 = .ok (.ifCond .ne 8, 3) := by decide +kernel
theorem dX10_carded_71 : decode cX10_carded 71 = .ok (.ldc 247, 2) := by decide +kernel
theorem dX10_carded_73 : decode cX10_carded 73 = .ok (.goto 5, 3) := by decide +kernel
theorem dX10_carded_76 : decode cX10_carded 76 = .ok (.iload 6, 2) := by decide +kernel
theorem dX10_carded_78 : decode cX10_carded 78 = .ok (.ireturn, 1) := by decide +kernel
theorem dX10_longer_0 : decode cX10_longer 0 = .ok (.aload_n 0, 1) := by decide +kernel
theorem dX10_longer_1 : decode cX10_longer 1 = .ok (.iload_n 1, 1) := by decide +kernel
theorem dX10_longer_2 : decode cX10_longer 2 = .ok (.iload_n 2, 1) := by decide +kernel
theorem dX10_longer_3 : decode cX10_longer 3 = .ok (.invokevirtual 219, 3) := by decide +kernel
theorem dX10_longer_6 : decode cX10_longer 6 = .ok (.istore 5, 2) := by decide +kernel
theorem dX10_longer_8 : decode cX10_longer 8 = .ok (.iconst 0, 1) := by decide +kernel
theorem dX10_longer_9 : decode cX10_longer 9 = .ok (.istore 6, 2) := by decide +kernel
theorem dX10_longer_11 : decode cX10_longer 11 = .ok (.iconst 0, 1) := by decide +kernel
theorem dX10_longer_12 : decode cX10_longer 12 = .ok (.istore 7, 2) := by decide +kernel
theorem dX10_longer_14 : decode cX10_longer 14 = .ok (.iconst 0, 1) := by decide +kernel
theorem dX10_longer_15 : decode cX10_longer 15 = .ok (.istore 8, 2) := by decide +kernel
theorem dX10_longer_17 : decode cX10_longer 17 = .ok (.iconst 0, 1) := by decide +kernel
theorem dX10_longer_18 : decode cX10_longer 18 = .ok (.istore 9, 2) := by decide +kernel
theorem dX10_longer_20 : decode cX10_longer 20 = .ok (.iconst 0, 1) := by decide +kernel
theorem dX10_longer_21 : decode cX10_longer 21 = .ok (.istore 10, 2) := by decide +kernel
theorem dX10_longer_23 : decode cX10_longer 23 = .ok (.iload 10, 2) := by decide +kernel
theorem dX10_longer_25 : decode cX10_longer 25 = .ok (.iload 5, 2) := by decide +kernel
theorem dX10_longer_27 : decode cX10_longer 27 = .ok (.if_icmp .ge 79, 3) := by decide +kernel
theorem dX10_longer_30 : decode cX10_longer 30 = .ok (.aload_n 0, 1) := by decide +kernel
theorem dX10_longer_31 : decode cX10_longer 31 = .ok (.iload 10, 2) := by decide +kernel
theorem dX10_longer_33 : decode cX10_longer 33 = .ok (.bipush 9, 2) := by decide +kernel
theorem dX10_longer_35 : decode cX10_longer 35 = .ok (.invokevirtual 228, 3) := by decide +kernel
theorem dX10_longer_38 : decode cX10_longer 38 = .ok (.iload_n 3, 1) := by decide +kernel
theorem dX10_longer_39 : decode cX10_longer 39 = .ok (.if_icmp .eq 6, 3) := by decide +kernel
theorem dX10_longer_42 : decode cX10_longer 42 = .ok (.goto 58, 3) := by decide +kernel
theorem dX10_longer_45 : decode cX10_longer 45 = .ok (.aload_n 0, 1) := by decide +kernel
theorem dX10_longer_46 : decode cX10_longer 46 = .ok (.iload 10, 2) := by decide +kernel
theorem dX10_longer_48 : decode cX10_longer 48 = .ok (.invokevirtual 225, 3) := by decide +kernel
theorem dX10_longer_51 : decode cX10_longer 51 = .ok (.iconst (-1), 1) := by decide +kernel
theorem dX10_longer_52 : decode cX10_longer 52 = .ok (.if_icmp .ne 22, 3) := by decide +kernel
theorem dX10_longer_55 : decode cX10_longer 55 = .ok (.iinc 6 1, 3) := by decide +kernel
theorem dX10_longer_58 : decode cX10_longer 58 = .ok (.iload 7, 2) := by decide +kernel
theorem dX10_longer_60 : decode cX10_longer 60 = .ok (.aload_n 0, 1) := by decide +kernel
theorem dX10_longer_61 : decode cX10_longer 61 = .ok (.iload 10, 2) := by decide +kernel
theorem dX10_longer_63 : decode cX10_longer 63 = .ok (.bipush 7, 2) := by decide +kernel
theorem dX10_longer_65 : decode cX10_longer 65 = .ok (.invokevirtual 228, 3) := by decide +kernel
theorem dX10_longer_68 : decode cX10_longer 68 = .ok (.iadd, 1) := by decide +kernel
theorem dX10_longer_69 : decode cX10_longer 69 = .ok (.istore 7, 2) := by decide +kernel
theorem dX10_longer_71 : decode cX10_longer 71 = .ok (.goto 29, 3) := by decide +kernel
theorem dX10_longer_74 : decode cX10_longer 74 = .ok (.aload_n 0, 1) := by decide +kernel
theorem dX10_longer_75 : decode cX10_longer 75 = .ok (.iload 10, 2) := by decide +kernel
theorem dX10_longer_77 : decode cX10_longer 77 = .ok (.invokevirtual 225, 3) := by decide +kernel
theorem dX10_longer_80 : decode cX10_longer 80 = .ok (.iconst 1, 1) := by decide +kernel
theorem dX10_longer_81 : decode cX10_longer 81 = .ok (.if_icmp .ne 19, 3) := by decide +kernel
theorem dX10_longer_84 : decode cX10_longer 84 = .ok (.iinc 8 1, 3) := by decide +kernel
theorem dX10_longer_87 : decode cX10_longer 87 = .ok (.iload 9, 2) := by decide +kernel
theorem dX10_longer_89 : decode cX10_longer 89 = .ok (.aload_n 0, 1) := by decide +kernel
theorem dX10_longer_90 : decode cX10_longer 90 = .ok (.iload 10, 2) := by decide +kernel
theorem dX10_longer_92 : decode cX10_longer 92 = .ok (.bipush 7, 2) := by decide +kernel
theorem dX10_longer_94 : decode cX10_longer 94 = .ok (.invokevirtual 228, 3) := by decide +kernel
theorem dX10_longer_97 : decode cX10_longer 97 = .ok (.iadd, 1) := by decide +kernel
theorem dX10_longer_98 : decode cX10_longer 98 = .ok (.istore 9, 2) := by decide +kernel
theorem dX10_longer_100 : decode cX10_longer 100 = .ok (.iinc 10 1, 3) := by decide +kernel
theorem dX10_longer_103 : decode cX10_longer 103 = .ok (.goto (-80), 3) := by decide +kernel
theorem dX10_longer_106 : decode cX10_longer 106 = .ok (.iload 7, 2) := by decide +kernel
theorem dX10_longer_108 : decode cX10_longer 108 = .ok (.iload 6, 2) := by decide +kernel
theorem dX10_longer_110 : decode cX10_longer 110 = .ok (.iload 9, 2) := by decide +kernel
theorem dX10_longer_112 : decode cX10_longer 112 = .ok (.iload 8, 2) := by decide +kernel
theorem dX10_longer_114 : decode cX10_longer 114 = .ok (.iload 4, 2) := by decide +kernel
theorem dX10_longer_116 : decode cX10_longer 116 = .ok (.invokestatic 286, 3) := by decide +kernel
theorem dX10_longer_119 : decode cX10_longer 119 = .ok (.ireturn, 1) := by decide +kernel
theorem dX10_fresh_0 : decode cX10_fresh 0 = .ok (.iload_n 1, 1) := by decide +kernel
theorem dX10_fresh_1 : decode cX10_fresh 1 = .ok (.invokestatic 206, 3) := by decide +kernel
theorem dX10_fresh_4 : decode cX10_fresh 4 = .ok (.ifCond .eq 13, 3) := by decide +kernel
theorem dX10_fresh_7 : decode cX10_fresh 7 = .ok (.iload_n 3, 1) := by decide +kernel
theorem dX10_fresh_8 : decode cX10_fresh 8 = .ok (.iconst 1, 1) := by decide +kernel
theorem dX10_fresh_9 : decode cX10_fresh 9 = .ok (.bipush 40, 2) := by decide +kernel
theorem dX10_fresh_11 : decode cX10_fresh 11 = .ok (.invokestatic 209, 3) := by decide +kernel
theorem dX10_fresh_14 : decode cX10_fresh 14 = .ok (.ifCond .ne 6, 3) := by decide +kernel
theorem dX10_fresh_17 : decode cX10_fresh 17 = .ok (.ldc 247, 2) := by decide +kernel
theorem dX10_fresh_19 : decode cX10_fresh 19 = .ok (.ireturn, 1) := by decide +kernel
theorem dX10_fresh_20 : decode cX10_fresh 20 = .ok (.aload_n 0, 1) := by decide +kernel
theorem dX10_fresh_21 : decode cX10_fresh 21 = .ok (.iload_n 2, 1) := by decide +kernel
theorem dX10_fresh_22 : decode cX10_fresh 22 = .ok (.bipush 59, 2) := by decide +kernel
theorem dX10_fresh_24 : decode cX10_fresh 24 = .ok (.invokevirtual 219, 3) := by decide +kernel
theorem dX10_fresh_27 : decode cX10_fresh 27 = .ok (.istore 4, 2) := by decide +kernel
theorem dX10_fresh_29 : decode cX10_fresh 29 = .ok (.iconst 0, 1) := by decide +kernel
theorem dX10_fresh_30 : decode cX10_fresh 30 = .ok (.istore 5, 2) := by decide +kernel
theorem dX10_fresh_32 : decode cX10_fresh 32 = .ok (.iconst 0, 1) := by decide +kernel
theorem dX10_fresh_33 : decode cX10_fresh 33 = .ok (.istore 6, 2) := by decide +kernel
theorem dX10_fresh_35 : decode cX10_fresh 35 = .ok (.iconst 0, 1) := by decide +kernel
theorem dX10_fresh_36 : decode cX10_fresh 36 = .ok (.istore 7, 2) := by decide +kernel
theorem dX10_fresh_38 : decode cX10_fresh 38 = .ok (.iload 7, 2) := by decide +kernel
theorem dX10_fresh_40 : decode cX10_fresh 40 = .ok (.iload 4, 2) := by decide +kernel
theorem dX10_fresh_42 : decode cX10_fresh 42 = .ok (.if_icmp .ge 61, 3) := by decide +kernel
theorem dX10_fresh_45 : decode cX10_fresh 45 = .ok (.iload 5, 2) := by decide +kernel
theorem dX10_fresh_47 : decode cX10_fresh 47 = .ok (.iconst 2, 1) := by decide +kernel
theorem dX10_fresh_48 : decode cX10_fresh 48 = .ok (.iload_n 3, 1) := by decide +kernel
theorem dX10_fresh_49 : decode cX10_fresh 49 = .ok (.imul, 1) := by decide +kernel
theorem dX10_fresh_50 : decode cX10_fresh 50 = .ok (.if_icmp .ge 53, 3) := by decide +kernel
theorem dX10_fresh_53 : decode cX10_fresh 53 = .ok (.aload_n 0, 1) := by decide +kernel
theorem dX10_fresh_54 : decode cX10_fresh 54 = .ok (.iload 7, 2) := by decide +kernel
theorem dX10_fresh_56 : decode cX10_fresh 56 = .ok (.iconst 0, 1) := by decide +kernel
theorem dX10_fresh_57 : decode cX10_fresh 57 = .ok (.invokevirtual 228, 3) := by decide +kernel
theorem dX10_fresh_60 : decode cX10_fresh 60 = .ok (.iload_n 1, 1) := by decide +kernel
theorem dX10_fresh_61 : decode cX10_fresh 61 = .ok (.if_icmp .ne 36, 3) := by decide +kernel
theorem dX10_fresh_64 : decode cX10_fresh 64 = .ok (.aload_n 0, 1) := by decide +kernel
theorem dX10_fresh_65 : decode cX10_fresh 65 = .ok (.iload 7, 2) := by decide +kernel
theorem dX10_fresh_67 : decode cX10_fresh 67 = .ok (.invokevirtual 225, 3) := by decide +kernel
theorem dX10_fresh_70 : decode cX10_fresh 70 = .ok (.invokestatic 298, 3) := by decide +kernel
theorem dX10_fresh_73 : decode cX10_fresh 73 = .ok (.istore 8, 2) := by decide +kernel
theorem dX10_fresh_75 : decode cX10_fresh 75 = .ok (.iload 6, 2) := by decide +kernel
theorem dX10_fresh_77 : decode cX10_fresh 77 = .ok (.iload 5, 2) := by decide +kernel
theorem dX10_fresh_79 : decode cX10_fresh 79 = .ok (.iload_n 3, 1) := by decide +kernel
theorem dX10_fresh_80 : decode cX10_fresh 80 = .ok (.if_icmp .ge 8, 3) := by decide +kernel
theorem dX10_fresh_83 : decode cX10_fresh 83 = .ok (.iload 8, 2) := by decide +kernel
theorem dX10_fresh_85 : decode cX10_fresh 85 = .ok (.goto 6, 3) := by decide +kernel
theorem dX10_fresh_88 : decode cX10_fresh 88 = .ok (.iload 8, 2) := by decide +kernel
theorem dX10_fresh_90 : decode cX10_fresh 90 = .ok (.ineg, 1) := by decide +kernel
theorem dX10_fresh_91 : decode cX10_fresh 91 = .ok (.iadd, 1) := by decide +kernel
theorem dX10_fresh_92 : decode cX10_fresh 92 = .ok (.istore 6, 2) := by decide +kernel
theorem dX10_fresh_94 : decode cX10_fresh 94 = .ok (.iinc 5 1, 3) := by decide +kernel
theorem dX10_fresh_97 : decode cX10_fresh 97 = .ok (.iinc 7 1, 3) := by decide +kernel
theorem dX10_fresh_100 : decode cX10_fresh 100 = .ok (.goto (-62), 3) := by decide +kernel
theorem dX10_fresh_103 : decode cX10_fresh 103 = .ok (.iload 5, 2) := by decide +kernel
theorem dX10_fresh_105 : decode cX10_fresh 105 = .ok (.iconst 2, 1) := by decide +kernel
theorem dX10_fresh_106 : decode cX10_fresh 106 = .ok (.iload_n 3, 1) := by decide +kernel
theorem dX10_fresh_107 : decode cX10_fresh 107 = .ok (.imul, 1) := by decide +kernel
theorem dX10_fresh_108 : decode cX10_fresh 108 = .ok (.if_icmp .ge 8, 3) := by decide +kernel
theorem dX10_fresh_111 : decode cX10_fresh 111 = .ok (.ldc 247, 2) := by decide +kernel
theorem dX10_fresh_113 : decode cX10_fresh 113 = .ok (.goto 5, 3) := by decide +kernel
theorem dX10_fresh_116 : decode cX10_fresh 116 = .ok (.iload 6, 2) := by decide +kernel
theorem dX10_fresh_118 : decode cX10_fresh 118 = .ok (.ireturn, 1) := by decide +kernel
theorem dX10_films_0 : decode cX10_films 0 = .ok (.iload_n 1, 1) := by decide +kernel
theorem dX10_films_1 : decode cX10_films 1 = .ok (.invokestatic 213, 3) := by decide +kernel
theorem dX10_films_4 : decode cX10_films 4 = .ok (.ifCond .eq 23, 3) := by decide +kernel
theorem dX10_films_7 : decode cX10_films 7 = .ok (.iload_n 3, 1) := by decide +kernel
theorem dX10_films_8 : decode cX10_films 8 = .ok (.iconst 0, 1) := by decide +kernel
theorem dX10_films_9 : decode cX10_films 9 = .ok (.bipush 30, 2) := by decide +kernel
theorem dX10_films_11 : decode cX10_films 11 = .ok (.invokestatic 209, 3) := by decide +kernel
theorem dX10_films_14 : decode cX10_films 14 = .ok (.ifCond .eq 13, 3) := by decide +kernel
theorem dX10_films_17 : decode cX10_films 17 = .ok (.iload 4, 2) := by decide +kernel
theorem dX10_films_19 : decode cX10_films 19 = .ok (.iconst 0, 1) := by decide +kernel
theorem dX10_films_20 : decode cX10_films 20 = .ok (.iload_n 3, 1) := by decide +kernel
theorem dX10_films_21 : decode cX10_films 21 = .ok (.invokestatic 209, 3) := by decide +kernel
theorem dX10_films_24 : decode cX10_films 24 = .ok (.ifCond .ne 5, 3) := by decide +kernel
theorem dX10_films_27 : decode cX10_films 27 = .ok (.iconst 0, 1) := by decide +kernel
theorem dX10_films_28 : decode cX10_films 28 = .ok (.ireturn, 1) := by decide +kernel
theorem dX10_films_29 : decode cX10_films 29 = .ok (.aload_n 0, 1) := by decide +kernel
theorem dX10_films_30 : decode cX10_films 30 = .ok (.getfield 10, 3) := by decide +kernel
theorem dX10_films_33 : decode cX10_films 33 = .ok (.iload_n 1, 1) := by decide +kernel
theorem dX10_films_34 : decode cX10_films 34 = .ok (.iload_n 2, 1) := by decide +kernel
theorem dX10_films_35 : decode cX10_films 35 = .ok (.iload_n 3, 1) := by decide +kernel
theorem dX10_films_36 : decode cX10_films 36 = .ok (.iload 4, 2) := by decide +kernel
theorem dX10_films_38 : decode cX10_films 38 = .ok (.invokevirtual 301, 3) := by decide +kernel
theorem dX10_films_41 : decode cX10_films 41 = .ok (.iconst 1, 1) := by decide +kernel
theorem dX10_films_42 : decode cX10_films 42 = .ok (.ireturn, 1) := by decide +kernel
theorem dX10_looser_0 : decode cX10_looser 0 = .ok (.iload_n 1, 1) := by decide +kernel
theorem dX10_looser_1 : decode cX10_looser 1 = .ok (.invokestatic 213, 3) := by decide +kernel
theorem dX10_looser_4 : decode cX10_looser 4 = .ok (.ifCond .ne 7, 3) := by decide +kernel
theorem dX10_looser_7 : decode cX10_looser 7 = .ok (.ldc2_w 173, 3) := by decide +kernel
theorem dX10_looser_10 : decode cX10_looser 10 = .ok (.lreturn, 1) := by decide +kernel
theorem dX10_looser_11 : decode cX10_looser 11 = .ok (.aload_n 0, 1) := by decide +kernel
theorem dX10_looser_12 : decode cX10_looser 12 = .ok (.getfield 10, 3) := by decide +kernel
theorem dX10_looser_15 : decode cX10_looser 15 = .ok (.iload_n 1, 1) := by decide +kernel
theorem dX10_looser_16 : decode cX10_looser 16 = .ok (.iconst 0, 1) := by decide +kernel
theorem dX10_looser_17 : decode cX10_looser 17 = .ok (.invokevirtual 305, 3) := by decide +kernel
theorem dX10_looser_20 : decode cX10_looser 20 = .ok (.istore_n 3, 1) := by decide +kernel
theorem dX10_looser_21 : decode cX10_looser 21 = .ok (.iload_n 3, 1) := by decide +kernel
theorem dX10_looser_22 : decode cX10_looser 22 = .ok (.aload_n 0, 1) := by decide +kernel
theorem dX10_looser_23 : decode cX10_looser 23 = .ok (.getfield 10, 3) := by decide +kernel
theorem dX10_looser_26 : decode cX10_looser 26 = .ok (.iload_n 1, 1) := by decide +kernel
theorem dX10_looser_27 : decode cX10_looser 27 = .ok (.iconst 1, 1) := by decide +kernel
theorem dX10_looser_28 : decode cX10_looser 28 = .ok (.invokevirtual 305, 3) := by decide +kernel
theorem dX10_looser_31 : decode cX10_looser 31 = .ok (.iadd, 1) := by decide +kernel
theorem dX10_looser_32 : decode cX10_looser 32 = .ok (.istore 4, 2) := by decide +kernel
theorem dX10_looser_34 : decode cX10_looser 34 = .ok (.aload_n 0, 1) := by decide +kernel
theorem dX10_looser_35 : decode cX10_looser 35 = .ok (.getfield 10, 3) := by decide +kernel
theorem dX10_looser_38 : decode cX10_looser 38 = .ok (.iload_n 1, 1) := by decide +kernel
theorem dX10_looser_39 : decode cX10_looser 39 = .ok (.iconst 0, 1) := by decide +kernel
theorem dX10_looser_40 : decode cX10_looser 40 = .ok (.invokevirtual 309, 3) := by decide +kernel
theorem dX10_looser_43 : decode cX10_looser 43 = .ok (.istore 5, 2) := by decide +kernel
theorem dX10_looser_45 : decode cX10_looser 45 = .ok (.iload 5, 2) := by decide +kernel
theorem dX10_looser_47 : decode cX10_looser 47 = .ok (.aload_n 0, 1) := by decide +kernel
theorem dX10_looser_48 : decode cX10_looser 48 = .ok (.getfield 10, 3) := by decide +kernel
theorem dX10_looser_51 : decode cX10_looser 51 = .ok (.iload_n 1, 1) := by decide +kernel
theorem dX10_looser_52 : decode cX10_looser 52 = .ok (.iconst 1, 1) := by decide +kernel
theorem dX10_looser_53 : decode cX10_looser 53 = .ok (.invokevirtual 309, 3) := by decide +kernel
theorem dX10_looser_56 : decode cX10_looser 56 = .ok (.iadd, 1) := by decide +kernel
theorem dX10_looser_57 : decode cX10_looser 57 = .ok (.istore 6, 2) := by decide +kernel
theorem dX10_looser_59 : decode cX10_looser 59 = .ok (.iload_n 2, 1) := by decide +kernel
theorem dX10_looser_60 : decode cX10_looser 60 = .ok (.ifCond .eq 12, 3) := by decide +kernel
theorem dX10_looser_63 : decode cX10_looser 63 = .ok (.iload 4, 2) := by decide +kernel
theorem dX10_looser_65 : decode cX10_looser 65 = .ok (.iload_n 3, 1) := by decide +kernel
theorem dX10_looser_66 : decode cX10_looser 66 = .ok (.invokestatic 290, 3) := by decide +kernel
theorem dX10_looser_69 : decode cX10_looser 69 = .ok (.goto 13, 3) := by decide +kernel
theorem dX10_looser_72 : decode cX10_looser 72 = .ok (.iload 4, 2) := by decide +kernel
theorem dX10_looser_74 : decode cX10_looser 74 = .ok (.iload 6, 2) := by decide +kernel
theorem dX10_looser_76 : decode cX10_looser 76 = .ok (.iload_n 3, 1) := by decide +kernel
theorem dX10_looser_77 : decode cX10_looser 77 = .ok (.iload 5, 2) := by decide +kernel
theorem dX10_looser_79 : decode cX10_looser 79 = .ok (.invokestatic 294, 3) := by decide +kernel
theorem dX10_looser_82 : decode cX10_looser 82 = .ok (.lreturn, 1) := by decide +kernel
theorem dX10_had_0 : decode cX10_had 0 = .ok (.iload_n 3, 1) := by decide +kernel
theorem dX10_had_1 : decode cX10_had 1 = .ok (.invokestatic 312, 3) := by decide +kernel
theorem dX10_had_4 : decode cX10_had 4 = .ok (.ifCond .ne 6, 3) := by decide +kernel
theorem dX10_had_7 : decode cX10_had 7 = .ok (.ldc 247, 2) := by decide +kernel
theorem dX10_had_9 : decode cX10_had 9 = .ok (.ireturn, 1) := by decide +kernel
theorem dX10_had_10 : decode cX10_had 10 = .ok (.aload_n 0, 1) := by decide +kernel
theorem dX10_had_11 : decode cX10_had 11 = .ok (.iload_n 1, 1) := by decide +kernel
theorem dX10_had_12 : decode cX10_had 12 = .ok (.iload_n 2, 1) := by decide +kernel
theorem dX10_had_13 : decode cX10_had 13 = .ok (.invokevirtual 219, 3) := by decide +kernel
theorem dX10_had_16 : decode cX10_had 16 = .ok (.istore 4, 2) := by decide +kernel
theorem dX10_had_18 : decode cX10_had 18 = .ok (.iconst 0, 1) := by decide +kernel
theorem dX10_had_19 : decode cX10_had 19 = .ok (.istore 5, 2) := by decide +kernel
theorem dX10_had_21 : decode cX10_had 21 = .ok (.iconst 0, 1) := by decide +kernel
theorem dX10_had_22 : decode cX10_had 22 = .ok (.istore 6, 2) := by decide +kernel
theorem dX10_had_24 : decode cX10_had 24 = .ok (.iload 6, 2) := by decide +kernel
theorem dX10_had_26 : decode cX10_had 26 = .ok (.iload 4, 2) := by decide +kernel
theorem dX10_had_28 : decode cX10_had 28 = .ok (.if_icmp .ge 32, 3) := by decide +kernel
theorem dX10_had_31 : decode cX10_had 31 = .ok (.iload 5, 2) := by decide +kernel
theorem dX10_had_33 : decode cX10_had 33 = .ok (.aload_n 0, 1) := by decide +kernel
theorem dX10_had_34 : decode cX10_had 34 = .ok (.iload 6, 2) := by decide +kernel
theorem dX10_had_36 : decode cX10_had 36 = .ok (.invokevirtual 225, 3) := by decide +kernel
theorem dX10_had_39 : decode cX10_had 39 = .ok (.ifCond .le 10, 3) := by decide +kernel
theorem dX10_had_42 : decode cX10_had 42 = .ok (.iload_n 3, 1) := by decide +kernel
theorem dX10_had_43 : decode cX10_had 43 = .ok (.bipush 100, 2) := by decide +kernel
theorem dX10_had_45 : decode cX10_had 45 = .ok (.isub, 1) := by decide +kernel
theorem dX10_had_46 : decode cX10_had 46 = .ok (.goto 5, 3) := by decide +kernel
theorem dX10_had_49 : decode cX10_had 49 = .ok (.bipush (-100), 2) := by decide +kernel
theorem dX10_had_51 : decode cX10_had 51 = .ok (.iadd, 1) := by decide +kernel
theorem dX10_had_52 : decode cX10_had 52 = .ok (.istore 5, 2) := by decide +kernel
theorem dX10_had_54 : decode cX10_had 54 = .ok (.iinc 6 1, 3) := by decide +kernel
theorem dX10_had_57 : decode cX10_had 57 = .ok (.goto (-33), 3) := by decide +kernel
theorem dX10_had_60 : decode cX10_had 60 = .ok (.iload 5, 2) := by decide +kernel
theorem dX10_had_62 : decode cX10_had 62 = .ok (.ireturn, 1) := by decide +kernel
theorem dX10_fixed_0 : decode cX10_fixed 0 = .ok (.iload_n 3, 1) := by decide +kernel
theorem dX10_fixed_1 : decode cX10_fixed 1 = .ok (.invokestatic 312, 3) := by decide +kernel
theorem dX10_fixed_4 : decode cX10_fixed 4 = .ok (.ifCond .eq 15, 3) := by decide +kernel
theorem dX10_fixed_7 : decode cX10_fixed 7 = .ok (.iload 4, 2) := by decide +kernel
theorem dX10_fixed_9 : decode cX10_fixed 9 = .ok (.iconst 0, 1) := by decide +kernel
theorem dX10_fixed_10 : decode cX10_fixed 10 = .ok (.sipush 9999, 3) := by decide +kernel
theorem dX10_fixed_13 : decode cX10_fixed 13 = .ok (.invokestatic 209, 3) := by decide +kernel
theorem dX10_fixed_16 : decode cX10_fixed 16 = .ok (.ifCond .ne 5, 3) := by decide +kernel
theorem dX10_fixed_19 : decode cX10_fixed 19 = .ok (.iconst (-1), 1) := by decide +kernel
theorem dX10_fixed_20 : decode cX10_fixed 20 = .ok (.ireturn, 1) := by decide +kernel
theorem dX10_fixed_21 : decode cX10_fixed 21 = .ok (.aload_n 0, 1) := by decide +kernel
theorem dX10_fixed_22 : decode cX10_fixed 22 = .ok (.iload_n 1, 1) := by decide +kernel
theorem dX10_fixed_23 : decode cX10_fixed 23 = .ok (.iload_n 2, 1) := by decide +kernel
theorem dX10_fixed_24 : decode cX10_fixed 24 = .ok (.invokevirtual 219, 3) := by decide +kernel
theorem dX10_fixed_27 : decode cX10_fixed 27 = .ok (.istore 5, 2) := by decide +kernel
theorem dX10_fixed_29 : decode cX10_fixed 29 = .ok (.iconst 0, 1) := by decide +kernel
theorem dX10_fixed_30 : decode cX10_fixed 30 = .ok (.istore 6, 2) := by decide +kernel
theorem dX10_fixed_32 : decode cX10_fixed 32 = .ok (.iconst 0, 1) := by decide +kernel
theorem dX10_fixed_33 : decode cX10_fixed 33 = .ok (.istore 7, 2) := by decide +kernel
theorem dX10_fixed_35 : decode cX10_fixed 35 = .ok (.iload 7, 2) := by decide +kernel
theorem dX10_fixed_37 : decode cX10_fixed 37 = .ok (.iload 5, 2) := by decide +kernel
theorem dX10_fixed_39 : decode cX10_fixed 39 = .ok (.if_icmp .ge 45, 3) := by decide +kernel
theorem dX10_fixed_42 : decode cX10_fixed 42 = .ok (.iload 6, 2) := by decide +kernel
theorem dX10_fixed_44 : decode cX10_fixed 44 = .ok (.aload_n 0, 1) := by decide +kernel
theorem dX10_fixed_45 : decode cX10_fixed 45 = .ok (.iload 7, 2) := by decide +kernel
theorem dX10_fixed_47 : decode cX10_fixed 47 = .ok (.invokevirtual 225, 3) := by decide +kernel
theorem dX10_fixed_50 : decode cX10_fixed 50 = .ok (.ifCond .le 10, 3) := by decide +kernel
theorem dX10_fixed_53 : decode cX10_fixed 53 = .ok (.iload_n 3, 1) := by decide +kernel
theorem dX10_fixed_54 : decode cX10_fixed 54 = .ok (.bipush 100, 2) := by decide +kernel
theorem dX10_fixed_56 : decode cX10_fixed 56 = .ok (.isub, 1) := by decide +kernel
theorem dX10_fixed_57 : decode cX10_fixed 57 = .ok (.goto 5, 3) := by decide +kernel
theorem dX10_fixed_60 : decode cX10_fixed 60 = .ok (.bipush (-100), 2) := by decide +kernel
theorem dX10_fixed_62 : decode cX10_fixed 62 = .ok (.iadd, 1) := by decide +kernel
theorem dX10_fixed_63 : decode cX10_fixed 63 = .ok (.istore 6, 2) := by decide +kernel
theorem dX10_fixed_65 : decode cX10_fixed 65 = .ok (.iload 6, 2) := by decide +kernel
theorem dX10_fixed_67 : decode cX10_fixed 67 = .ok (.iload 4, 2) := by decide +kernel
theorem dX10_fixed_69 : decode cX10_fixed 69 = .ok (.ineg, 1) := by decide +kernel
theorem dX10_fixed_70 : decode cX10_fixed 70 = .ok (.if_icmp .ge 8, 3) := by decide +kernel
theorem dX10_fixed_73 : decode cX10_fixed 73 = .ok (.iload 7, 2) := by decide +kernel
theorem dX10_fixed_75 : decode cX10_fixed 75 = .ok (.iconst 1, 1) := by decide +kernel
theorem dX10_fixed_76 : decode cX10_fixed 76 = .ok (.iadd, 1) := by decide +kernel
theorem dX10_fixed_77 : decode cX10_fixed 77 = .ok (.ireturn, 1) := by decide +kernel
theorem dX10_fixed_78 : decode cX10_fixed 78 = .ok (.iinc 7 1, 3) := by decide +kernel
theorem dX10_fixed_81 : decode cX10_fixed 81 = .ok (.goto (-46), 3) := by decide +kernel
theorem dX10_fixed_84 : decode cX10_fixed 84 = .ok (.iload 5, 2) := by decide +kernel
theorem dX10_fixed_86 : decode cX10_fixed 86 = .ok (.ireturn, 1) := by decide +kernel
theorem dX10_travel_0 : decode cX10_travel 0 = .ok (.aload_n 0, 1) := by decide +kernel
theorem dX10_travel_1 : decode cX10_travel 1 = .ok (.getfield 30, 3) := by decide +kernel
theorem dX10_travel_4 : decode cX10_travel 4 = .ok (.aload_n 0, 1) := by decide +kernel
theorem dX10_travel_5 : decode cX10_travel 5 = .ok (.getfield 10, 3) := by decide +kernel
theorem dX10_travel_8 : decode cX10_travel 8 = .ok (.iload_n 1, 1) := by decide +kernel
theorem dX10_travel_9 : decode cX10_travel 9 = .ok (.iload_n 2, 1) := by decide +kernel
theorem dX10_travel_10 : decode cX10_travel 10 = .ok (.invokevirtual 141, 3) := by decide +kernel
theorem dX10_travel_13 : decode cX10_travel 13 = .ok (.ifCond .eq 17, 3) := by decide +kernel
theorem dX10_travel_16 : decode cX10_travel 16 = .ok (.aload_n 0, 1) := by decide +kernel
theorem dX10_travel_17 : decode cX10_travel 17 = .ok (.getfield 30, 3) := by decide +kernel
theorem dX10_travel_20 : decode cX10_travel 20 = .ok (.getfield 315, 3) := by decide +kernel
theorem dX10_travel_23 : decode cX10_travel 23 = .ok (.iload_n 3, 1) := by decide +kernel
theorem dX10_travel_24 : decode cX10_travel 24 = .ok (.invokevirtual 319, 3) := by decide +kernel
theorem dX10_travel_27 : decode cX10_travel 27 = .ok (.ifCond .ne 5, 3) := by decide +kernel
theorem dX10_travel_30 : decode cX10_travel 30 = .ok (.iconst (-1), 1) := by decide +kernel
theorem dX10_travel_31 : decode cX10_travel 31 = .ok (.ireturn, 1) := by decide +kernel
theorem dX10_travel_32 : decode cX10_travel 32 = .ok (.aload_n 0, 1) := by decide +kernel
theorem dX10_travel_33 : decode cX10_travel 33 = .ok (.getfield 30, 3) := by decide +kernel
theorem dX10_travel_36 : decode cX10_travel 36 = .ok (.iconst (-1), 1) := by decide +kernel
theorem dX10_travel_37 : decode cX10_travel 37 = .ok (.invokevirtual 322, 3) := by decide +kernel
theorem dX10_travel_40 : decode cX10_travel 40 = .ok (.pop, 1) := by decide +kernel
theorem dX10_travel_41 : decode cX10_travel 41 = .ok (.aload_n 0, 1) := by decide +kernel
theorem dX10_travel_42 : decode cX10_travel 42 = .ok (.getfield 30, 3) := by decide +kernel
theorem dX10_travel_45 : decode cX10_travel 45 = .ok (.iload_n 3, 1) := by decide +kernel
theorem dX10_travel_46 : decode cX10_travel 46 = .ok (.invokevirtual 325, 3) := by decide +kernel
theorem dX10_travel_49 : decode cX10_travel 49 = .ok (.ireturn, 1) := by decide +kernel
theorem dX10_runs_0 : decode cX10_runs 0 = .ok (.aload_n 0, 1) := by decide +kernel
theorem dX10_runs_1 : decode cX10_runs 1 = .ok (.getfield 10, 3) := by decide +kernel
theorem dX10_runs_4 : decode cX10_runs 4 = .ok (.iload_n 1, 1) := by decide +kernel
theorem dX10_runs_5 : decode cX10_runs 5 = .ok (.invokevirtual 128, 3) := by decide +kernel
theorem dX10_runs_8 : decode cX10_runs 8 = .ok (.astore 4, 2) := by decide +kernel
theorem dX10_runs_10 : decode cX10_runs 10 = .ok (.aload 4, 2) := by decide +kernel
theorem dX10_runs_12 : decode cX10_runs 12 = .ok (.ifnull 10, 3) := by decide +kernel
theorem dX10_runs_15 : decode cX10_runs 15 = .ok (.iload_n 2, 1) := by decide +kernel
theorem dX10_runs_16 : decode cX10_runs 16 = .ok (.invokestatic 206, 3) := by decide +kernel
theorem dX10_runs_19 : decode cX10_runs 19 = .ok (.ifCond .ne 5, 3) := by decide +kernel
theorem dX10_runs_22 : decode cX10_runs 22 = .ok (.iconst (-1), 1) := by decide +kernel
theorem dX10_runs_23 : decode cX10_runs 23 = .ok (.ireturn, 1) := by decide +kernel
theorem dX10_runs_24 : decode cX10_runs 24 = .ok (.iconst 0, 1) := by decide +kernel
theorem dX10_runs_25 : decode cX10_runs 25 = .ok (.istore 5, 2) := by decide +kernel
theorem dX10_runs_27 : decode cX10_runs 27 = .ok (.iconst 0, 1) := by decide +kernel
theorem dX10_runs_28 : decode cX10_runs 28 = .ok (.istore 6, 2) := by decide +kernel
theorem dX10_runs_30 : decode cX10_runs 30 = .ok (.iconst 0, 1) := by decide +kernel
theorem dX10_runs_31 : decode cX10_runs 31 = .ok (.istore 7, 2) := by decide +kernel
theorem dX10_runs_33 : decode cX10_runs 33 = .ok (.iload 7, 2) := by decide +kernel
theorem dX10_runs_35 : decode cX10_runs 35 = .ok (.aload 4, 2) := by decide +kernel
theorem dX10_runs_37 : decode cX10_runs 37 = .ok (.getfield 132, 3) := by decide +kernel
theorem dX10_runs_40 : decode cX10_runs 40 = .ok (.if_icmp .ge 58, 3) := by decide +kernel
theorem dX10_runs_43 : decode cX10_runs 43 = .ok (.aload 4, 2) := by decide +kernel
theorem dX10_runs_45 : decode cX10_runs 45 = .ok (.iload 7, 2) := by decide +kernel
theorem dX10_runs_47 : decode cX10_runs 47 = .ok (.iload_n 3, 1) := by decide +kernel
theorem dX10_runs_48 : decode cX10_runs 48 = .ok (.ifCond .eq 7, 3) := by decide +kernel
theorem dX10_runs_51 : decode cX10_runs 51 = .ok (.iconst 0, 1) := by decide +kernel
theorem dX10_runs_52 : decode cX10_runs 52 = .ok (.goto 4, 3) := by decide +kernel
theorem dX10_runs_55 : decode cX10_runs 55 = .ok (.iconst 1, 1) := by decide +kernel
theorem dX10_runs_56 : decode cX10_runs 56 = .ok (.invokevirtual 138, 3) := by decide +kernel
theorem dX10_runs_59 : decode cX10_runs 59 = .ok (.iload_n 2, 1) := by decide +kernel
theorem dX10_runs_60 : decode cX10_runs 60 = .ok (.if_icmp .ne 18, 3) := by decide +kernel
theorem dX10_runs_63 : decode cX10_runs 63 = .ok (.iinc 6 1, 3) := by decide +kernel
theorem dX10_runs_66 : decode cX10_runs 66 = .ok (.iload 5, 2) := by decide +kernel
theorem dX10_runs_68 : decode cX10_runs 68 = .ok (.iload 6, 2) := by decide +kernel
theorem dX10_runs_70 : decode cX10_runs 70 = .ok (.invokestatic 328, 3) := by decide +kernel
theorem dX10_runs_73 : decode cX10_runs 73 = .ok (.istore 5, 2) := by decide +kernel
theorem dX10_runs_75 : decode cX10_runs 75 = .ok (.goto 17, 3) := by decide +kernel
theorem dX10_runs_78 : decode cX10_runs 78 = .ok (.aload 4, 2) := by decide +kernel
theorem dX10_runs_80 : decode cX10_runs 80 = .ok (.iload 7, 2) := by decide +kernel
theorem dX10_runs_82 : decode cX10_runs 82 = .ok (.iload_n 2, 1) := by decide +kernel
theorem dX10_runs_83 : decode cX10_runs 83 = .ok (.invokevirtual 333, 3) := by decide +kernel
theorem dX10_runs_86 : decode cX10_runs 86 = .ok (.ifCond .eq 6, 3) := by decide +kernel
theorem dX10_runs_89 : decode cX10_runs 89 = .ok (.iconst 0, 1) := by decide +kernel
theorem dX10_runs_90 : decode cX10_runs 90 = .ok (.istore 6, 2) := by decide +kernel
theorem dX10_runs_92 : decode cX10_runs 92 = .ok (.iinc 7 1, 3) := by decide +kernel
theorem dX10_runs_95 : decode cX10_runs 95 = .ok (.goto (-62), 3) := by decide +kernel
theorem dX10_runs_98 : decode cX10_runs 98 = .ok (.iload 5, 2) := by decide +kernel
theorem dX10_runs_100 : decode cX10_runs 100 = .ok (.ireturn, 1) := by decide +kernel
theorem dX10_early_0 : decode cX10_early 0 = .ok (.aload_n 0, 1) := by decide +kernel
theorem dX10_early_1 : decode cX10_early 1 = .ok (.getfield 30, 3) := by decide +kernel
theorem dX10_early_4 : decode cX10_early 4 = .ok (.aload_n 0, 1) := by decide +kernel
theorem dX10_early_5 : decode cX10_early 5 = .ok (.getfield 10, 3) := by decide +kernel
theorem dX10_early_8 : decode cX10_early 8 = .ok (.iload_n 1, 1) := by decide +kernel
theorem dX10_early_9 : decode cX10_early 9 = .ok (.iload_n 2, 1) := by decide +kernel
theorem dX10_early_10 : decode cX10_early 10 = .ok (.invokevirtual 141, 3) := by decide +kernel
theorem dX10_early_13 : decode cX10_early 13 = .ok (.ifCond .eq 21, 3) := by decide +kernel
theorem dX10_early_16 : decode cX10_early 16 = .ok (.iload_n 3, 1) := by decide +kernel
theorem dX10_early_17 : decode cX10_early 17 = .ok (.iconst 0, 1) := by decide +kernel
theorem dX10_early_18 : decode cX10_early 18 = .ok (.aload_n 0, 1) := by decide +kernel
theorem dX10_early_19 : decode cX10_early 19 = .ok (.getfield 30, 3) := by decide +kernel
theorem dX10_early_22 : decode cX10_early 22 = .ok (.getfield 148, 3) := by decide +kernel
theorem dX10_early_25 : decode cX10_early 25 = .ok (.getfield 132, 3) := by decide +kernel
theorem dX10_early_28 : decode cX10_early 28 = .ok (.invokestatic 209, 3) := by decide +kernel
theorem dX10_early_31 : decode cX10_early 31 = .ok (.ifCond .ne 6, 3) := by decide +kernel
theorem dX10_early_34 : decode cX10_early 34 = .ok (.ldc 247, 2) := by decide +kernel
theorem dX10_early_36 : decode cX10_early 36 = .ok (.ireturn, 1) := by decide +kernel
theorem dX10_early_37 : decode cX10_early 37 = .ok (.iconst 0, 1) := by decide +kernel
theorem dX10_early_38 : decode cX10_early 38 = .ok (.istore 4, 2) := by decide +kernel
theorem dX10_early_40 : decode cX10_early 40 = .ok (.iconst 0, 1) := by decide +kernel
theorem dX10_early_41 : decode cX10_early 41 = .ok (.istore 5, 2) := by decide +kernel
theorem dX10_early_43 : decode cX10_early 43 = .ok (.iload 5, 2) := by decide +kernel
theorem dX10_early_45 : decode cX10_early 45 = .ok (.iload_n 3, 1) := by decide +kernel
theorem dX10_early_46 : decode cX10_early 46 = .ok (.if_icmp .ge 23, 3) := by decide +kernel
theorem dX10_early_49 : decode cX10_early 49 = .ok (.iload 4, 2) := by decide +kernel
theorem dX10_early_51 : decode cX10_early 51 = .ok (.aload_n 0, 1) := by decide +kernel
theorem dX10_early_52 : decode cX10_early 52 = .ok (.getfield 30, 3) := by decide +kernel
theorem dX10_early_55 : decode cX10_early 55 = .ok (.iload 5, 2) := by decide +kernel
theorem dX10_early_57 : decode cX10_early 57 = .ok (.invokevirtual 336, 3) := by decide +kernel
theorem dX10_early_60 : decode cX10_early 60 = .ok (.iadd, 1) := by decide +kernel
theorem dX10_early_61 : decode cX10_early 61 = .ok (.istore 4, 2) := by decide +kernel
theorem dX10_early_63 : decode cX10_early 63 = .ok (.iinc 5 1, 3) := by decide +kernel
theorem dX10_early_66 : decode cX10_early 66 = .ok (.goto (-23), 3) := by decide +kernel
theorem dX10_early_69 : decode cX10_early 69 = .ok (.iload 4, 2) := by decide +kernel
theorem dX10_early_71 : decode cX10_early 71 = .ok (.ireturn, 1) := by decide +kernel
theorem dX10_uneven_0 : decode cX10_uneven 0 = .ok (.aload_n 0, 1) := by decide +kernel
theorem dX10_uneven_1 : decode cX10_uneven 1 = .ok (.getfield 10, 3) := by decide +kernel
theorem dX10_uneven_4 : decode cX10_uneven 4 = .ok (.iload_n 1, 1) := by decide +kernel
theorem dX10_uneven_5 : decode cX10_uneven 5 = .ok (.invokevirtual 128, 3) := by decide +kernel
theorem dX10_uneven_8 : decode cX10_uneven 8 = .ok (.astore_n 2, 1) := by decide +kernel
theorem dX10_uneven_9 : decode cX10_uneven 9 = .ok (.aload_n 2, 1) := by decide +kernel
theorem dX10_uneven_10 : decode cX10_uneven 10 = .ok (.ifnonnull 5, 3) := by decide +kernel
theorem dX10_uneven_13 : decode cX10_uneven 13 = .ok (.iconst (-1), 1) := by decide +kernel
theorem dX10_uneven_14 : decode cX10_uneven 14 = .ok (.ireturn, 1) := by decide +kernel
theorem dX10_uneven_15 : decode cX10_uneven 15 = .ok (.iconst 0, 1) := by decide +kernel
theorem dX10_uneven_16 : decode cX10_uneven 16 = .ok (.istore_n 3, 1) := by decide +kernel
theorem dX10_uneven_17 : decode cX10_uneven 17 = .ok (.iconst 0, 1) := by decide +kernel
theorem dX10_uneven_18 : decode cX10_uneven 18 = .ok (.istore 4, 2) := by decide +kernel
theorem dX10_uneven_20 : decode cX10_uneven 20 = .ok (.iload 4, 2) := by decide +kernel
theorem dX10_uneven_22 : decode cX10_uneven 22 = .ok (.bipush 8, 2) := by decide +kernel
theorem dX10_uneven_24 : decode cX10_uneven 24 = .ok (.if_icmp .ge 50, 3) := by decide +kernel
theorem dX10_uneven_27 : decode cX10_uneven 27 = .ok (.iload 4, 2) := by decide +kernel
theorem dX10_uneven_29 : decode cX10_uneven 29 = .ok (.iconst 1, 1) := by decide +kernel
theorem dX10_uneven_30 : decode cX10_uneven 30 = .ok (.iadd, 1) := by decide +kernel
theorem dX10_uneven_31 : decode cX10_uneven 31 = .ok (.istore 5, 2) := by decide +kernel
theorem dX10_uneven_33 : decode cX10_uneven 33 = .ok (.iload 5, 2) := by decide +kernel
theorem dX10_uneven_35 : decode cX10_uneven 35 = .ok (.bipush 8, 2) := by decide +kernel
theorem dX10_uneven_37 : decode cX10_uneven 37 = .ok (.if_icmp .ge 31, 3) := by decide +kernel
theorem dX10_uneven_40 : decode cX10_uneven 40 = .ok (.aload_n 2, 1) := by decide +kernel
theorem dX10_uneven_41 : decode cX10_uneven 41 = .ok (.iload 4, 2) := by decide +kernel
theorem dX10_uneven_43 : decode cX10_uneven 43 = .ok (.iload 5, 2) := by decide +kernel
theorem dX10_uneven_45 : decode cX10_uneven 45 = .ok (.invokevirtual 339, 3) := by decide +kernel
theorem dX10_uneven_48 : decode cX10_uneven 48 = .ok (.aload_n 2, 1) := by decide +kernel
theorem dX10_uneven_49 : decode cX10_uneven 49 = .ok (.iload 5, 2) := by decide +kernel
theorem dX10_uneven_51 : decode cX10_uneven 51 = .ok (.iload 4, 2) := by decide +kernel
theorem dX10_uneven_53 : decode cX10_uneven 53 = .ok (.invokevirtual 339, 3) := by decide +kernel
theorem dX10_uneven_56 : decode cX10_uneven 56 = .ok (.if_icmp .eq 6, 3) := by decide +kernel
theorem dX10_uneven_59 : decode cX10_uneven 59 = .ok (.iinc 3 1, 3) := by decide +kernel
theorem dX10_uneven_62 : decode cX10_uneven 62 = .ok (.iinc 5 1, 3) := by decide +kernel
theorem dX10_uneven_65 : decode cX10_uneven 65 = .ok (.goto (-32), 3) := by decide +kernel
theorem dX10_uneven_68 : decode cX10_uneven 68 = .ok (.iinc 4 1, 3) := by decide +kernel
theorem dX10_uneven_71 : decode cX10_uneven 71 = .ok (.goto (-51), 3) := by decide +kernel
theorem dX10_uneven_74 : decode cX10_uneven 74 = .ok (.iload_n 3, 1) := by decide +kernel
theorem dX10_uneven_75 : decode cX10_uneven 75 = .ok (.ireturn, 1) := by decide +kernel
theorem dX10_turned_0 : decode cX10_turned 0 = .ok (.aload_n 0, 1) := by decide +kernel
theorem dX10_turned_1 : decode cX10_turned 1 = .ok (.getfield 30, 3) := by decide +kernel
theorem dX10_turned_4 : decode cX10_turned 4 = .ok (.aload_n 0, 1) := by decide +kernel
theorem dX10_turned_5 : decode cX10_turned 5 = .ok (.getfield 10, 3) := by decide +kernel
theorem dX10_turned_8 : decode cX10_turned 8 = .ok (.iload_n 1, 1) := by decide +kernel
theorem dX10_turned_9 : decode cX10_turned 9 = .ok (.iload_n 2, 1) := by decide +kernel
theorem dX10_turned_10 : decode cX10_turned 10 = .ok (.invokevirtual 141, 3) := by decide +kernel
theorem dX10_turned_13 : decode cX10_turned 13 = .ok (.ifCond .ne 5, 3) := by decide +kernel
theorem dX10_turned_16 : decode cX10_turned 16 = .ok (.iconst (-1), 1) := by decide +kernel
theorem dX10_turned_17 : decode cX10_turned 17 = .ok (.ireturn, 1) := by decide +kernel
theorem dX10_turned_18 : decode cX10_turned 18 = .ok (.aload_n 0, 1) := by decide +kernel
theorem dX10_turned_19 : decode cX10_turned 19 = .ok (.getfield 30, 3) := by decide +kernel
theorem dX10_turned_22 : decode cX10_turned 22 = .ok (.iconst (-1), 1) := by decide +kernel
theorem dX10_turned_23 : decode cX10_turned 23 = .ok (.invokevirtual 322, 3) := by decide +kernel
theorem dX10_turned_26 : decode cX10_turned 26 = .ok (.istore_n 3, 1) := by decide +kernel
theorem dX10_turned_27 : decode cX10_turned 27 = .ok (.iconst (-1), 1) := by decide +kernel
theorem dX10_turned_28 : decode cX10_turned 28 = .ok (.istore 4, 2) := by decide +kernel
theorem dX10_turned_30 : decode cX10_turned 30 = .ok (.iconst 0, 1) := by decide +kernel
theorem dX10_turned_31 : decode cX10_turned 31 = .ok (.istore 5, 2) := by decide +kernel
theorem dX10_turned_33 : decode cX10_turned 33 = .ok (.iload 5, 2) := by decide +kernel
theorem dX10_turned_35 : decode cX10_turned 35 = .ok (.aload_n 0, 1) := by decide +kernel
theorem dX10_turned_36 : decode cX10_turned 36 = .ok (.getfield 30, 3) := by decide +kernel
theorem dX10_turned_39 : decode cX10_turned 39 = .ok (.getfield 148, 3) := by decide +kernel
theorem dX10_turned_42 : decode cX10_turned 42 = .ok (.getfield 132, 3) := by decide +kernel
theorem dX10_turned_45 : decode cX10_turned 45 = .ok (.if_icmp .ge 33, 3) := by decide +kernel
theorem dX10_turned_48 : decode cX10_turned 48 = .ok (.aload_n 0, 1) := by decide +kernel
theorem dX10_turned_49 : decode cX10_turned 49 = .ok (.getfield 30, 3) := by decide +kernel
theorem dX10_turned_52 : decode cX10_turned 52 = .ok (.iload 5, 2) := by decide +kernel
theorem dX10_turned_54 : decode cX10_turned 54 = .ok (.invokevirtual 322, 3) := by decide +kernel
theorem dX10_turned_57 : decode cX10_turned 57 = .ok (.istore 6, 2) := by decide +kernel
theorem dX10_turned_59 : decode cX10_turned 59 = .ok (.iload 6, 2) := by decide +kernel
theorem dX10_turned_61 : decode cX10_turned 61 = .ok (.iload_n 3, 1) := by decide +kernel
theorem dX10_turned_62 : decode cX10_turned 62 = .ok (.if_icmp .ge 10, 3) := by decide +kernel
theorem dX10_turned_65 : decode cX10_turned 65 = .ok (.iload 6, 2) := by decide +kernel
theorem dX10_turned_67 : decode cX10_turned 67 = .ok (.istore_n 3, 1) := by decide +kernel
theorem dX10_turned_68 : decode cX10_turned 68 = .ok (.iload 5, 2) := by decide +kernel
theorem dX10_turned_70 : decode cX10_turned 70 = .ok (.istore 4, 2) := by decide +kernel
theorem dX10_turned_72 : decode cX10_turned 72 = .ok (.iinc 5 1, 3) := by decide +kernel
theorem dX10_turned_75 : decode cX10_turned 75 = .ok (.goto (-42), 3) := by decide +kernel
theorem dX10_turned_78 : decode cX10_turned 78 = .ok (.iload 4, 2) := by decide +kernel
theorem dX10_turned_80 : decode cX10_turned 80 = .ok (.ireturn, 1) := by decide +kernel
theorem dX10_like_0 : decode cX10_like 0 = .ok (.iload 4, 2) := by decide +kernel
theorem dX10_like_2 : decode cX10_like 2 = .ok (.invokestatic 167, 3) := by decide +kernel
theorem dX10_like_5 : decode cX10_like 5 = .ok (.ifCond .eq 20, 3) := by decide +kernel
theorem dX10_like_8 : decode cX10_like 8 = .ok (.aload_n 0, 1) := by decide +kernel
theorem dX10_like_9 : decode cX10_like 9 = .ok (.getfield 30, 3) := by decide +kernel
theorem dX10_like_12 : decode cX10_like 12 = .ok (.aload_n 0, 1) := by decide +kernel
theorem dX10_like_13 : decode cX10_like 13 = .ok (.getfield 10, 3) := by decide +kernel
theorem dX10_like_16 : decode cX10_like 16 = .ok (.iload_n 1, 1) := by decide +kernel
theorem dX10_like_17 : decode cX10_like 17 = .ok (.iload_n 2, 1) := by decide +kernel
theorem dX10_like_18 : decode cX10_like 18 = .ok (.iload_n 3, 1) := by decide +kernel
theorem dX10_like_19 : decode cX10_like 19 = .ok (.invokevirtual 145, 3) := by decide +kernel
theorem dX10_like_22 : decode cX10_like 22 = .ok (.ifCond .ne 5, 3) := by decide +kernel
theorem dX10_like_25 : decode cX10_like 25 = .ok (.iconst (-1), 1) := by decide +kernel
theorem dX10_like_26 : decode cX10_like 26 = .ok (.ireturn, 1) := by decide +kernel
theorem dX10_like_27 : decode cX10_like 27 = .ok (.aload_n 0, 1) := by decide +kernel
theorem dX10_like_28 : decode cX10_like 28 = .ok (.invokevirtual 342, 3) := by decide +kernel
theorem dX10_like_31 : decode cX10_like 31 = .ok (.iconst 0, 1) := by decide +kernel
theorem dX10_like_32 : decode cX10_like 32 = .ok (.istore 5, 2) := by decide +kernel
theorem dX10_like_34 : decode cX10_like 34 = .ok (.iconst 0, 1) := by decide +kernel
theorem dX10_like_35 : decode cX10_like 35 = .ok (.istore 6, 2) := by decide +kernel
theorem dX10_like_37 : decode cX10_like 37 = .ok (.iload 6, 2) := by decide +kernel
theorem dX10_like_39 : decode cX10_like 39 = .ok (.bipush 6, 2) := by decide +kernel
theorem dX10_like_41 : decode cX10_like 41 = .ok (.if_icmp .ge 29, 3) := by decide +kernel
theorem dX10_like_44 : decode cX10_like 44 = .ok (.aload_n 0, 1) := by decide +kernel
theorem dX10_like_45 : decode cX10_like 45 = .ok (.iload 4, 2) := by decide +kernel
theorem dX10_like_47 : decode cX10_like 47 = .ok (.iload 6, 2) := by decide +kernel
theorem dX10_like_49 : decode cX10_like 49 = .ok (.invokevirtual 345, 3) := by decide +kernel
theorem dX10_like_52 : decode cX10_like 52 = .ok (.ifCond .eq 12, 3) := by decide +kernel
theorem dX10_like_55 : decode cX10_like 55 = .ok (.iload 5, 2) := by decide +kernel
theorem dX10_like_57 : decode cX10_like 57 = .ok (.iconst 1, 1) := by decide +kernel
theorem dX10_like_58 : decode cX10_like 58 = .ok (.iload 6, 2) := by decide +kernel
theorem dX10_like_60 : decode cX10_like 60 = .ok (.ishl, 1) := by decide +kernel
theorem dX10_like_61 : decode cX10_like 61 = .ok (.ior, 1) := by decide +kernel
theorem dX10_like_62 : decode cX10_like 62 = .ok (.istore 5, 2) := by decide +kernel
theorem dX10_like_64 : decode cX10_like 64 = .ok (.iinc 6 1, 3) := by decide +kernel
theorem dX10_like_67 : decode cX10_like 67 = .ok (.goto (-30), 3) := by decide +kernel
theorem dX10_like_70 : decode cX10_like 70 = .ok (.iload 5, 2) := by decide +kernel
theorem dX10_like_72 : decode cX10_like 72 = .ok (.ireturn, 1) := by decide +kernel
theorem dX10_wakeAlike_0 : decode cX10_wakeAlike 0 = .ok (.iconst 0, 1) := by decide +kernel
theorem dX10_wakeAlike_1 : decode cX10_wakeAlike 1 = .ok (.istore_n 3, 1) := by decide +kernel
theorem dX10_wakeAlike_2 : decode cX10_wakeAlike 2 = .ok (.iload_n 3, 1) := by decide +kernel
theorem dX10_wakeAlike_3 : decode cX10_wakeAlike 3 = .ok (.aload_n 0, 1) := by decide +kernel
theorem dX10_wakeAlike_4 : decode cX10_wakeAlike 4 = .ok (.getfield 30, 3) := by decide +kernel
theorem dX10_wakeAlike_7 : decode cX10_wakeAlike 7 = .ok (.getfield 148, 3) := by decide +kernel
theorem dX10_wakeAlike_10 : decode cX10_wakeAlike 10 = .ok (.getfield 132, 3) := by decide +kernel
theorem dX10_wakeAlike_13 : decode cX10_wakeAlike 13 = .ok (.if_icmp .ge 36, 3) := by decide +kernel
theorem dX10_wakeAlike_16 : decode cX10_wakeAlike 16 = .ok (.aload_n 0, 1) := by decide +kernel
theorem dX10_wakeAlike_17 : decode cX10_wakeAlike 17 = .ok (.getfield 52, 3) := by decide +kernel
theorem dX10_wakeAlike_20 : decode cX10_wakeAlike 20 = .ok (.iload_n 3, 1) := by decide +kernel
theorem dX10_wakeAlike_21 : decode cX10_wakeAlike 21 = .ok (.invokestatic 348, 3) := by decide +kernel
theorem dX10_wakeAlike_24 : decode cX10_wakeAlike 24 = .ok (.istore 4, 2) := by decide +kernel
theorem dX10_wakeAlike_26 : decode cX10_wakeAlike 26 = .ok (.iload 4, 2) := by decide +kernel
theorem dX10_wakeAlike_28 : decode cX10_wakeAlike 28 = .ok (.iload_n 1, 1) := by decide +kernel
theorem dX10_wakeAlike_29 : decode cX10_wakeAlike 29 = .ok (.ishr, 1) := by decide +kernel
theorem dX10_wakeAlike_30 : decode cX10_wakeAlike 30 = .ok (.iconst 1, 1) := by decide +kernel
theorem dX10_wakeAlike_31 : decode cX10_wakeAlike 31 = .ok (.iand, 1) := by decide +kernel
theorem dX10_wakeAlike_32 : decode cX10_wakeAlike 32 = .ok (.iload 4, 2) := by decide +kernel
theorem dX10_wakeAlike_34 : decode cX10_wakeAlike 34 = .ok (.iload_n 2, 1) := by decide +kernel
theorem dX10_wakeAlike_35 : decode cX10_wakeAlike 35 = .ok (.ishr, 1) := by decide +kernel
theorem dX10_wakeAlike_36 : decode cX10_wakeAlike 36 = .ok (.iconst 1, 1) := by decide +kernel
theorem dX10_wakeAlike_37 : decode cX10_wakeAlike 37 = .ok (.iand, 1) := by decide +kernel
theorem dX10_wakeAlike_38 : decode cX10_wakeAlike 38 = .ok (.if_icmp .eq 5, 3) := by decide +kernel
theorem dX10_wakeAlike_41 : decode cX10_wakeAlike 41 = .ok (.iconst 0, 1) := by decide +kernel
theorem dX10_wakeAlike_42 : decode cX10_wakeAlike 42 = .ok (.ireturn, 1) := by decide +kernel
theorem dX10_wakeAlike_43 : decode cX10_wakeAlike 43 = .ok (.iinc 3 1, 3) := by decide +kernel
theorem dX10_wakeAlike_46 : decode cX10_wakeAlike 46 = .ok (.goto (-44), 3) := by decide +kernel
theorem dX10_wakeAlike_49 : decode cX10_wakeAlike 49 = .ok (.iconst 1, 1) := by decide +kernel
theorem dX10_wakeAlike_50 : decode cX10_wakeAlike 50 = .ok (.ireturn, 1) := by decide +kernel
theorem dX10_single_0 : decode cX10_single 0 = .ok (.iload 4, 2) := by decide +kernel
theorem dX10_single_2 : decode cX10_single 2 = .ok (.invokestatic 167, 3) := by decide +kernel
theorem dX10_single_5 : decode cX10_single 5 = .ok (.ifCond .eq 20, 3) := by decide +kernel
theorem dX10_single_8 : decode cX10_single 8 = .ok (.aload_n 0, 1) := by decide +kernel
theorem dX10_single_9 : decode cX10_single 9 = .ok (.getfield 30, 3) := by decide +kernel
theorem dX10_single_12 : decode cX10_single 12 = .ok (.aload_n 0, 1) := by decide +kernel
theorem dX10_single_13 : decode cX10_single 13 = .ok (.getfield 10, 3) := by decide +kernel
theorem dX10_single_16 : decode cX10_single 16 = .ok (.iload_n 1, 1) := by decide +kernel
theorem dX10_single_17 : decode cX10_single 17 = .ok (.iload_n 2, 1) := by decide +kernel
theorem dX10_single_18 : decode cX10_single 18 = .ok (.iload_n 3, 1) := by decide +kernel
theorem dX10_single_19 : decode cX10_single 19 = .ok (.invokevirtual 145, 3) := by decide +kernel
theorem dX10_single_22 : decode cX10_single 22 = .ok (.ifCond .ne 5, 3) := by decide +kernel
theorem dX10_single_25 : decode cX10_single 25 = .ok (.iconst (-1), 1) := by decide +kernel
theorem dX10_single_26 : decode cX10_single 26 = .ok (.ireturn, 1) := by decide +kernel
theorem dX10_single_27 : decode cX10_single 27 = .ok (.aload_n 0, 1) := by decide +kernel
theorem dX10_single_28 : decode cX10_single 28 = .ok (.invokevirtual 342, 3) := by decide +kernel
theorem dX10_single_31 : decode cX10_single 31 = .ok (.iconst 0, 1) := by decide +kernel
theorem dX10_single_32 : decode cX10_single 32 = .ok (.istore 5, 2) := by decide +kernel
theorem dX10_single_34 : decode cX10_single 34 = .ok (.iconst 0, 1) := by decide +kernel
theorem dX10_single_35 : decode cX10_single 35 = .ok (.istore 6, 2) := by decide +kernel
theorem dX10_single_37 : decode cX10_single 37 = .ok (.iload 6, 2) := by decide +kernel
theorem dX10_single_39 : decode cX10_single 39 = .ok (.aload_n 0, 1) := by decide +kernel
theorem dX10_single_40 : decode cX10_single 40 = .ok (.getfield 30, 3) := by decide +kernel
theorem dX10_single_43 : decode cX10_single 43 = .ok (.getfield 148, 3) := by decide +kernel
theorem dX10_single_46 : decode cX10_single 46 = .ok (.getfield 132, 3) := by decide +kernel
theorem dX10_single_49 : decode cX10_single 49 = .ok (.if_icmp .ge 52, 3) := by decide +kernel
theorem dX10_single_52 : decode cX10_single 52 = .ok (.iload 6, 2) := by decide +kernel
theorem dX10_single_54 : decode cX10_single 54 = .ok (.iconst 1, 1) := by decide +kernel
theorem dX10_single_55 : decode cX10_single 55 = .ok (.iadd, 1) := by decide +kernel
theorem dX10_single_56 : decode cX10_single 56 = .ok (.istore 7, 2) := by decide +kernel
theorem dX10_single_58 : decode cX10_single 58 = .ok (.iload 7, 2) := by decide +kernel
theorem dX10_single_60 : decode cX10_single 60 = .ok (.aload_n 0, 1) := by decide +kernel
theorem dX10_single_61 : decode cX10_single 61 = .ok (.getfield 30, 3) := by decide +kernel
theorem dX10_single_64 : decode cX10_single 64 = .ok (.getfield 148, 3) := by decide +kernel
theorem dX10_single_67 : decode cX10_single 67 = .ok (.getfield 132, 3) := by decide +kernel
theorem dX10_single_70 : decode cX10_single 70 = .ok (.if_icmp .ge 25, 3) := by decide +kernel
theorem dX10_single_73 : decode cX10_single 73 = .ok (.aload_n 0, 1) := by decide +kernel
theorem dX10_single_74 : decode cX10_single 74 = .ok (.iload 4, 2) := by decide +kernel
theorem dX10_single_76 : decode cX10_single 76 = .ok (.iload 6, 2) := by decide +kernel
theorem dX10_single_78 : decode cX10_single 78 = .ok (.iload 7, 2) := by decide +kernel
theorem dX10_single_80 : decode cX10_single 80 = .ok (.invokevirtual 352, 3) := by decide +kernel
theorem dX10_single_83 : decode cX10_single 83 = .ok (.ifCond .eq 6, 3) := by decide +kernel
theorem dX10_single_86 : decode cX10_single 86 = .ok (.iinc 5 1, 3) := by decide +kernel
theorem dX10_single_89 : decode cX10_single 89 = .ok (.iinc 7 1, 3) := by decide +kernel
theorem dX10_single_92 : decode cX10_single 92 = .ok (.goto (-34), 3) := by decide +kernel
theorem dX10_single_95 : decode cX10_single 95 = .ok (.iinc 6 1, 3) := by decide +kernel
theorem dX10_single_98 : decode cX10_single 98 = .ok (.goto (-61), 3) := by decide +kernel
theorem dX10_single_101 : decode cX10_single 101 = .ok (.iload 5, 2) := by decide +kernel
theorem dX10_single_103 : decode cX10_single 103 = .ok (.ireturn, 1) := by decide +kernel
theorem dX10_felt_0 : decode cX10_felt 0 = .ok (.iload 4, 2) := by decide +kernel
theorem dX10_felt_2 : decode cX10_felt 2 = .ok (.invokestatic 167, 3) := by decide +kernel
theorem dX10_felt_5 : decode cX10_felt 5 = .ok (.ifCond .eq 41, 3) := by decide +kernel
theorem dX10_felt_8 : decode cX10_felt 8 = .ok (.aload_n 0, 1) := by decide +kernel
theorem dX10_felt_9 : decode cX10_felt 9 = .ok (.getfield 30, 3) := by decide +kernel
theorem dX10_felt_12 : decode cX10_felt 12 = .ok (.aload_n 0, 1) := by decide +kernel
theorem dX10_felt_13 : decode cX10_felt 13 = .ok (.getfield 10, 3) := by decide +kernel
theorem dX10_felt_16 : decode cX10_felt 16 = .ok (.iload_n 1, 1) := by decide +kernel
theorem dX10_felt_17 : decode cX10_felt 17 = .ok (.iload_n 2, 1) := by decide +kernel
theorem dX10_felt_18 : decode cX10_felt 18 = .ok (.iload_n 3, 1) := by decide +kernel
theorem dX10_felt_19 : decode cX10_felt 19 = .ok (.invokevirtual 145, 3) := by decide +kernel
theorem dX10_felt_22 : decode cX10_felt 22 = .ok (.ifCond .eq 24, 3) := by decide +kernel
theorem dX10_felt_25 : decode cX10_felt 25 = .ok (.aload_n 0, 1) := by decide +kernel
theorem dX10_felt_26 : decode cX10_felt 26 = .ok (.iload 5, 2) := by decide +kernel
theorem dX10_felt_28 : decode cX10_felt 28 = .ok (.iload 5, 2) := by decide +kernel
theorem dX10_felt_30 : decode cX10_felt 30 = .ok (.invokevirtual 219, 3) := by decide +kernel
theorem dX10_felt_33 : decode cX10_felt 33 = .ok (.aload_n 0, 1) := by decide +kernel
theorem dX10_felt_34 : decode cX10_felt 34 = .ok (.getfield 30, 3) := by decide +kernel
theorem dX10_felt_37 : decode cX10_felt 37 = .ok (.getfield 148, 3) := by decide +kernel
theorem dX10_felt_40 : decode cX10_felt 40 = .ok (.getfield 132, 3) := by decide +kernel
theorem dX10_felt_43 : decode cX10_felt 43 = .ok (.if_icmp .ge 6, 3) := by decide +kernel
theorem dX10_felt_46 : decode cX10_felt 46 = .ok (.ldc 247, 2) := by decide +kernel
theorem dX10_felt_48 : decode cX10_felt 48 = .ok (.ireturn, 1) := by decide +kernel
theorem dX10_felt_49 : decode cX10_felt 49 = .ok (.aload_n 0, 1) := by decide +kernel
theorem dX10_felt_50 : decode cX10_felt 50 = .ok (.invokevirtual 342, 3) := by decide +kernel
theorem dX10_felt_53 : decode cX10_felt 53 = .ok (.iconst 0, 1) := by decide +kernel
theorem dX10_felt_54 : decode cX10_felt 54 = .ok (.istore 7, 2) := by decide +kernel
theorem dX10_felt_56 : decode cX10_felt 56 = .ok (.iconst 0, 1) := by decide +kernel
theorem dX10_felt_57 : decode cX10_felt 57 = .ok (.istore 8, 2) := by decide +kernel
theorem dX10_felt_59 : decode cX10_felt 59 = .ok (.iconst 0, 1) := by decide +kernel
theorem dX10_felt_60 : decode cX10_felt 60 = .ok (.istore 9, 2) := by decide +kernel
theorem dX10_felt_62 : decode cX10_felt 62 = .ok (.iload 9, 2) := by decide +kernel
theorem dX10_felt_64 : decode cX10_felt 64 = .ok (.aload_n 0, 1) := by decide +kernel
theorem dX10_felt_65 : decode cX10_felt 65 = .ok (.getfield 30, 3) := by decide +kernel
theorem dX10_felt_68 : decode cX10_felt 68 = .ok (.getfield 148, 3) := by decide +kernel
theorem dX10_felt_71 : decode cX10_felt 71 = .ok (.getfield 132, 3) := by decide +kernel
theorem dX10_felt_74 : decode cX10_felt 74 = .ok (.if_icmp .ge 116, 3) := by decide +kernel
theorem dX10_felt_77 : decode cX10_felt 77 = .ok (.iload 9, 2) := by decide +kernel
theorem dX10_felt_79 : decode cX10_felt 79 = .ok (.iconst 1, 1) := by decide +kernel
theorem dX10_felt_80 : decode cX10_felt 80 = .ok (.iadd, 1) := by decide +kernel
theorem dX10_felt_81 : decode cX10_felt 81 = .ok (.istore 10, 2) := by decide +kernel
theorem dX10_felt_83 : decode cX10_felt 83 = .ok (.iload 10, 2) := by decide +kernel
theorem dX10_felt_85 : decode cX10_felt 85 = .ok (.aload_n 0, 1) := by decide +kernel
theorem dX10_felt_86 : decode cX10_felt 86 = .ok (.getfield 30, 3) := by decide +kernel
theorem dX10_felt_89 : decode cX10_felt 89 = .ok (.getfield 148, 3) := by decide +kernel
theorem dX10_felt_92 : decode cX10_felt 92 = .ok (.getfield 132, 3) := by decide +kernel
theorem dX10_felt_95 : decode cX10_felt 95 = .ok (.if_icmp .ge 89, 3) := by decide +kernel
theorem dX10_felt_98 : decode cX10_felt 98 = .ok (.aload_n 0, 1) := by decide +kernel
theorem dX10_felt_99 : decode cX10_felt 99 = .ok (.iload 4, 2) := by decide +kernel
theorem dX10_felt_101 : decode cX10_felt 101 = .ok (.iload 9, 2) := by decide +kernel
theorem dX10_felt_103 : decode cX10_felt 103 = .ok (.iload 10, 2) := by decide +kernel
theorem dX10_felt_105 : decode cX10_felt 105 = .ok (.invokevirtual 352, 3) := by decide +kernel
theorem dX10_felt_108 : decode cX10_felt 108 = .ok (.ifCond .eq 70, 3) := by decide +kernel
theorem dX10_felt_111 : decode cX10_felt 111 = .ok (.iinc 7 1, 3) := by decide +kernel
theorem dX10_felt_114 : decode cX10_felt 114 = .ok (.aload_n 0, 1) := by decide +kernel
theorem dX10_felt_115 : decode cX10_felt 115 = .ok (.getfield 52, 3) := by decide +kernel
theorem dX10_felt_118 : decode cX10_felt 118 = .ok (.iload 9, 2) := by decide +kernel
theorem dX10_felt_120 : decode cX10_felt 120 = .ok (.invokestatic 348, 3) := by decide +kernel
theorem dX10_felt_123 : decode cX10_felt 123 = .ok (.iload 4, 2) := by decide +kernel
theorem dX10_felt_125 : decode cX10_felt 125 = .ok (.ishr, 1) := by decide +kernel
theorem dX10_felt_126 : decode cX10_felt 126 = .ok (.iconst 1, 1) := by decide +kernel
theorem dX10_felt_127 : decode cX10_felt 127 = .ok (.iand, 1) := by decide +kernel
theorem dX10_felt_128 : decode cX10_felt 128 = .ok (.iconst 1, 1) := by decide +kernel
theorem dX10_felt_129 : decode cX10_felt 129 = .ok (.if_icmp .ne 7, 3) := by decide +kernel
theorem dX10_felt_132 : decode cX10_felt 132 = .ok (.iconst 1, 1) := by decide +kernel
theorem dX10_felt_133 : decode cX10_felt 133 = .ok (.goto 4, 3) := by decide +kernel
theorem dX10_felt_136 : decode cX10_felt 136 = .ok (.iconst 0, 1) := by decide +kernel
theorem dX10_felt_137 : decode cX10_felt 137 = .ok (.istore 11, 2) := by decide +kernel
theorem dX10_felt_139 : decode cX10_felt 139 = .ok (.iload 8, 2) := by decide +kernel
theorem dX10_felt_141 : decode cX10_felt 141 = .ok (.iload 11, 2) := by decide +kernel
theorem dX10_felt_143 : decode cX10_felt 143 = .ok (.ifCond .eq 19, 3) := by decide +kernel
theorem dX10_felt_146 : decode cX10_felt 146 = .ok (.aload_n 0, 1) := by decide +kernel
theorem dX10_felt_147 : decode cX10_felt 147 = .ok (.iload 9, 2) := by decide +kernel
theorem dX10_felt_149 : decode cX10_felt 149 = .ok (.invokevirtual 225, 3) := by decide +kernel
theorem dX10_felt_152 : decode cX10_felt 152 = .ok (.aload_n 0, 1) := by decide +kernel
theorem dX10_felt_153 : decode cX10_felt 153 = .ok (.iload 10, 2) := by decide +kernel
theorem dX10_felt_155 : decode cX10_felt 155 = .ok (.invokevirtual 225, 3) := by decide +kernel
theorem dX10_felt_158 : decode cX10_felt 158 = .ok (.isub, 1) := by decide +kernel
theorem dX10_felt_159 : decode cX10_felt 159 = .ok (.goto 16, 3) := by decide +kernel
theorem dX10_felt_162 : decode cX10_felt 162 = .ok (.aload_n 0, 1) := by decide +kernel
theorem dX10_felt_163 : decode cX10_felt 163 = .ok (.iload 10, 2) := by decide +kernel
theorem dX10_felt_165 : decode cX10_felt 165 = .ok (.invokevirtual 225, 3) := by decide +kernel
theorem dX10_felt_168 : decode cX10_felt 168 = .ok (.aload_n 0, 1) := by decide +kernel
theorem dX10_felt_169 : decode cX10_felt 169 = .ok (.iload 9, 2) := by decide +kernel
theorem dX10_felt_171 : decode cX10_felt 171 = .ok (.invokevirtual 225, 3) := by decide +kernel
theorem dX10_felt_174 : decode cX10_felt 174 = .ok (.isub, 1) := by decide +kernel
theorem dX10_felt_175 : decode cX10_felt 175 = .ok (.iadd, 1) := by decide +kernel
theorem dX10_felt_176 : decode cX10_felt 176 = .ok (.istore 8, 2) := by decide +kernel
theorem dX10_felt_178 : decode cX10_felt 178 = .ok (.iinc 10 1, 3) := by decide +kernel
theorem dX10_felt_181 : decode cX10_felt 181 = .ok (.goto (-98), 3) := by decide +kernel
theorem dX10_felt_184 : decode cX10_felt 184 = .ok (.iinc 9 1, 3) := by decide +kernel
theorem dX10_felt_187 : decode cX10_felt 187 = .ok (.goto (-125), 3) := by decide +kernel
theorem dX10_felt_190 : decode cX10_felt 190 = .ok (.iload 7, 2) := by decide +kernel
theorem dX10_felt_192 : decode cX10_felt 192 = .ok (.ifCond .ne 8, 3) := by decide +kernel
theorem dX10_felt_195 : decode cX10_felt 195 = .ok (.ldc 247, 2) := by decide +kernel
theorem dX10_felt_197 : decode cX10_felt 197 = .ok (.goto 15, 3) := by decide +kernel
theorem dX10_felt_200 : decode cX10_felt 200 = .ok (.iload 8, 2) := by decide +kernel
theorem dX10_felt_202 : decode cX10_felt 202 = .ok (.i2l, 1) := by decide +kernel
theorem dX10_felt_203 : decode cX10_felt 203 = .ok (.iload 7, 2) := by decide +kernel
theorem dX10_felt_205 : decode cX10_felt 205 = .ok (.i2l, 1) := by decide +kernel
theorem dX10_felt_206 : decode cX10_felt 206 = .ok (.iload 6, 2) := by decide +kernel
theorem dX10_felt_208 : decode cX10_felt 208 = .ok (.invokestatic 251, 3) := by decide +kernel
theorem dX10_felt_211 : decode cX10_felt 211 = .ok (.l2i, 1) := by decide +kernel
theorem dX10_felt_212 : decode cX10_felt 212 = .ok (.ireturn, 1) := by decide +kernel
theorem dX10_differJustBy_0 : decode cX10_differJustBy 0 = .ok (.aload_n 0, 1) := by decide +kernel
theorem dX10_differJustBy_1 : decode cX10_differJustBy 1 = .ok (.getfield 52, 3) := by decide +kernel
theorem dX10_differJustBy_4 : decode cX10_differJustBy 4 = .ok (.iload_n 2, 1) := by decide +kernel
theorem dX10_differJustBy_5 : decode cX10_differJustBy 5 = .ok (.invokestatic 348, 3) := by decide +kernel
theorem dX10_differJustBy_8 : decode cX10_differJustBy 8 = .ok (.aload_n 0, 1) := by decide +kernel
theorem dX10_differJustBy_9 : decode cX10_differJustBy 9 = .ok (.getfield 52, 3) := by decide +kernel
theorem dX10_differJustBy_12 : decode cX10_differJustBy 12 = .ok (.iload_n 3, 1) := by decide +kernel
theorem dX10_differJustBy_13 : decode cX10_differJustBy 13 = .ok (.invokestatic 348, 3) := by decide +kernel
theorem dX10_differJustBy_16 : decode cX10_differJustBy 16 = .ok (.ixor, 1) := by decide +kernel
theorem dX10_differJustBy_17 : decode cX10_differJustBy 17 = .ok (.iconst 1, 1) := by decide +kernel
theorem dX10_differJustBy_18 : decode cX10_differJustBy 18 = .ok (.iload_n 1, 1) := by decide +kernel
theorem dX10_differJustBy_19 : decode cX10_differJustBy 19 = .ok (.ishl, 1) := by decide +kernel
theorem dX10_differJustBy_20 : decode cX10_differJustBy 20 = .ok (.if_icmp .ne 7, 3) := by decide +kernel
theorem dX10_differJustBy_23 : decode cX10_differJustBy 23 = .ok (.iconst 1, 1) := by decide +kernel
theorem dX10_differJustBy_24 : decode cX10_differJustBy 24 = .ok (.goto 4, 3) := by decide +kernel
theorem dX10_differJustBy_27 : decode cX10_differJustBy 27 = .ok (.iconst 0, 1) := by decide +kernel
theorem dX10_differJustBy_28 : decode cX10_differJustBy 28 = .ok (.ireturn, 1) := by decide +kernel
theorem dX10_wake_0 : decode cX10_wake 0 = .ok (.iconst 0, 1) := by decide +kernel
theorem dX10_wake_1 : decode cX10_wake 1 = .ok (.istore_n 1, 1) := by decide +kernel
theorem dX10_wake_2 : decode cX10_wake 2 = .ok (.iload_n 1, 1) := by decide +kernel
theorem dX10_wake_3 : decode cX10_wake 3 = .ok (.aload_n 0, 1) := by decide +kernel
theorem dX10_wake_4 : decode cX10_wake 4 = .ok (.getfield 30, 3) := by decide +kernel
theorem dX10_wake_7 : decode cX10_wake 7 = .ok (.getfield 148, 3) := by decide +kernel
theorem dX10_wake_10 : decode cX10_wake 10 = .ok (.getfield 132, 3) := by decide +kernel
theorem dX10_wake_13 : decode cX10_wake 13 = .ok (.if_icmp .ge 66, 3) := by decide +kernel
theorem dX10_wake_16 : decode cX10_wake 16 = .ok (.iload_n 1, 1) := by decide +kernel
theorem dX10_wake_17 : decode cX10_wake 17 = .ok (.aload_n 0, 1) := by decide +kernel
theorem dX10_wake_18 : decode cX10_wake 18 = .ok (.getfield 52, 3) := by decide +kernel
theorem dX10_wake_21 : decode cX10_wake 21 = .ok (.arraylength, 1) := by decide +kernel
theorem dX10_wake_22 : decode cX10_wake 22 = .ok (.if_icmp .ge 57, 3) := by decide +kernel
theorem dX10_wake_25 : decode cX10_wake 25 = .ok (.aload_n 0, 1) := by decide +kernel
theorem dX10_wake_26 : decode cX10_wake 26 = .ok (.getfield 30, 3) := by decide +kernel
theorem dX10_wake_29 : decode cX10_wake 29 = .ok (.iload_n 1, 1) := by decide +kernel
theorem dX10_wake_30 : decode cX10_wake 30 = .ok (.invokevirtual 152, 3) := by decide +kernel
theorem dX10_wake_33 : decode cX10_wake 33 = .ok (.iconst 0, 1) := by decide +kernel
theorem dX10_wake_34 : decode cX10_wake 34 = .ok (.istore_n 2, 1) := by decide +kernel
theorem dX10_wake_35 : decode cX10_wake 35 = .ok (.iconst 0, 1) := by decide +kernel
theorem dX10_wake_36 : decode cX10_wake 36 = .ok (.istore_n 3, 1) := by decide +kernel
theorem dX10_wake_37 : decode cX10_wake 37 = .ok (.iload_n 3, 1) := by decide +kernel
theorem dX10_wake_38 : decode cX10_wake 38 = .ok (.bipush 6, 2) := by decide +kernel
theorem dX10_wake_40 : decode cX10_wake 40 = .ok (.if_icmp .ge 26, 3) := by decide +kernel
theorem dX10_wake_43 : decode cX10_wake 43 = .ok (.aload_n 0, 1) := by decide +kernel
theorem dX10_wake_44 : decode cX10_wake 44 = .ok (.getfield 30, 3) := by decide +kernel
theorem dX10_wake_47 : decode cX10_wake 47 = .ok (.iload_n 3, 1) := by decide +kernel
theorem dX10_wake_48 : decode cX10_wake 48 = .ok (.invokevirtual 170, 3) := by decide +kernel
theorem dX10_wake_51 : decode cX10_wake 51 = .ok (.ifCond .le 9, 3) := by decide +kernel
theorem dX10_wake_54 : decode cX10_wake 54 = .ok (.iload_n 2, 1) := by decide +kernel
theorem dX10_wake_55 : decode cX10_wake 55 = .ok (.iconst 1, 1) := by decide +kernel
theorem dX10_wake_56 : decode cX10_wake 56 = .ok (.iload_n 3, 1) := by decide +kernel
theorem dX10_wake_57 : decode cX10_wake 57 = .ok (.ishl, 1) := by decide +kernel
theorem dX10_wake_58 : decode cX10_wake 58 = .ok (.ior, 1) := by decide +kernel
theorem dX10_wake_59 : decode cX10_wake 59 = .ok (.istore_n 2, 1) := by decide +kernel
theorem dX10_wake_60 : decode cX10_wake 60 = .ok (.iinc 3 1, 3) := by decide +kernel
theorem dX10_wake_63 : decode cX10_wake 63 = .ok (.goto (-26), 3) := by decide +kernel
theorem dX10_wake_66 : decode cX10_wake 66 = .ok (.aload_n 0, 1) := by decide +kernel
theorem dX10_wake_67 : decode cX10_wake 67 = .ok (.getfield 52, 3) := by decide +kernel
theorem dX10_wake_70 : decode cX10_wake 70 = .ok (.iload_n 1, 1) := by decide +kernel
theorem dX10_wake_71 : decode cX10_wake 71 = .ok (.iload_n 2, 1) := by decide +kernel
theorem dX10_wake_72 : decode cX10_wake 72 = .ok (.iastore, 1) := by decide +kernel
theorem dX10_wake_73 : decode cX10_wake 73 = .ok (.iinc 1 1, 3) := by decide +kernel
theorem dX10_wake_76 : decode cX10_wake 76 = .ok (.goto (-74), 3) := by decide +kernel
theorem dX10_wake_79 : decode cX10_wake 79 = .ok (.return_, 1) := by decide +kernel
theorem dX10_rule_0 : decode cX10_rule 0 = .ok (.aload_n 0, 1) := by decide +kernel
theorem dX10_rule_1 : decode cX10_rule 1 = .ok (.getfield 30, 3) := by decide +kernel
theorem dX10_rule_4 : decode cX10_rule 4 = .ok (.aload_n 0, 1) := by decide +kernel
theorem dX10_rule_5 : decode cX10_rule 5 = .ok (.getfield 10, 3) := by decide +kernel
theorem dX10_rule_8 : decode cX10_rule 8 = .ok (.iload_n 1, 1) := by decide +kernel
theorem dX10_rule_9 : decode cX10_rule 9 = .ok (.iload_n 3, 1) := by decide +kernel
theorem dX10_rule_10 : decode cX10_rule 10 = .ok (.iload 4, 2) := by decide +kernel
theorem dX10_rule_12 : decode cX10_rule 12 = .ok (.invokevirtual 145, 3) := by decide +kernel
theorem dX10_rule_15 : decode cX10_rule 15 = .ok (.ifCond .ne 7, 3) := by decide +kernel
theorem dX10_rule_18 : decode cX10_rule 18 = .ok (.ldc2_w 355, 3) := by decide +kernel
theorem dX10_rule_21 : decode cX10_rule 21 = .ok (.lreturn, 1) := by decide +kernel
theorem dX10_rule_22 : decode cX10_rule 22 = .ok (.aload_n 0, 1) := by decide +kernel
theorem dX10_rule_23 : decode cX10_rule 23 = .ok (.getfield 30, 3) := by decide +kernel
theorem dX10_rule_26 : decode cX10_rule 26 = .ok (.invokevirtual 357, 3) := by decide +kernel
theorem dX10_rule_29 : decode cX10_rule 29 = .ok (.lstore 5, 2) := by decide +kernel
theorem dX10_rule_31 : decode cX10_rule 31 = .ok (.aload_n 0, 1) := by decide +kernel
theorem dX10_rule_32 : decode cX10_rule 32 = .ok (.getfield 30, 3) := by decide +kernel
theorem dX10_rule_35 : decode cX10_rule 35 = .ok (.aload_n 0, 1) := by decide +kernel
theorem dX10_rule_36 : decode cX10_rule 36 = .ok (.getfield 10, 3) := by decide +kernel
theorem dX10_rule_39 : decode cX10_rule 39 = .ok (.iload_n 1, 1) := by decide +kernel
theorem dX10_rule_40 : decode cX10_rule 40 = .ok (.iload_n 2, 1) := by decide +kernel
theorem dX10_rule_41 : decode cX10_rule 41 = .ok (.iload 4, 2) := by decide +kernel
theorem dX10_rule_43 : decode cX10_rule 43 = .ok (.invokevirtual 145, 3) := by decide +kernel
theorem dX10_rule_46 : decode cX10_rule 46 = .ok (.ifCond .eq 16, 3) := by decide +kernel
theorem dX10_rule_49 : decode cX10_rule 49 = .ok (.aload_n 0, 1) := by decide +kernel
theorem dX10_rule_50 : decode cX10_rule 50 = .ok (.getfield 30, 3) := by decide +kernel
theorem dX10_rule_53 : decode cX10_rule 53 = .ok (.invokevirtual 357, 3) := by decide +kernel
theorem dX10_rule_56 : decode cX10_rule 56 = .ok (.lload 5, 2) := by decide +kernel
theorem dX10_rule_58 : decode cX10_rule 58 = .ok (.lsub, 1) := by decide +kernel
theorem dX10_rule_59 : decode cX10_rule 59 = .ok (.goto 6, 3) := by decide +kernel
theorem dX10_rule_62 : decode cX10_rule 62 = .ok (.ldc2_w 355, 3) := by decide +kernel
theorem dX10_rule_65 : decode cX10_rule 65 = .ok (.lreturn, 1) := by decide +kernel
theorem dX10_less_0 : decode cX10_less 0 = .ok (.iload 4, 2) := by decide +kernel
theorem dX10_less_2 : decode cX10_less 2 = .ok (.invokestatic 167, 3) := by decide +kernel
theorem dX10_less_5 : decode cX10_less 5 = .ok (.ifCond .eq 20, 3) := by decide +kernel
theorem dX10_less_8 : decode cX10_less 8 = .ok (.aload_n 0, 1) := by decide +kernel
theorem dX10_less_9 : decode cX10_less 9 = .ok (.getfield 30, 3) := by decide +kernel
theorem dX10_less_12 : decode cX10_less 12 = .ok (.aload_n 0, 1) := by decide +kernel
theorem dX10_less_13 : decode cX10_less 13 = .ok (.getfield 10, 3) := by decide +kernel
theorem dX10_less_16 : decode cX10_less 16 = .ok (.iload_n 1, 1) := by decide +kernel
theorem dX10_less_17 : decode cX10_less 17 = .ok (.iload_n 2, 1) := by decide +kernel
theorem dX10_less_18 : decode cX10_less 18 = .ok (.iload_n 3, 1) := by decide +kernel
theorem dX10_less_19 : decode cX10_less 19 = .ok (.invokevirtual 145, 3) := by decide +kernel
theorem dX10_less_22 : decode cX10_less 22 = .ok (.ifCond .ne 7, 3) := by decide +kernel
theorem dX10_less_25 : decode cX10_less 25 = .ok (.ldc2_w 355, 3) := by decide +kernel
theorem dX10_less_28 : decode cX10_less 28 = .ok (.lreturn, 1) := by decide +kernel
theorem dX10_less_29 : decode cX10_less 29 = .ok (.lconst 0, 1) := by decide +kernel
theorem dX10_less_30 : decode cX10_less 30 = .ok (.lstore 5, 2) := by decide +kernel
theorem dX10_less_32 : decode cX10_less 32 = .ok (.iconst 0, 1) := by decide +kernel
theorem dX10_less_33 : decode cX10_less 33 = .ok (.istore 7, 2) := by decide +kernel
theorem dX10_less_35 : decode cX10_less 35 = .ok (.iload 7, 2) := by decide +kernel
theorem dX10_less_37 : decode cX10_less 37 = .ok (.aload_n 0, 1) := by decide +kernel
theorem dX10_less_38 : decode cX10_less 38 = .ok (.getfield 30, 3) := by decide +kernel
theorem dX10_less_41 : decode cX10_less 41 = .ok (.getfield 148, 3) := by decide +kernel
theorem dX10_less_44 : decode cX10_less 44 = .ok (.getfield 132, 3) := by decide +kernel
theorem dX10_less_47 : decode cX10_less 47 = .ok (.if_icmp .ge 55, 3) := by decide +kernel
theorem dX10_less_50 : decode cX10_less 50 = .ok (.aload_n 0, 1) := by decide +kernel
theorem dX10_less_51 : decode cX10_less 51 = .ok (.getfield 30, 3) := by decide +kernel
theorem dX10_less_54 : decode cX10_less 54 = .ok (.iload 7, 2) := by decide +kernel
theorem dX10_less_56 : decode cX10_less 56 = .ok (.invokevirtual 152, 3) := by decide +kernel
theorem dX10_less_59 : decode cX10_less 59 = .ok (.aload_n 0, 1) := by decide +kernel
theorem dX10_less_60 : decode cX10_less 60 = .ok (.getfield 30, 3) := by decide +kernel
theorem dX10_less_63 : decode cX10_less 63 = .ok (.iconst 3, 1) := by decide +kernel
theorem dX10_less_64 : decode cX10_less 64 = .ok (.invokevirtual 175, 3) := by decide +kernel
theorem dX10_less_67 : decode cX10_less 67 = .ok (.lstore 8, 2) := by decide +kernel
theorem dX10_less_69 : decode cX10_less 69 = .ok (.aload_n 0, 1) := by decide +kernel
theorem dX10_less_70 : decode cX10_less 70 = .ok (.getfield 30, 3) := by decide +kernel
theorem dX10_less_73 : decode cX10_less 73 = .ok (.iload 7, 2) := by decide +kernel
theorem dX10_less_75 : decode cX10_less 75 = .ok (.iload 4, 2) := by decide +kernel
theorem dX10_less_77 : decode cX10_less 77 = .ok (.invokevirtual 360, 3) := by decide +kernel
theorem dX10_less_80 : decode cX10_less 80 = .ok (.lload 5, 2) := by decide +kernel
theorem dX10_less_82 : decode cX10_less 82 = .ok (.aload_n 0, 1) := by decide +kernel
theorem dX10_less_83 : decode cX10_less 83 = .ok (.getfield 30, 3) := by decide +kernel
theorem dX10_less_86 : decode cX10_less 86 = .ok (.iconst 3, 1) := by decide +kernel
theorem dX10_less_87 : decode cX10_less 87 = .ok (.invokevirtual 175, 3) := by decide +kernel
theorem dX10_less_90 : decode cX10_less 90 = .ok (.lload 8, 2) := by decide +kernel
theorem dX10_less_92 : decode cX10_less 92 = .ok (.lsub, 1) := by decide +kernel
theorem dX10_less_93 : decode cX10_less 93 = .ok (.ladd, 1) := by decide +kernel
theorem dX10_less_94 : decode cX10_less 94 = .ok (.lstore 5, 2) := by decide +kernel
theorem dX10_less_96 : decode cX10_less 96 = .ok (.iinc 7 1, 3) := by decide +kernel
theorem dX10_less_99 : decode cX10_less 99 = .ok (.goto (-64), 3) := by decide +kernel
theorem dX10_less_102 : decode cX10_less 102 = .ok (.lload 5, 2) := by decide +kernel
theorem dX10_less_104 : decode cX10_less 104 = .ok (.lreturn, 1) := by decide +kernel
theorem dX10_bet_0 : decode cX10_bet 0 = .ok (.iload 5, 2) := by decide +kernel
theorem dX10_bet_2 : decode cX10_bet 2 = .ok (.invokestatic 312, 3) := by decide +kernel
theorem dX10_bet_5 : decode cX10_bet 5 = .ok (.ifCond .eq 35, 3) := by decide +kernel
theorem dX10_bet_8 : decode cX10_bet 8 = .ok (.aload_n 0, 1) := by decide +kernel
theorem dX10_bet_9 : decode cX10_bet 9 = .ok (.getfield 30, 3) := by decide +kernel
theorem dX10_bet_12 : decode cX10_bet 12 = .ok (.aload_n 0, 1) := by decide +kernel
theorem dX10_bet_13 : decode cX10_bet 13 = .ok (.getfield 10, 3) := by decide +kernel
theorem dX10_bet_16 : decode cX10_bet 16 = .ok (.iload_n 1, 1) := by decide +kernel
theorem dX10_bet_17 : decode cX10_bet 17 = .ok (.iload_n 2, 1) := by decide +kernel
theorem dX10_bet_18 : decode cX10_bet 18 = .ok (.iload_n 3, 1) := by decide +kernel
theorem dX10_bet_19 : decode cX10_bet 19 = .ok (.invokevirtual 145, 3) := by decide +kernel
theorem dX10_bet_22 : decode cX10_bet 22 = .ok (.ifCond .eq 18, 3) := by decide +kernel
theorem dX10_bet_25 : decode cX10_bet 25 = .ok (.aload_n 0, 1) := by decide +kernel
theorem dX10_bet_26 : decode cX10_bet 26 = .ok (.getfield 30, 3) := by decide +kernel
theorem dX10_bet_29 : decode cX10_bet 29 = .ok (.getfield 148, 3) := by decide +kernel
theorem dX10_bet_32 : decode cX10_bet 32 = .ok (.iload 4, 2) := by decide +kernel
theorem dX10_bet_34 : decode cX10_bet 34 = .ok (.invokevirtual 135, 3) := by decide +kernel
theorem dX10_bet_37 : decode cX10_bet 37 = .ok (.ifCond .ne 7, 3) := by decide +kernel
theorem dX10_bet_40 : decode cX10_bet 40 = .ok (.ldc2_w 355, 3) := by decide +kernel
theorem dX10_bet_43 : decode cX10_bet 43 = .ok (.lreturn, 1) := by decide +kernel
theorem dX10_bet_44 : decode cX10_bet 44 = .ok (.aload_n 0, 1) := by decide +kernel
theorem dX10_bet_45 : decode cX10_bet 45 = .ok (.getfield 30, 3) := by decide +kernel
theorem dX10_bet_48 : decode cX10_bet 48 = .ok (.iload 4, 2) := by decide +kernel
theorem dX10_bet_50 : decode cX10_bet 50 = .ok (.invokevirtual 152, 3) := by decide +kernel
theorem dX10_bet_53 : decode cX10_bet 53 = .ok (.aload_n 0, 1) := by decide +kernel
theorem dX10_bet_54 : decode cX10_bet 54 = .ok (.getfield 30, 3) := by decide +kernel
theorem dX10_bet_57 : decode cX10_bet 57 = .ok (.iconst 0, 1) := by decide +kernel
theorem dX10_bet_58 : decode cX10_bet 58 = .ok (.invokevirtual 175, 3) := by decide +kernel
theorem dX10_bet_61 : decode cX10_bet 61 = .ok (.iload 5, 2) := by decide +kernel
theorem dX10_bet_63 : decode cX10_bet 63 = .ok (.invokestatic 363, 3) := by decide +kernel
theorem dX10_bet_66 : decode cX10_bet 66 = .ok (.lreturn, 1) := by decide +kernel
theorem dX10_best_0 : decode cX10_best 0 = .ok (.iload 4, 2) := by decide +kernel
theorem dX10_best_2 : decode cX10_best 2 = .ok (.invokestatic 312, 3) := by decide +kernel
theorem dX10_best_5 : decode cX10_best 5 = .ok (.ifCond .eq 20, 3) := by decide +kernel
theorem dX10_best_8 : decode cX10_best 8 = .ok (.aload_n 0, 1) := by decide +kernel
theorem dX10_best_9 : decode cX10_best 9 = .ok (.getfield 30, 3) := by decide +kernel
theorem dX10_best_12 : decode cX10_best 12 = .ok (.aload_n 0, 1) := by decide +kernel
theorem dX10_best_13 : decode cX10_best 13 = .ok (.getfield 10, 3) := by decide +kernel
theorem dX10_best_16 : decode cX10_best 16 = .ok (.iload_n 1, 1) := by decide +kernel
theorem dX10_best_17 : decode cX10_best 17 = .ok (.iload_n 2, 1) := by decide +kernel
theorem dX10_best_18 : decode cX10_best 18 = .ok (.iload_n 3, 1) := by decide +kernel
theorem dX10_best_19 : decode cX10_best 19 = .ok (.invokevirtual 145, 3) := by decide +kernel
theorem dX10_best_22 : decode cX10_best 22 = .ok (.ifCond .ne 5, 3) := by decide +kernel
theorem dX10_best_25 : decode cX10_best 25 = .ok (.iconst (-1), 1) := by decide +kernel
theorem dX10_best_26 : decode cX10_best 26 = .ok (.ireturn, 1) := by decide +kernel
theorem dX10_best_27 : decode cX10_best 27 = .ok (.lconst 0, 1) := by decide +kernel
theorem dX10_best_28 : decode cX10_best 28 = .ok (.lstore 5, 2) := by decide +kernel
theorem dX10_best_30 : decode cX10_best 30 = .ok (.iconst (-1), 1) := by decide +kernel
theorem dX10_best_31 : decode cX10_best 31 = .ok (.istore 7, 2) := by decide +kernel
theorem dX10_best_33 : decode cX10_best 33 = .ok (.iconst 0, 1) := by decide +kernel
theorem dX10_best_34 : decode cX10_best 34 = .ok (.istore 8, 2) := by decide +kernel
theorem dX10_best_36 : decode cX10_best 36 = .ok (.iload 8, 2) := by decide +kernel
theorem dX10_best_38 : decode cX10_best 38 = .ok (.aload_n 0, 1) := by decide +kernel
theorem dX10_best_39 : decode cX10_best 39 = .ok (.getfield 30, 3) := by decide +kernel
theorem dX10_best_42 : decode cX10_best 42 = .ok (.getfield 148, 3) := by decide +kernel
theorem dX10_best_45 : decode cX10_best 45 = .ok (.getfield 132, 3) := by decide +kernel
theorem dX10_best_48 : decode cX10_best 48 = .ok (.if_icmp .ge 49, 3) := by decide +kernel
theorem dX10_best_51 : decode cX10_best 51 = .ok (.aload_n 0, 1) := by decide +kernel
theorem dX10_best_52 : decode cX10_best 52 = .ok (.getfield 30, 3) := by decide +kernel
theorem dX10_best_55 : decode cX10_best 55 = .ok (.iload 8, 2) := by decide +kernel
theorem dX10_best_57 : decode cX10_best 57 = .ok (.invokevirtual 152, 3) := by decide +kernel
theorem dX10_best_60 : decode cX10_best 60 = .ok (.aload_n 0, 1) := by decide +kernel
theorem dX10_best_61 : decode cX10_best 61 = .ok (.getfield 30, 3) := by decide +kernel
theorem dX10_best_64 : decode cX10_best 64 = .ok (.iconst 0, 1) := by decide +kernel
theorem dX10_best_65 : decode cX10_best 65 = .ok (.invokevirtual 175, 3) := by decide +kernel
theorem dX10_best_68 : decode cX10_best 68 = .ok (.iload 4, 2) := by decide +kernel
theorem dX10_best_70 : decode cX10_best 70 = .ok (.invokestatic 363, 3) := by decide +kernel
theorem dX10_best_73 : decode cX10_best 73 = .ok (.lstore 9, 2) := by decide +kernel
theorem dX10_best_75 : decode cX10_best 75 = .ok (.lload 9, 2) := by decide +kernel
theorem dX10_best_77 : decode cX10_best 77 = .ok (.lload 5, 2) := by decide +kernel
theorem dX10_best_79 : decode cX10_best 79 = .ok (.lcmp, 1) := by decide +kernel
theorem dX10_best_80 : decode cX10_best 80 = .ok (.ifCond .le 11, 3) := by decide +kernel
theorem dX10_best_83 : decode cX10_best 83 = .ok (.lload 9, 2) := by decide +kernel
theorem dX10_best_85 : decode cX10_best 85 = .ok (.lstore 5, 2) := by decide +kernel
theorem dX10_best_87 : decode cX10_best 87 = .ok (.iload 8, 2) := by decide +kernel
theorem dX10_best_89 : decode cX10_best 89 = .ok (.istore 7, 2) := by decide +kernel
theorem dX10_best_91 : decode cX10_best 91 = .ok (.iinc 8 1, 3) := by decide +kernel
theorem dX10_best_94 : decode cX10_best 94 = .ok (.goto (-58), 3) := by decide +kernel
theorem dX10_best_97 : decode cX10_best 97 = .ok (.iload 7, 2) := by decide +kernel
theorem dX10_best_99 : decode cX10_best 99 = .ok (.ireturn, 1) := by decide +kernel
theorem dX10_fair_0 : decode cX10_fair 0 = .ok (.aload_n 0, 1) := by decide +kernel
theorem dX10_fair_1 : decode cX10_fair 1 = .ok (.getfield 30, 3) := by decide +kernel
theorem dX10_fair_4 : decode cX10_fair 4 = .ok (.aload_n 0, 1) := by decide +kernel
theorem dX10_fair_5 : decode cX10_fair 5 = .ok (.getfield 10, 3) := by decide +kernel
theorem dX10_fair_8 : decode cX10_fair 8 = .ok (.iload_n 1, 1) := by decide +kernel
theorem dX10_fair_9 : decode cX10_fair 9 = .ok (.iload_n 2, 1) := by decide +kernel
theorem dX10_fair_10 : decode cX10_fair 10 = .ok (.iload_n 3, 1) := by decide +kernel
theorem dX10_fair_11 : decode cX10_fair 11 = .ok (.invokevirtual 145, 3) := by decide +kernel
theorem dX10_fair_14 : decode cX10_fair 14 = .ok (.ifCond .eq 18, 3) := by decide +kernel
theorem dX10_fair_17 : decode cX10_fair 17 = .ok (.aload_n 0, 1) := by decide +kernel
theorem dX10_fair_18 : decode cX10_fair 18 = .ok (.getfield 30, 3) := by decide +kernel
theorem dX10_fair_21 : decode cX10_fair 21 = .ok (.getfield 148, 3) := by decide +kernel
theorem dX10_fair_24 : decode cX10_fair 24 = .ok (.iload 4, 2) := by decide +kernel
theorem dX10_fair_26 : decode cX10_fair 26 = .ok (.invokevirtual 135, 3) := by decide +kernel
theorem dX10_fair_29 : decode cX10_fair 29 = .ok (.ifCond .ne 5, 3) := by decide +kernel
theorem dX10_fair_32 : decode cX10_fair 32 = .ok (.iconst (-1), 1) := by decide +kernel
theorem dX10_fair_33 : decode cX10_fair 33 = .ok (.ireturn, 1) := by decide +kernel
theorem dX10_fair_34 : decode cX10_fair 34 = .ok (.aload_n 0, 1) := by decide +kernel
theorem dX10_fair_35 : decode cX10_fair 35 = .ok (.getfield 30, 3) := by decide +kernel
theorem dX10_fair_38 : decode cX10_fair 38 = .ok (.iload 4, 2) := by decide +kernel
theorem dX10_fair_40 : decode cX10_fair 40 = .ok (.invokevirtual 152, 3) := by decide +kernel
theorem dX10_fair_43 : decode cX10_fair 43 = .ok (.aload_n 0, 1) := by decide +kernel
theorem dX10_fair_44 : decode cX10_fair 44 = .ok (.getfield 30, 3) := by decide +kernel
theorem dX10_fair_47 : decode cX10_fair 47 = .ok (.iconst 0, 1) := by decide +kernel
theorem dX10_fair_48 : decode cX10_fair 48 = .ok (.invokevirtual 175, 3) := by decide +kernel
theorem dX10_fair_51 : decode cX10_fair 51 = .ok (.lstore 5, 2) := by decide +kernel
theorem dX10_fair_53 : decode cX10_fair 53 = .ok (.bipush 101, 2) := by decide +kernel
theorem dX10_fair_55 : decode cX10_fair 55 = .ok (.istore 7, 2) := by decide +kernel
theorem dX10_fair_57 : decode cX10_fair 57 = .ok (.iload 7, 2) := by decide +kernel
theorem dX10_fair_59 : decode cX10_fair 59 = .ok (.sipush 999, 3) := by decide +kernel
theorem dX10_fair_62 : decode cX10_fair 62 = .ok (.if_icmp .gt 24, 3) := by decide +kernel
theorem dX10_fair_65 : decode cX10_fair 65 = .ok (.lload 5, 2) := by decide +kernel
theorem dX10_fair_67 : decode cX10_fair 67 = .ok (.iload 7, 2) := by decide +kernel
theorem dX10_fair_69 : decode cX10_fair 69 = .ok (.invokestatic 363, 3) := by decide +kernel
theorem dX10_fair_72 : decode cX10_fair 72 = .ok (.lconst 0, 1) := by decide +kernel
theorem dX10_fair_73 : decode cX10_fair 73 = .ok (.lcmp, 1) := by decide +kernel
theorem dX10_fair_74 : decode cX10_fair 74 = .ok (.ifCond .lt 6, 3) := by decide +kernel
theorem dX10_fair_77 : decode cX10_fair 77 = .ok (.iload 7, 2) := by decide +kernel
theorem dX10_fair_79 : decode cX10_fair 79 = .ok (.ireturn, 1) := by decide +kernel
theorem dX10_fair_80 : decode cX10_fair 80 = .ok (.iinc 7 1, 3) := by decide +kernel
theorem dX10_fair_83 : decode cX10_fair 83 = .ok (.goto (-26), 3) := by decide +kernel
theorem dX10_fair_86 : decode cX10_fair 86 = .ok (.iconst (-1), 1) := by decide +kernel
theorem dX10_fair_87 : decode cX10_fair 87 = .ok (.ireturn, 1) := by decide +kernel
theorem dX10_gain_0 : decode cX10_gain 0 = .ok (.lload_n 0, 1) := by decide +kernel
theorem dX10_gain_1 : decode cX10_gain 1 = .ok (.iload_n 2, 1) := by decide +kernel
theorem dX10_gain_2 : decode cX10_gain 2 = .ok (.i2l, 1) := by decide +kernel
theorem dX10_gain_3 : decode cX10_gain 3 = .ok (.lmul, 1) := by decide +kernel
theorem dX10_gain_4 : decode cX10_gain 4 = .ok (.ldc2_w 367, 3) := by decide +kernel
theorem dX10_gain_7 : decode cX10_gain 7 = .ok (.lsub, 1) := by decide +kernel
theorem dX10_gain_8 : decode cX10_gain 8 = .ok (.lreturn, 1) := by decide +kernel
theorem dX10_count_0 : decode cX10_count 0 = .ok (.iload_n 1, 1) := by decide +kernel
theorem dX10_count_1 : decode cX10_count 1 = .ok (.ifCond .lt 8, 3) := by decide +kernel
theorem dX10_count_4 : decode cX10_count 4 = .ok (.iload_n 1, 1) := by decide +kernel
theorem dX10_count_5 : decode cX10_count 5 = .ok (.iconst 3, 1) := by decide +kernel
theorem dX10_count_6 : decode cX10_count 6 = .ok (.if_icmp .le 8, 3) := by decide +kernel
theorem dX10_count_9 : decode cX10_count 9 = .ok (.bipush (-2), 2) := by decide +kernel
theorem dX10_count_11 : decode cX10_count 11 = .ok (.goto 11, 3) := by decide +kernel
theorem dX10_count_14 : decode cX10_count 14 = .ok (.aload_n 0, 1) := by decide +kernel
theorem dX10_count_15 : decode cX10_count 15 = .ok (.getfield 10, 3) := by decide +kernel
theorem dX10_count_18 : decode cX10_count 18 = .ok (.iload_n 1, 1) := by decide +kernel
theorem dX10_count_19 : decode cX10_count 19 = .ok (.invokevirtual 182, 3) := by decide +kernel
theorem dX10_count_22 : decode cX10_count 22 = .ok (.ireturn, 1) := by decide +kernel
theorem dX10_image_0 : decode cX10_image 0 = .ok (.iload_n 1, 1) := by decide +kernel
theorem dX10_image_1 : decode cX10_image 1 = .ok (.ifCond .lt 12, 3) := by decide +kernel
theorem dX10_image_4 : decode cX10_image 4 = .ok (.iload_n 1, 1) := by decide +kernel
theorem dX10_image_5 : decode cX10_image 5 = .ok (.aload_n 0, 1) := by decide +kernel
theorem dX10_image_6 : decode cX10_image 6 = .ok (.getfield 16, 3) := by decide +kernel
theorem dX10_image_9 : decode cX10_image 9 = .ok (.arraylength, 1) := by decide +kernel
theorem dX10_image_10 : decode cX10_image 10 = .ok (.if_icmp .lt 5, 3) := by decide +kernel
theorem dX10_image_13 : decode cX10_image 13 = .ok (.iconst 0, 1) := by decide +kernel
theorem dX10_image_14 : decode cX10_image 14 = .ok (.ireturn, 1) := by decide +kernel
theorem dX10_image_15 : decode cX10_image 15 = .ok (.aload_n 0, 1) := by decide +kernel
theorem dX10_image_16 : decode cX10_image 16 = .ok (.getfield 16, 3) := by decide +kernel
theorem dX10_image_19 : decode cX10_image 19 = .ok (.iload_n 1, 1) := by decide +kernel
theorem dX10_image_20 : decode cX10_image 20 = .ok (.aaload, 1) := by decide +kernel
theorem dX10_image_21 : decode cX10_image 21 = .ok (.astore_n 2, 1) := by decide +kernel
theorem dX10_image_22 : decode cX10_image 22 = .ok (.aload_n 2, 1) := by decide +kernel
theorem dX10_image_23 : decode cX10_image 23 = .ok (.ifnonnull 18, 3) := by decide +kernel
theorem dX10_image_26 : decode cX10_image 26 = .ok (.new 7, 3) := by decide +kernel
theorem dX10_image_29 : decode cX10_image 29 = .ok (.dup, 1) := by decide +kernel
theorem dX10_image_30 : decode cX10_image 30 = .ok (.invokespecial 9, 3) := by decide +kernel
theorem dX10_image_33 : decode cX10_image 33 = .ok (.astore_n 2, 1) := by decide +kernel
theorem dX10_image_34 : decode cX10_image 34 = .ok (.aload_n 0, 1) := by decide +kernel
theorem dX10_image_35 : decode cX10_image 35 = .ok (.getfield 16, 3) := by decide +kernel
theorem dX10_image_38 : decode cX10_image 38 = .ok (.iload_n 1, 1) := by decide +kernel
theorem dX10_image_39 : decode cX10_image 39 = .ok (.aload_n 2, 1) := by decide +kernel
theorem dX10_image_40 : decode cX10_image 40 = .ok (.aastore, 1) := by decide +kernel
theorem dX10_image_41 : decode cX10_image 41 = .ok (.aload_n 2, 1) := by decide +kernel
theorem dX10_image_42 : decode cX10_image 42 = .ok (.aload_n 0, 1) := by decide +kernel
theorem dX10_image_43 : decode cX10_image 43 = .ok (.getfield 10, 3) := by decide +kernel
theorem dX10_image_46 : decode cX10_image 46 = .ok (.invokevirtual 369, 3) := by decide +kernel
theorem dX10_image_49 : decode cX10_image 49 = .ok (.iconst 1, 1) := by decide +kernel
theorem dX10_image_50 : decode cX10_image 50 = .ok (.ireturn, 1) := by decide +kernel
theorem dX10_again_0 : decode cX10_again 0 = .ok (.iload_n 1, 1) := by decide +kernel
theorem dX10_again_1 : decode cX10_again 1 = .ok (.ifCond .lt 12, 3) := by decide +kernel
theorem dX10_again_4 : decode cX10_again 4 = .ok (.iload_n 1, 1) := by decide +kernel
theorem dX10_again_5 : decode cX10_again 5 = .ok (.aload_n 0, 1) := by decide +kernel
theorem dX10_again_6 : decode cX10_again 6 = .ok (.getfield 16, 3) := by decide +kernel
theorem dX10_again_9 : decode cX10_again 9 = .ok (.arraylength, 1) := by decide +kernel
theorem dX10_again_10 : decode cX10_again 10 = .ok (.if_icmp .lt 5, 3) := by decide +kernel
theorem dX10_again_13 : decode cX10_again 13 = .ok (.iconst 0, 1) := by decide +kernel
theorem dX10_again_14 : decode cX10_again 14 = .ok (.ireturn, 1) := by decide +kernel
theorem dX10_again_15 : decode cX10_again 15 = .ok (.aload_n 0, 1) := by decide +kernel
theorem dX10_again_16 : decode cX10_again 16 = .ok (.getfield 16, 3) := by decide +kernel
theorem dX10_again_19 : decode cX10_again 19 = .ok (.iload_n 1, 1) := by decide +kernel
theorem dX10_again_20 : decode cX10_again 20 = .ok (.aaload, 1) := by decide +kernel
theorem dX10_again_21 : decode cX10_again 21 = .ok (.astore_n 2, 1) := by decide +kernel
theorem dX10_again_22 : decode cX10_again 22 = .ok (.aload_n 2, 1) := by decide +kernel
theorem dX10_again_23 : decode cX10_again 23 = .ok (.ifnonnull 5, 3) := by decide +kernel
theorem dX10_again_26 : decode cX10_again 26 = .ok (.iconst 0, 1) := by decide +kernel
theorem dX10_again_27 : decode cX10_again 27 = .ok (.ireturn, 1) := by decide +kernel
theorem dX10_again_28 : decode cX10_again 28 = .ok (.aload_n 0, 1) := by decide +kernel
theorem dX10_again_29 : decode cX10_again 29 = .ok (.getfield 10, 3) := by decide +kernel
theorem dX10_again_32 : decode cX10_again 32 = .ok (.aload_n 2, 1) := by decide +kernel
theorem dX10_again_33 : decode cX10_again 33 = .ok (.invokevirtual 369, 3) := by decide +kernel
theorem dX10_again_36 : decode cX10_again 36 = .ok (.iconst 1, 1) := by decide +kernel
theorem dX10_again_37 : decode cX10_again 37 = .ok (.ireturn, 1) := by decide +kernel
theorem dX10_pick_0 : decode cX10_pick 0 = .ok (.iconst 0, 1) := by decide +kernel
theorem dX10_pick_1 : decode cX10_pick 1 = .ok (.istore_n 3, 1) := by decide +kernel
theorem dX10_pick_2 : decode cX10_pick 2 = .ok (.iconst 0, 1) := by decide +kernel
theorem dX10_pick_3 : decode cX10_pick 3 = .ok (.istore 4, 2) := by decide +kernel
theorem dX10_pick_5 : decode cX10_pick 5 = .ok (.iload 4, 2) := by decide +kernel
theorem dX10_pick_7 : decode cX10_pick 7 = .ok (.aload_n 0, 1) := by decide +kernel
theorem dX10_pick_8 : decode cX10_pick 8 = .ok (.getfield 10, 3) := by decide +kernel
theorem dX10_pick_11 : decode cX10_pick 11 = .ok (.iconst 3, 1) := by decide +kernel
theorem dX10_pick_12 : decode cX10_pick 12 = .ok (.invokevirtual 182, 3) := by decide +kernel
theorem dX10_pick_15 : decode cX10_pick 15 = .ok (.if_icmp .ge 107, 3) := by decide +kernel
theorem dX10_pick_18 : decode cX10_pick 18 = .ok (.iload_n 3, 1) := by decide +kernel
theorem dX10_pick_19 : decode cX10_pick 19 = .ok (.aload_n 0, 1) := by decide +kernel
theorem dX10_pick_20 : decode cX10_pick 20 = .ok (.getfield 48, 3) := by decide +kernel
theorem dX10_pick_23 : decode cX10_pick 23 = .ok (.arraylength, 1) := by decide +kernel
theorem dX10_pick_24 : decode cX10_pick 24 = .ok (.if_icmp .ge 98, 3) := by decide +kernel
theorem dX10_pick_27 : decode cX10_pick 27 = .ok (.aload_n 0, 1) := by decide +kernel
theorem dX10_pick_28 : decode cX10_pick 28 = .ok (.getfield 10, 3) := by decide +kernel
theorem dX10_pick_31 : decode cX10_pick 31 = .ok (.iload 4, 2) := by decide +kernel
theorem dX10_pick_33 : decode cX10_pick 33 = .ok (.iconst 2, 1) := by decide +kernel
theorem dX10_pick_34 : decode cX10_pick 34 = .ok (.invokevirtual 216, 3) := by decide +kernel
theorem dX10_pick_37 : decode cX10_pick 37 = .ok (.istore 5, 2) := by decide +kernel
theorem dX10_pick_39 : decode cX10_pick 39 = .ok (.iload 5, 2) := by decide +kernel
theorem dX10_pick_41 : decode cX10_pick 41 = .ok (.iload_n 1, 1) := by decide +kernel
theorem dX10_pick_42 : decode cX10_pick 42 = .ok (.iload_n 2, 1) := by decide +kernel
theorem dX10_pick_43 : decode cX10_pick 43 = .ok (.invokestatic 209, 3) := by decide +kernel
theorem dX10_pick_46 : decode cX10_pick 46 = .ok (.ifCond .ne 6, 3) := by decide +kernel
theorem dX10_pick_49 : decode cX10_pick 49 = .ok (.goto 67, 3) := by decide +kernel
theorem dX10_pick_52 : decode cX10_pick 52 = .ok (.iload_n 3, 1) := by decide +kernel
theorem dX10_pick_53 : decode cX10_pick 53 = .ok (.istore 6, 2) := by decide +kernel
theorem dX10_pick_55 : decode cX10_pick 55 = .ok (.iload 6, 2) := by decide +kernel
theorem dX10_pick_57 : decode cX10_pick 57 = .ok (.ifCond .le 47, 3) := by decide +kernel
theorem dX10_pick_60 : decode cX10_pick 60 = .ok (.aload_n 0, 1) := by decide +kernel
theorem dX10_pick_61 : decode cX10_pick 61 = .ok (.getfield 10, 3) := by decide +kernel
theorem dX10_pick_64 : decode cX10_pick 64 = .ok (.aload_n 0, 1) := by decide +kernel
theorem dX10_pick_65 : decode cX10_pick 65 = .ok (.getfield 48, 3) := by decide +kernel
theorem dX10_pick_68 : decode cX10_pick 68 = .ok (.iload 6, 2) := by decide +kernel
theorem dX10_pick_70 : decode cX10_pick 70 = .ok (.iconst 1, 1) := by decide +kernel
theorem dX10_pick_71 : decode cX10_pick 71 = .ok (.isub, 1) := by decide +kernel
theorem dX10_pick_72 : decode cX10_pick 72 = .ok (.iaload, 1) := by decide +kernel
theorem dX10_pick_73 : decode cX10_pick 73 = .ok (.iconst 2, 1) := by decide +kernel
theorem dX10_pick_74 : decode cX10_pick 74 = .ok (.invokevirtual 216, 3) := by decide +kernel
theorem dX10_pick_77 : decode cX10_pick 77 = .ok (.iload 5, 2) := by decide +kernel
theorem dX10_pick_79 : decode cX10_pick 79 = .ok (.if_icmp .le 25, 3) := by decide +kernel
theorem dX10_pick_82 : decode cX10_pick 82 = .ok (.aload_n 0, 1) := by decide +kernel
theorem dX10_pick_83 : decode cX10_pick 83 = .ok (.getfield 48, 3) := by decide +kernel
theorem dX10_pick_86 : decode cX10_pick 86 = .ok (.iload 6, 2) := by decide +kernel
theorem dX10_pick_88 : decode cX10_pick 88 = .ok (.aload_n 0, 1) := by decide +kernel
theorem dX10_pick_89 : decode cX10_pick 89 = .ok (.getfield 48, 3) := by decide +kernel
theorem dX10_pick_92 : decode cX10_pick 92 = .ok (.iload 6, 2) := by decide +kernel
theorem dX10_pick_94 : decode cX10_pick 94 = .ok (.iconst 1, 1) := by decide +kernel
theorem dX10_pick_95 : decode cX10_pick 95 = .ok (.isub, 1) := by decide +kernel
theorem dX10_pick_96 : decode cX10_pick 96 = .ok (.iaload, 1) := by decide +kernel
theorem dX10_pick_97 : decode cX10_pick 97 = .ok (.iastore, 1) := by decide +kernel
theorem dX10_pick_98 : decode cX10_pick 98 = .ok (.iinc 6 (-1), 3) := by decide +kernel
theorem dX10_pick_101 : decode cX10_pick 101 = .ok (.goto (-46), 3) := by decide +kernel
theorem dX10_pick_104 : decode cX10_pick 104 = .ok (.aload_n 0, 1) := by decide +kernel
theorem dX10_pick_105 : decode cX10_pick 105 = .ok (.getfield 48, 3) := by decide +kernel
theorem dX10_pick_108 : decode cX10_pick 108 = .ok (.iload 6, 2) := by decide +kernel
theorem dX10_pick_110 : decode cX10_pick 110 = .ok (.iload 4, 2) := by decide +kernel
theorem dX10_pick_112 : decode cX10_pick 112 = .ok (.iastore, 1) := by decide +kernel
theorem dX10_pick_113 : decode cX10_pick 113 = .ok (.iinc 3 1, 3) := by decide +kernel
theorem dX10_pick_116 : decode cX10_pick 116 = .ok (.iinc 4 1, 3) := by decide +kernel
theorem dX10_pick_119 : decode cX10_pick 119 = .ok (.goto (-114), 3) := by decide +kernel
theorem dX10_pick_122 : decode cX10_pick 122 = .ok (.iload_n 3, 1) := by decide +kernel
theorem dX10_pick_123 : decode cX10_pick 123 = .ok (.ireturn, 1) := by decide +kernel
theorem dX10_pickedOf_0 : decode cX10_pickedOf 0 = .ok (.aload_n 0, 1) := by decide +kernel
theorem dX10_pickedOf_1 : decode cX10_pickedOf 1 = .ok (.getfield 10, 3) := by decide +kernel
theorem dX10_pickedOf_4 : decode cX10_pickedOf 4 = .ok (.aload_n 0, 1) := by decide +kernel
theorem dX10_pickedOf_5 : decode cX10_pickedOf 5 = .ok (.getfield 48, 3) := by decide +kernel
theorem dX10_pickedOf_8 : decode cX10_pickedOf 8 = .ok (.iload_n 1, 1) := by decide +kernel
theorem dX10_pickedOf_9 : decode cX10_pickedOf 9 = .ok (.invokestatic 348, 3) := by decide +kernel
theorem dX10_pickedOf_12 : decode cX10_pickedOf 12 = .ok (.iload_n 2, 1) := by decide +kernel
theorem dX10_pickedOf_13 : decode cX10_pickedOf 13 = .ok (.invokevirtual 216, 3) := by decide +kernel
theorem dX10_pickedOf_16 : decode cX10_pickedOf 16 = .ok (.ireturn, 1) := by decide +kernel
theorem dX10_margin_0 : decode cX10_margin 0 = .ok (.aload_n 0, 1) := by decide +kernel
theorem dX10_margin_1 : decode cX10_margin 1 = .ok (.iload_n 1, 1) := by decide +kernel
theorem dX10_margin_2 : decode cX10_margin 2 = .ok (.iconst 3, 1) := by decide +kernel
theorem dX10_margin_3 : decode cX10_margin 3 = .ok (.invokevirtual 228, 3) := by decide +kernel
theorem dX10_margin_6 : decode cX10_margin 6 = .ok (.aload_n 0, 1) := by decide +kernel
theorem dX10_margin_7 : decode cX10_margin 7 = .ok (.iload_n 1, 1) := by decide +kernel
theorem dX10_margin_8 : decode cX10_margin 8 = .ok (.iconst 4, 1) := by decide +kernel
theorem dX10_margin_9 : decode cX10_margin 9 = .ok (.invokevirtual 228, 3) := by decide +kernel
theorem dX10_margin_12 : decode cX10_margin 12 = .ok (.isub, 1) := by decide +kernel
theorem dX10_margin_13 : decode cX10_margin 13 = .ok (.ireturn, 1) := by decide +kernel
theorem dX10_within_0 : decode cX10_within 0 = .ok (.iload_n 0, 1) := by decide +kernel
theorem dX10_within_1 : decode cX10_within 1 = .ok (.iload_n 1, 1) := by decide +kernel
theorem dX10_within_2 : decode cX10_within 2 = .ok (.if_icmp .lt 12, 3) := by decide +kernel
theorem dX10_within_5 : decode cX10_within 5 = .ok (.iload_n 0, 1) := by decide +kernel
theorem dX10_within_6 : decode cX10_within 6 = .ok (.iload_n 2, 1) := by decide +kernel
theorem dX10_within_7 : decode cX10_within 7 = .ok (.if_icmp .gt 7, 3) := by decide +kernel
theorem dX10_within_10 : decode cX10_within 10 = .ok (.iconst 1, 1) := by decide +kernel
theorem dX10_within_11 : decode cX10_within 11 = .ok (.goto 4, 3) := by decide +kernel
theorem dX10_within_14 : decode cX10_within 14 = .ok (.iconst 0, 1) := by decide +kernel
theorem dX10_within_15 : decode cX10_within 15 = .ok (.ireturn, 1) := by decide +kernel
theorem dX10_isSide_0 : decode cX10_isSide 0 = .ok (.iload_n 0, 1) := by decide +kernel
theorem dX10_isSide_1 : decode cX10_isSide 1 = .ok (.iconst 0, 1) := by decide +kernel
theorem dX10_isSide_2 : decode cX10_isSide 2 = .ok (.bipush 7, 2) := by decide +kernel
theorem dX10_isSide_4 : decode cX10_isSide 4 = .ok (.invokestatic 209, 3) := by decide +kernel
theorem dX10_isSide_7 : decode cX10_isSide 7 = .ok (.ireturn, 1) := by decide +kernel
theorem dX10_isJudge_0 : decode cX10_isJudge 0 = .ok (.iload_n 0, 1) := by decide +kernel
theorem dX10_isJudge_1 : decode cX10_isJudge 1 = .ok (.iconst 0, 1) := by decide +kernel
theorem dX10_isJudge_2 : decode cX10_isJudge 2 = .ok (.bipush 7, 2) := by decide +kernel
theorem dX10_isJudge_4 : decode cX10_isJudge 4 = .ok (.invokestatic 209, 3) := by decide +kernel
theorem dX10_isJudge_7 : decode cX10_isJudge 7 = .ok (.ireturn, 1) := by decide +kernel
theorem dX10_isYear_0 : decode cX10_isYear 0 = .ok (.iload_n 0, 1) := by decide +kernel
theorem dX10_isYear_1 : decode cX10_isYear 1 = .ok (.iconst 0, 1) := by decide +kernel
theorem dX10_isYear_2 : decode cX10_isYear 2 = .ok (.bipush 59, 2) := by decide +kernel
theorem dX10_isYear_4 : decode cX10_isYear 4 = .ok (.invokestatic 209, 3) := by decide +kernel
theorem dX10_isYear_7 : decode cX10_isYear 7 = .ok (.ireturn, 1) := by decide +kernel
theorem dX10_isPart_0 : decode cX10_isPart 0 = .ok (.iload_n 0, 1) := by decide +kernel
theorem dX10_isPart_1 : decode cX10_isPart 1 = .ok (.iconst 0, 1) := by decide +kernel
theorem dX10_isPart_2 : decode cX10_isPart 2 = .ok (.iconst 5, 1) := by decide +kernel
theorem dX10_isPart_3 : decode cX10_isPart 3 = .ok (.invokestatic 209, 3) := by decide +kernel
theorem dX10_isPart_6 : decode cX10_isPart 6 = .ok (.ireturn, 1) := by decide +kernel
theorem dX10_isPrice_0 : decode cX10_isPrice 0 = .ok (.iload_n 0, 1) := by decide +kernel
theorem dX10_isPrice_1 : decode cX10_isPrice 1 = .ok (.bipush 101, 2) := by decide +kernel
theorem dX10_isPrice_3 : decode cX10_isPrice 3 = .ok (.sipush 999, 3) := by decide +kernel
theorem dX10_isPrice_6 : decode cX10_isPrice 6 = .ok (.invokestatic 209, 3) := by decide +kernel
theorem dX10_isPrice_9 : decode cX10_isPrice 9 = .ok (.ireturn, 1) := by decide +kernel
theorem dX10_valueAt_0 : decode cX10_valueAt 0 = .ok (.iload_n 1, 1) := by decide +kernel
theorem dX10_valueAt_1 : decode cX10_valueAt 1 = .ok (.ifCond .lt 15, 3) := by decide +kernel
theorem dX10_valueAt_4 : decode cX10_valueAt 4 = .ok (.iload_n 1, 1) := by decide +kernel
theorem dX10_valueAt_5 : decode cX10_valueAt 5 = .ok (.aload_n 0, 1) := by decide +kernel
theorem dX10_valueAt_6 : decode cX10_valueAt 6 = .ok (.arraylength, 1) := by decide +kernel
theorem dX10_valueAt_7 : decode cX10_valueAt 7 = .ok (.if_icmp .ge 9, 3) := by decide +kernel
theorem dX10_valueAt_10 : decode cX10_valueAt 10 = .ok (.aload_n 0, 1) := by decide +kernel
theorem dX10_valueAt_11 : decode cX10_valueAt 11 = .ok (.iload_n 1, 1) := by decide +kernel
theorem dX10_valueAt_12 : decode cX10_valueAt 12 = .ok (.iaload, 1) := by decide +kernel
theorem dX10_valueAt_13 : decode cX10_valueAt 13 = .ok (.goto 4, 3) := by decide +kernel
theorem dX10_valueAt_16 : decode cX10_valueAt 16 = .ok (.iconst 0, 1) := by decide +kernel
theorem dX10_valueAt_17 : decode cX10_valueAt 17 = .ok (.ireturn, 1) := by decide +kernel
theorem dX10_setAt_0 : decode cX10_setAt 0 = .ok (.iload_n 1, 1) := by decide +kernel
theorem dX10_setAt_1 : decode cX10_setAt 1 = .ok (.ifCond .lt 13, 3) := by decide +kernel
theorem dX10_setAt_4 : decode cX10_setAt 4 = .ok (.iload_n 1, 1) := by decide +kernel
theorem dX10_setAt_5 : decode cX10_setAt 5 = .ok (.aload_n 0, 1) := by decide +kernel
theorem dX10_setAt_6 : decode cX10_setAt 6 = .ok (.arraylength, 1) := by decide +kernel
theorem dX10_setAt_7 : decode cX10_setAt 7 = .ok (.if_icmp .ge 7, 3) := by decide +kernel
theorem dX10_setAt_10 : decode cX10_setAt 10 = .ok (.aload_n 0, 1) := by decide +kernel
theorem dX10_setAt_11 : decode cX10_setAt 11 = .ok (.iload_n 1, 1) := by decide +kernel
theorem dX10_setAt_12 : decode cX10_setAt 12 = .ok (.iload_n 2, 1) := by decide +kernel
theorem dX10_setAt_13 : decode cX10_setAt 13 = .ok (.iastore, 1) := by decide +kernel
theorem dX10_setAt_14 : decode cX10_setAt 14 = .ok (.return_, 1) := by decide +kernel
theorem dX10_cut_0 : decode cX10_cut 0 = .ok (.iload_n 1, 1) := by decide +kernel
theorem dX10_cut_1 : decode cX10_cut 1 = .ok (.ifCond .le 9, 3) := by decide +kernel
theorem dX10_cut_4 : decode cX10_cut 4 = .ok (.iload_n 0, 1) := by decide +kernel
theorem dX10_cut_5 : decode cX10_cut 5 = .ok (.iload_n 1, 1) := by decide +kernel
theorem dX10_cut_6 : decode cX10_cut 6 = .ok (.idiv, 1) := by decide +kernel
theorem dX10_cut_7 : decode cX10_cut 7 = .ok (.goto 4, 3) := by decide +kernel
theorem dX10_cut_10 : decode cX10_cut 10 = .ok (.iconst 0, 1) := by decide +kernel
theorem dX10_cut_11 : decode cX10_cut 11 = .ok (.ireturn, 1) := by decide +kernel
theorem dX10_pointsBy_0 : decode cX10_pointsBy 0 = .ok (.iload_n 0, 1) := by decide +kernel
theorem dX10_pointsBy_1 : decode cX10_pointsBy 1 = .ok (.ifCond .le 5, 3) := by decide +kernel
theorem dX10_pointsBy_4 : decode cX10_pointsBy 4 = .ok (.iconst 3, 1) := by decide +kernel
theorem dX10_pointsBy_5 : decode cX10_pointsBy 5 = .ok (.ireturn, 1) := by decide +kernel
theorem dX10_pointsBy_6 : decode cX10_pointsBy 6 = .ok (.iload_n 0, 1) := by decide +kernel
theorem dX10_pointsBy_7 : decode cX10_pointsBy 7 = .ok (.ifCond .ne 7, 3) := by decide +kernel
theorem dX10_pointsBy_10 : decode cX10_pointsBy 10 = .ok (.iconst 1, 1) := by decide +kernel
theorem dX10_pointsBy_11 : decode cX10_pointsBy 11 = .ok (.goto 4, 3) := by decide +kernel
theorem dX10_pointsBy_14 : decode cX10_pointsBy 14 = .ok (.iconst 0, 1) := by decide +kernel
theorem dX10_pointsBy_15 : decode cX10_pointsBy 15 = .ok (.ireturn, 1) := by decide +kernel
theorem dX10_share_0 : decode cX10_share 0 = .ok (.lload_n 0, 1) := by decide +kernel
theorem dX10_share_1 : decode cX10_share 1 = .ok (.lload_n 2, 1) := by decide +kernel
theorem dX10_share_2 : decode cX10_share 2 = .ok (.invokestatic 373, 3) := by decide +kernel
theorem dX10_share_5 : decode cX10_share 5 = .ok (.lstore 5, 2) := by decide +kernel
theorem dX10_share_7 : decode cX10_share 7 = .ok (.lload 5, 2) := by decide +kernel
theorem dX10_share_9 : decode cX10_share 9 = .ok (.lconst 0, 1) := by decide +kernel
theorem dX10_share_10 : decode cX10_share 10 = .ok (.lcmp, 1) := by decide +kernel
theorem dX10_share_11 : decode cX10_share 11 = .ok (.ifCond .ne 5, 3) := by decide +kernel
theorem dX10_share_14 : decode cX10_share 14 = .ok (.lconst 0, 1) := by decide +kernel
theorem dX10_share_15 : decode cX10_share 15 = .ok (.lreturn, 1) := by decide +kernel
theorem dX10_share_16 : decode cX10_share 16 = .ok (.lload_n 2, 1) := by decide +kernel
theorem dX10_share_17 : decode cX10_share 17 = .ok (.lconst 0, 1) := by decide +kernel
theorem dX10_share_18 : decode cX10_share 18 = .ok (.lcmp, 1) := by decide +kernel
theorem dX10_share_19 : decode cX10_share 19 = .ok (.ifCond .ge 9, 3) := by decide +kernel
theorem dX10_share_22 : decode cX10_share 22 = .ok (.lload 5, 2) := by decide +kernel
theorem dX10_share_24 : decode cX10_share 24 = .ok (.lneg, 1) := by decide +kernel
theorem dX10_share_25 : decode cX10_share 25 = .ok (.goto 5, 3) := by decide +kernel
theorem dX10_share_28 : decode cX10_share 28 = .ok (.lload 5, 2) := by decide +kernel
theorem dX10_share_30 : decode cX10_share 30 = .ok (.lstore 7, 2) := by decide +kernel
theorem dX10_share_32 : decode cX10_share 32 = .ok (.iload 4, 2) := by decide +kernel
theorem dX10_share_34 : decode cX10_share 34 = .ok (.ifCond .eq 10, 3) := by decide +kernel
theorem dX10_share_37 : decode cX10_share 37 = .ok (.lload_n 2, 1) := by decide +kernel
theorem dX10_share_38 : decode cX10_share 38 = .ok (.lload 7, 2) := by decide +kernel
theorem dX10_share_40 : decode cX10_share 40 = .ok (.ldiv, 1) := by decide +kernel
theorem dX10_share_41 : decode cX10_share 41 = .ok (.goto 7, 3) := by decide +kernel
theorem dX10_share_44 : decode cX10_share 44 = .ok (.lload_n 0, 1) := by decide +kernel
theorem dX10_share_45 : decode cX10_share 45 = .ok (.lload 7, 2) := by decide +kernel
theorem dX10_share_47 : decode cX10_share 47 = .ok (.ldiv, 1) := by decide +kernel
theorem dX10_share_48 : decode cX10_share 48 = .ok (.lreturn, 1) := by decide +kernel
theorem dX10_common_0 : decode cX10_common 0 = .ok (.lload_n 0, 1) := by decide +kernel
theorem dX10_common_1 : decode cX10_common 1 = .ok (.invokestatic 377, 3) := by decide +kernel
theorem dX10_common_4 : decode cX10_common 4 = .ok (.lstore 4, 2) := by decide +kernel
theorem dX10_common_6 : decode cX10_common 6 = .ok (.lload_n 2, 1) := by decide +kernel
theorem dX10_common_7 : decode cX10_common 7 = .ok (.invokestatic 377, 3) := by decide +kernel
theorem dX10_common_10 : decode cX10_common 10 = .ok (.lstore 6, 2) := by decide +kernel
theorem dX10_common_12 : decode cX10_common 12 = .ok (.iconst 0, 1) := by decide +kernel
theorem dX10_common_13 : decode cX10_common 13 = .ok (.istore 8, 2) := by decide +kernel
theorem dX10_common_15 : decode cX10_common 15 = .ok (.iload 8, 2) := by decide +kernel
theorem dX10_common_17 : decode cX10_common 17 = .ok (.bipush 100, 2) := by decide +kernel
theorem dX10_common_19 : decode cX10_common 19 = .ok (.if_icmp .ge 31, 3) := by decide +kernel
theorem dX10_common_22 : decode cX10_common 22 = .ok (.lload 6, 2) := by decide +kernel
theorem dX10_common_24 : decode cX10_common 24 = .ok (.lconst 0, 1) := by decide +kernel
theorem dX10_common_25 : decode cX10_common 25 = .ok (.lcmp, 1) := by decide +kernel
theorem dX10_common_26 : decode cX10_common 26 = .ok (.ifCond .eq 24, 3) := by decide +kernel
theorem dX10_common_29 : decode cX10_common 29 = .ok (.lload 4, 2) := by decide +kernel
theorem dX10_common_31 : decode cX10_common 31 = .ok (.lload 6, 2) := by decide +kernel
theorem dX10_common_33 : decode cX10_common 33 = .ok (.lrem, 1) := by decide +kernel
theorem dX10_common_34 : decode cX10_common 34 = .ok (.lstore 9, 2) := by decide +kernel
theorem dX10_common_36 : decode cX10_common 36 = .ok (.lload 6, 2) := by decide +kernel
theorem dX10_common_38 : decode cX10_common 38 = .ok (.lstore 4, 2) := by decide +kernel
theorem dX10_common_40 : decode cX10_common 40 = .ok (.lload 9, 2) := by decide +kernel
theorem dX10_common_42 : decode cX10_common 42 = .ok (.lstore 6, 2) := by decide +kernel
theorem dX10_common_44 : decode cX10_common 44 = .ok (.iinc 8 1, 3) := by decide +kernel
theorem dX10_common_47 : decode cX10_common 47 = .ok (.goto (-32), 3) := by decide +kernel
theorem dX10_common_50 : decode cX10_common 50 = .ok (.lload 4, 2) := by decide +kernel
theorem dX10_common_52 : decode cX10_common 52 = .ok (.lreturn, 1) := by decide +kernel
theorem dX10_lessOther_0 : decode cX10_lessOther 0 = .ok (.iload_n 1, 1) := by decide +kernel
theorem dX10_lessOther_1 : decode cX10_lessOther 1 = .ok (.ifCond .eq 7, 3) := by decide +kernel
theorem dX10_lessOther_4 : decode cX10_lessOther 4 = .ok (.iload_n 3, 1) := by decide +kernel
theorem dX10_lessOther_5 : decode cX10_lessOther 5 = .ok (.ifCond .ne 6, 3) := by decide +kernel
theorem dX10_lessOther_8 : decode cX10_lessOther 8 = .ok (.ldc 247, 2) := by decide +kernel
theorem dX10_lessOther_10 : decode cX10_lessOther 10 = .ok (.ireturn, 1) := by decide +kernel
theorem dX10_lessOther_11 : decode cX10_lessOther 11 = .ok (.iload_n 0, 1) := by decide +kernel
theorem dX10_lessOther_12 : decode cX10_lessOther 12 = .ok (.iload_n 3, 1) := by decide +kernel
theorem dX10_lessOther_13 : decode cX10_lessOther 13 = .ok (.imul, 1) := by decide +kernel
theorem dX10_lessOther_14 : decode cX10_lessOther 14 = .ok (.iload_n 2, 1) := by decide +kernel
theorem dX10_lessOther_15 : decode cX10_lessOther 15 = .ok (.iload_n 1, 1) := by decide +kernel
theorem dX10_lessOther_16 : decode cX10_lessOther 16 = .ok (.imul, 1) := by decide +kernel
theorem dX10_lessOther_17 : decode cX10_lessOther 17 = .ok (.isub, 1) := by decide +kernel
theorem dX10_lessOther_18 : decode cX10_lessOther 18 = .ok (.i2l, 1) := by decide +kernel
theorem dX10_lessOther_19 : decode cX10_lessOther 19 = .ok (.iload_n 1, 1) := by decide +kernel
theorem dX10_lessOther_20 : decode cX10_lessOther 20 = .ok (.iload_n 3, 1) := by decide +kernel
theorem dX10_lessOther_21 : decode cX10_lessOther 21 = .ok (.imul, 1) := by decide +kernel
theorem dX10_lessOther_22 : decode cX10_lessOther 22 = .ok (.i2l, 1) := by decide +kernel
theorem dX10_lessOther_23 : decode cX10_lessOther 23 = .ok (.iload 4, 2) := by decide +kernel
theorem dX10_lessOther_25 : decode cX10_lessOther 25 = .ok (.invokestatic 251, 3) := by decide +kernel
theorem dX10_lessOther_28 : decode cX10_lessOther 28 = .ok (.l2i, 1) := by decide +kernel
theorem dX10_lessOther_29 : decode cX10_lessOther 29 = .ok (.ireturn, 1) := by decide +kernel
theorem dX10_ways_0 : decode cX10_ways 0 = .ok (.iload_n 1, 1) := by decide +kernel
theorem dX10_ways_1 : decode cX10_ways 1 = .ok (.ifCond .lt 8, 3) := by decide +kernel
theorem dX10_ways_4 : decode cX10_ways 4 = .ok (.iload_n 1, 1) := by decide +kernel
theorem dX10_ways_5 : decode cX10_ways 5 = .ok (.iload_n 0, 1) := by decide +kernel
theorem dX10_ways_6 : decode cX10_ways 6 = .ok (.if_icmp .le 5, 3) := by decide +kernel
theorem dX10_ways_9 : decode cX10_ways 9 = .ok (.lconst 0, 1) := by decide +kernel
theorem dX10_ways_10 : decode cX10_ways 10 = .ok (.lreturn, 1) := by decide +kernel
theorem dX10_ways_11 : decode cX10_ways 11 = .ok (.iload_n 1, 1) := by decide +kernel
theorem dX10_ways_12 : decode cX10_ways 12 = .ok (.iload_n 0, 1) := by decide +kernel
theorem dX10_ways_13 : decode cX10_ways 13 = .ok (.iload_n 1, 1) := by decide +kernel
theorem dX10_ways_14 : decode cX10_ways 14 = .ok (.isub, 1) := by decide +kernel
theorem dX10_ways_15 : decode cX10_ways 15 = .ok (.invokestatic 381, 3) := by decide +kernel
theorem dX10_ways_18 : decode cX10_ways 18 = .ok (.istore_n 2, 1) := by decide +kernel
theorem dX10_ways_19 : decode cX10_ways 19 = .ok (.lconst 1, 1) := by decide +kernel
theorem dX10_ways_20 : decode cX10_ways 20 = .ok (.lstore_n 3, 1) := by decide +kernel
theorem dX10_ways_21 : decode cX10_ways 21 = .ok (.iconst 1, 1) := by decide +kernel
theorem dX10_ways_22 : decode cX10_ways 22 = .ok (.istore 5, 2) := by decide +kernel
theorem dX10_ways_24 : decode cX10_ways 24 = .ok (.iload 5, 2) := by decide +kernel
theorem dX10_ways_26 : decode cX10_ways 26 = .ok (.iload_n 2, 1) := by decide +kernel
theorem dX10_ways_27 : decode cX10_ways 27 = .ok (.if_icmp .gt 23, 3) := by decide +kernel
theorem dX10_ways_30 : decode cX10_ways 30 = .ok (.lload_n 3, 1) := by decide +kernel
theorem dX10_ways_31 : decode cX10_ways 31 = .ok (.iload_n 0, 1) := by decide +kernel
theorem dX10_ways_32 : decode cX10_ways 32 = .ok (.iload_n 2, 1) := by decide +kernel
theorem dX10_ways_33 : decode cX10_ways 33 = .ok (.isub, 1) := by decide +kernel
theorem dX10_ways_34 : decode cX10_ways 34 = .ok (.iload 5, 2) := by decide +kernel
theorem dX10_ways_36 : decode cX10_ways 36 = .ok (.iadd, 1) := by decide +kernel
theorem dX10_ways_37 : decode cX10_ways 37 = .ok (.i2l, 1) := by decide +kernel
theorem dX10_ways_38 : decode cX10_ways 38 = .ok (.lmul, 1) := by decide +kernel
theorem dX10_ways_39 : decode cX10_ways 39 = .ok (.iload 5, 2) := by decide +kernel
theorem dX10_ways_41 : decode cX10_ways 41 = .ok (.i2l, 1) := by decide +kernel
theorem dX10_ways_42 : decode cX10_ways 42 = .ok (.ldiv, 1) := by decide +kernel
theorem dX10_ways_43 : decode cX10_ways 43 = .ok (.lstore_n 3, 1) := by decide +kernel
theorem dX10_ways_44 : decode cX10_ways 44 = .ok (.iinc 5 1, 3) := by decide +kernel
theorem dX10_ways_47 : decode cX10_ways 47 = .ok (.goto (-23), 3) := by decide +kernel
theorem dX10_ways_50 : decode cX10_ways 50 = .ok (.lload_n 3, 1) := by decide +kernel
theorem dX10_ways_51 : decode cX10_ways 51 = .ok (.lreturn, 1) := by decide +kernel
theorem dX10_waysWithAtLeast_0 : decode cX10_waysWithAtLeast 0 = .ok (.lconst 0, 1) := by decide +kernel
theorem dX10_waysWithAtLeast_1 : decode cX10_waysWithAtLeast 1 = .ok (.lstore 4, 2) := by decide +kernel
theorem dX10_waysWithAtLeast_3 : decode cX10_waysWithAtLeast 3 = .ok (.iload_n 3, 1) := by decide +kernel
theorem dX10_waysWithAtLeast_4 : decode cX10_waysWithAtLeast 4 = .ok (.istore 6, 2) := by decide +kernel
theorem dX10_waysWithAtLeast_6 : decode cX10_waysWithAtLeast 6 = .ok (.iload 6, 2) := by decide +kernel
theorem dX10_waysWithAtLeast_8 : decode cX10_waysWithAtLeast 8 = .ok (.iload_n 1, 1) := by decide +kernel
theorem dX10_waysWithAtLeast_9 : decode cX10_waysWithAtLeast 9 = .ok (.if_icmp .gt 31, 3) := by decide +kernel
theorem dX10_waysWithAtLeast_12 : decode cX10_waysWithAtLeast 12 = .ok (.lload 4, 2) := by decide +kernel
theorem dX10_waysWithAtLeast_14 : decode cX10_waysWithAtLeast 14 = .ok (.iload_n 1, 1) := by decide +kernel
theorem dX10_waysWithAtLeast_15 : decode cX10_waysWithAtLeast 15 = .ok (.iload 6, 2) := by decide +kernel
theorem dX10_waysWithAtLeast_17 : decode cX10_waysWithAtLeast 17 = .ok (.invokestatic 290, 3) := by decide +kernel
theorem dX10_waysWithAtLeast_20 : decode cX10_waysWithAtLeast 20 = .ok (.iload_n 0, 1) := by decide +kernel
theorem dX10_waysWithAtLeast_21 : decode cX10_waysWithAtLeast 21 = .ok (.iload_n 1, 1) := by decide +kernel
theorem dX10_waysWithAtLeast_22 : decode cX10_waysWithAtLeast 22 = .ok (.isub, 1) := by decide +kernel
theorem dX10_waysWithAtLeast_23 : decode cX10_waysWithAtLeast 23 = .ok (.iload_n 2, 1) := by decide +kernel
theorem dX10_waysWithAtLeast_24 : decode cX10_waysWithAtLeast 24 = .ok (.iload 6, 2) := by decide +kernel
theorem dX10_waysWithAtLeast_26 : decode cX10_waysWithAtLeast 26 = .ok (.isub, 1) := by decide +kernel
theorem dX10_waysWithAtLeast_27 : decode cX10_waysWithAtLeast 27 = .ok (.invokestatic 290, 3) := by decide +kernel
theorem dX10_waysWithAtLeast_30 : decode cX10_waysWithAtLeast 30 = .ok (.lmul, 1) := by decide +kernel
theorem dX10_waysWithAtLeast_31 : decode cX10_waysWithAtLeast 31 = .ok (.ladd, 1) := by decide +kernel
theorem dX10_waysWithAtLeast_32 : decode cX10_waysWithAtLeast 32 = .ok (.lstore 4, 2) := by decide +kernel
theorem dX10_waysWithAtLeast_34 : decode cX10_waysWithAtLeast 34 = .ok (.iinc 6 1, 3) := by decide +kernel
theorem dX10_waysWithAtLeast_37 : decode cX10_waysWithAtLeast 37 = .ok (.goto (-31), 3) := by decide +kernel
theorem dX10_waysWithAtLeast_40 : decode cX10_waysWithAtLeast 40 = .ok (.lload 4, 2) := by decide +kernel
theorem dX10_waysWithAtLeast_42 : decode cX10_waysWithAtLeast 42 = .ok (.lreturn, 1) := by decide +kernel
