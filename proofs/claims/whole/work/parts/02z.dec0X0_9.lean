/-! printed: decode rows -/
theorem dX0_init_0 : decode cX0_init 0 = .ok (.aload_n 0, 1) := by decide +kernel
theorem dX0_init_1 : decode cX0_init 1 = .ok (.invokespecial 1, 3) := by decide +kernel
theorem dX0_init_4 : decode cX0_init 4 = .ok (.aload_n 0, 1) := by decide +kernel
theorem dX0_init_5 : decode cX0_init 5 = .ok (.iload_n 1, 1) := by decide +kernel
theorem dX0_init_6 : decode cX0_init 6 = .ok (.putfield 7, 3) := by decide +kernel
theorem dX0_init_9 : decode cX0_init 9 = .ok (.return_, 1) := by decide +kernel
theorem dX0_below_0 : decode cX0_below 0 = .ok (.aload_n 0, 1) := by decide +kernel
theorem dX0_below_1 : decode cX0_below 1 = .ok (.aload_n 0, 1) := by decide +kernel
theorem dX0_below_2 : decode cX0_below 2 = .ok (.getfield 7, 3) := by decide +kernel
theorem dX0_below_5 : decode cX0_below 5 = .ok (.ldc 13, 2) := by decide +kernel
theorem dX0_below_7 : decode cX0_below 7 = .ok (.imul, 1) := by decide +kernel
theorem dX0_below_8 : decode cX0_below 8 = .ok (.sipush 12345, 3) := by decide +kernel
theorem dX0_below_11 : decode cX0_below 11 = .ok (.iadd, 1) := by decide +kernel
theorem dX0_below_12 : decode cX0_below 12 = .ok (.putfield 7, 3) := by decide +kernel
theorem dX0_below_15 : decode cX0_below 15 = .ok (.iload_n 1, 1) := by decide +kernel
theorem dX0_below_16 : decode cX0_below 16 = .ok (.ifCond .le 15, 3) := by decide +kernel
theorem dX0_below_19 : decode cX0_below 19 = .ok (.aload_n 0, 1) := by decide +kernel
theorem dX0_below_20 : decode cX0_below 20 = .ok (.getfield 7, 3) := by decide +kernel
theorem dX0_below_23 : decode cX0_below 23 = .ok (.bipush 16, 2) := by decide +kernel
theorem dX0_below_25 : decode cX0_below 25 = .ok (.iushr, 1) := by decide +kernel
theorem dX0_below_26 : decode cX0_below 26 = .ok (.iload_n 1, 1) := by decide +kernel
theorem dX0_below_27 : decode cX0_below 27 = .ok (.irem, 1) := by decide +kernel
theorem dX0_below_28 : decode cX0_below 28 = .ok (.goto 4, 3) := by decide +kernel
theorem dX0_below_31 : decode cX0_below 31 = .ok (.iconst 0, 1) := by decide +kernel
theorem dX0_below_32 : decode cX0_below 32 = .ok (.ireturn, 1) := by decide +kernel
theorem dX0_shots_0 : decode cX0_shots 0 = .ok (.iconst 0, 1) := by decide +kernel
theorem dX0_shots_1 : decode cX0_shots 1 = .ok (.istore_n 2, 1) := by decide +kernel
theorem dX0_shots_2 : decode cX0_shots 2 = .ok (.iconst 0, 1) := by decide +kernel
theorem dX0_shots_3 : decode cX0_shots 3 = .ok (.istore_n 3, 1) := by decide +kernel
theorem dX0_shots_4 : decode cX0_shots 4 = .ok (.iload_n 3, 1) := by decide +kernel
theorem dX0_shots_5 : decode cX0_shots 5 = .ok (.iconst 3, 1) := by decide +kernel
theorem dX0_shots_6 : decode cX0_shots 6 = .ok (.if_icmp .ge 22, 3) := by decide +kernel
theorem dX0_shots_9 : decode cX0_shots 9 = .ok (.aload_n 0, 1) := by decide +kernel
theorem dX0_shots_10 : decode cX0_shots 10 = .ok (.bipush 100, 2) := by decide +kernel
theorem dX0_shots_12 : decode cX0_shots 12 = .ok (.invokevirtual 14, 3) := by decide +kernel
theorem dX0_shots_15 : decode cX0_shots 15 = .ok (.iload_n 1, 1) := by decide +kernel
theorem dX0_shots_16 : decode cX0_shots 16 = .ok (.if_icmp .ge 6, 3) := by decide +kernel
theorem dX0_shots_19 : decode cX0_shots 19 = .ok (.iinc 2 1, 3) := by decide +kernel
theorem dX0_shots_22 : decode cX0_shots 22 = .ok (.iinc 3 1, 3) := by decide +kernel
theorem dX0_shots_25 : decode cX0_shots 25 = .ok (.goto (-21), 3) := by decide +kernel
theorem dX0_shots_28 : decode cX0_shots 28 = .ok (.iload_n 2, 1) := by decide +kernel
theorem dX0_shots_29 : decode cX0_shots 29 = .ok (.ireturn, 1) := by decide +kernel
theorem dX1_init_0 : decode cX1_init 0 = .ok (.aload_n 0, 1) := by decide +kernel
theorem dX1_init_1 : decode cX1_init 1 = .ok (.invokespecial 3, 3) := by decide +kernel
theorem dX1_init_4 : decode cX1_init 4 = .ok (.aload_n 0, 1) := by decide +kernel
theorem dX1_init_5 : decode cX1_init 5 = .ok (.bipush 8, 2) := by decide +kernel
theorem dX1_init_7 : decode cX1_init 7 = .ok (.newarray .int, 2) := by decide +kernel
theorem dX1_init_9 : decode cX1_init 9 = .ok (.putfield 9, 3) := by decide +kernel
theorem dX1_init_12 : decode cX1_init 12 = .ok (.aload_n 0, 1) := by decide +kernel
theorem dX1_init_13 : decode cX1_init 13 = .ok (.bipush 6, 2) := by decide +kernel
theorem dX1_init_15 : decode cX1_init 15 = .ok (.bipush 7, 2) := by decide +kernel
theorem dX1_init_17 : decode cX1_init 17 = .ok (.multianewarray 15 2, 4) := by decide +kernel
theorem dX1_init_21 : decode cX1_init 21 = .ok (.putfield 17, 3) := by decide +kernel
theorem dX1_init_24 : decode cX1_init 24 = .ok (.aload_n 0, 1) := by decide +kernel
theorem dX1_init_25 : decode cX1_init 25 = .ok (.iconst 0, 1) := by decide +kernel
theorem dX1_init_26 : decode cX1_init 26 = .ok (.putfield 20, 3) := by decide +kernel
theorem dX1_init_29 : decode cX1_init 29 = .ok (.return_, 1) := by decide +kernel
theorem dX1_clear_0 : decode cX1_clear 0 = .ok (.iconst 0, 1) := by decide +kernel
theorem dX1_clear_1 : decode cX1_clear 1 = .ok (.istore_n 1, 1) := by decide +kernel
theorem dX1_clear_2 : decode cX1_clear 2 = .ok (.iload_n 1, 1) := by decide +kernel
theorem dX1_clear_3 : decode cX1_clear 3 = .ok (.bipush 8, 2) := by decide +kernel
theorem dX1_clear_5 : decode cX1_clear 5 = .ok (.if_icmp .ge 16, 3) := by decide +kernel
theorem dX1_clear_8 : decode cX1_clear 8 = .ok (.aload_n 0, 1) := by decide +kernel
theorem dX1_clear_9 : decode cX1_clear 9 = .ok (.getfield 9, 3) := by decide +kernel
theorem dX1_clear_12 : decode cX1_clear 12 = .ok (.iload_n 1, 1) := by decide +kernel
theorem dX1_clear_13 : decode cX1_clear 13 = .ok (.iconst (-1), 1) := by decide +kernel
theorem dX1_clear_14 : decode cX1_clear 14 = .ok (.iastore, 1) := by decide +kernel
theorem dX1_clear_15 : decode cX1_clear 15 = .ok (.iinc 1 1, 3) := by decide +kernel
theorem dX1_clear_18 : decode cX1_clear 18 = .ok (.goto (-16), 3) := by decide +kernel
theorem dX1_clear_21 : decode cX1_clear 21 = .ok (.return_, 1) := by decide +kernel
theorem dX1_see_0 : decode cX1_see 0 = .ok (.aload_n 0, 1) := by decide +kernel
theorem dX1_see_1 : decode cX1_see 1 = .ok (.getfield 9, 3) := by decide +kernel
theorem dX1_see_4 : decode cX1_see 4 = .ok (.iload_n 1, 1) := by decide +kernel
theorem dX1_see_5 : decode cX1_see 5 = .ok (.iconst 0, 1) := by decide +kernel
theorem dX1_see_6 : decode cX1_see 6 = .ok (.invokestatic 24, 3) := by decide +kernel
theorem dX1_see_9 : decode cX1_see 9 = .ok (.aload_n 0, 1) := by decide +kernel
theorem dX1_see_10 : decode cX1_see 10 = .ok (.getfield 9, 3) := by decide +kernel
theorem dX1_see_13 : decode cX1_see 13 = .ok (.iload_n 2, 1) := by decide +kernel
theorem dX1_see_14 : decode cX1_see 14 = .ok (.iconst 0, 1) := by decide +kernel
theorem dX1_see_15 : decode cX1_see 15 = .ok (.invokestatic 24, 3) := by decide +kernel
theorem dX1_see_18 : decode cX1_see 18 = .ok (.return_, 1) := by decide +kernel
theorem dX1_arrange_0 : decode cX1_arrange 0 = .ok (.aload_n 0, 1) := by decide +kernel
theorem dX1_arrange_1 : decode cX1_arrange 1 = .ok (.iconst 0, 1) := by decide +kernel
theorem dX1_arrange_2 : decode cX1_arrange 2 = .ok (.putfield 20, 3) := by decide +kernel
theorem dX1_arrange_5 : decode cX1_arrange 5 = .ok (.iconst 0, 1) := by decide +kernel
theorem dX1_arrange_6 : decode cX1_arrange 6 = .ok (.istore_n 1, 1) := by decide +kernel
theorem dX1_arrange_7 : decode cX1_arrange 7 = .ok (.iload_n 1, 1) := by decide +kernel
theorem dX1_arrange_8 : decode cX1_arrange 8 = .ok (.bipush 8, 2) := by decide +kernel
theorem dX1_arrange_10 : decode cX1_arrange 10 = .ok (.if_icmp .ge 39, 3) := by decide +kernel
theorem dX1_arrange_13 : decode cX1_arrange 13 = .ok (.aload_n 0, 1) := by decide +kernel
theorem dX1_arrange_14 : decode cX1_arrange 14 = .ok (.getfield 9, 3) := by decide +kernel
theorem dX1_arrange_17 : decode cX1_arrange 17 = .ok (.iload_n 1, 1) := by decide +kernel
theorem dX1_arrange_18 : decode cX1_arrange 18 = .ok (.iaload, 1) := by decide +kernel
theorem dX1_arrange_19 : decode cX1_arrange 19 = .ok (.iconst (-1), 1) := by decide +kernel
theorem dX1_arrange_20 : decode cX1_arrange 20 = .ok (.if_icmp .eq 23, 3) := by decide +kernel
theorem dX1_arrange_23 : decode cX1_arrange 23 = .ok (.aload_n 0, 1) := by decide +kernel
theorem dX1_arrange_24 : decode cX1_arrange 24 = .ok (.getfield 9, 3) := by decide +kernel
theorem dX1_arrange_27 : decode cX1_arrange 27 = .ok (.iload_n 1, 1) := by decide +kernel
theorem dX1_arrange_28 : decode cX1_arrange 28 = .ok (.aload_n 0, 1) := by decide +kernel
theorem dX1_arrange_29 : decode cX1_arrange 29 = .ok (.getfield 20, 3) := by decide +kernel
theorem dX1_arrange_32 : decode cX1_arrange 32 = .ok (.iastore, 1) := by decide +kernel
theorem dX1_arrange_33 : decode cX1_arrange 33 = .ok (.aload_n 0, 1) := by decide +kernel
theorem dX1_arrange_34 : decode cX1_arrange 34 = .ok (.dup, 1) := by decide +kernel
theorem dX1_arrange_35 : decode cX1_arrange 35 = .ok (.getfield 20, 3) := by decide +kernel
theorem dX1_arrange_38 : decode cX1_arrange 38 = .ok (.iconst 1, 1) := by decide +kernel
theorem dX1_arrange_39 : decode cX1_arrange 39 = .ok (.iadd, 1) := by decide +kernel
theorem dX1_arrange_40 : decode cX1_arrange 40 = .ok (.putfield 20, 3) := by decide +kernel
theorem dX1_arrange_43 : decode cX1_arrange 43 = .ok (.iinc 1 1, 3) := by decide +kernel
theorem dX1_arrange_46 : decode cX1_arrange 46 = .ok (.goto (-39), 3) := by decide +kernel
theorem dX1_arrange_49 : decode cX1_arrange 49 = .ok (.iconst 0, 1) := by decide +kernel
theorem dX1_arrange_50 : decode cX1_arrange 50 = .ok (.istore_n 1, 1) := by decide +kernel
theorem dX1_arrange_51 : decode cX1_arrange 51 = .ok (.iload_n 1, 1) := by decide +kernel
theorem dX1_arrange_52 : decode cX1_arrange 52 = .ok (.bipush 6, 2) := by decide +kernel
theorem dX1_arrange_54 : decode cX1_arrange 54 = .ok (.if_icmp .ge 32, 3) := by decide +kernel
theorem dX1_arrange_57 : decode cX1_arrange 57 = .ok (.iconst 0, 1) := by decide +kernel
theorem dX1_arrange_58 : decode cX1_arrange 58 = .ok (.istore_n 2, 1) := by decide +kernel
theorem dX1_arrange_59 : decode cX1_arrange 59 = .ok (.iload_n 2, 1) := by decide +kernel
theorem dX1_arrange_60 : decode cX1_arrange 60 = .ok (.bipush 6, 2) := by decide +kernel
theorem dX1_arrange_62 : decode cX1_arrange 62 = .ok (.if_icmp .gt 18, 3) := by decide +kernel
theorem dX1_arrange_65 : decode cX1_arrange 65 = .ok (.aload_n 0, 1) := by decide +kernel
theorem dX1_arrange_66 : decode cX1_arrange 66 = .ok (.getfield 17, 3) := by decide +kernel
theorem dX1_arrange_69 : decode cX1_arrange 69 = .ok (.iload_n 1, 1) := by decide +kernel
theorem dX1_arrange_70 : decode cX1_arrange 70 = .ok (.aaload, 1) := by decide +kernel
theorem dX1_arrange_71 : decode cX1_arrange 71 = .ok (.iload_n 2, 1) := by decide +kernel
theorem dX1_arrange_72 : decode cX1_arrange 72 = .ok (.lconst 0, 1) := by decide +kernel
theorem dX1_arrange_73 : decode cX1_arrange 73 = .ok (.lastore, 1) := by decide +kernel
theorem dX1_arrange_74 : decode cX1_arrange 74 = .ok (.iinc 2 1, 3) := by decide +kernel
theorem dX1_arrange_77 : decode cX1_arrange 77 = .ok (.goto (-18), 3) := by decide +kernel
theorem dX1_arrange_80 : decode cX1_arrange 80 = .ok (.iinc 1 1, 3) := by decide +kernel
theorem dX1_arrange_83 : decode cX1_arrange 83 = .ok (.goto (-32), 3) := by decide +kernel
theorem dX1_arrange_86 : decode cX1_arrange 86 = .ok (.aload_n 0, 1) := by decide +kernel
theorem dX1_arrange_87 : decode cX1_arrange 87 = .ok (.getfield 20, 3) := by decide +kernel
theorem dX1_arrange_90 : decode cX1_arrange 90 = .ok (.ifCond .le 16, 3) := by decide +kernel
theorem dX1_arrange_93 : decode cX1_arrange 93 = .ok (.aload_n 0, 1) := by decide +kernel
theorem dX1_arrange_94 : decode cX1_arrange 94 = .ok (.getfield 20, 3) := by decide +kernel
theorem dX1_arrange_97 : decode cX1_arrange 97 = .ok (.bipush 6, 2) := by decide +kernel
theorem dX1_arrange_99 : decode cX1_arrange 99 = .ok (.if_icmp .gt 7, 3) := by decide +kernel
theorem dX1_arrange_102 : decode cX1_arrange 102 = .ok (.iconst 1, 1) := by decide +kernel
theorem dX1_arrange_103 : decode cX1_arrange 103 = .ok (.goto 4, 3) := by decide +kernel
theorem dX1_arrange_106 : decode cX1_arrange 106 = .ok (.iconst 0, 1) := by decide +kernel
theorem dX1_arrange_107 : decode cX1_arrange 107 = .ok (.ireturn, 1) := by decide +kernel
theorem dX1_factor_0 : decode cX1_factor 0 = .ok (.iload_n 1, 1) := by decide +kernel
theorem dX1_factor_1 : decode cX1_factor 1 = .ok (.ifCond .eq 15, 3) := by decide +kernel
theorem dX1_factor_4 : decode cX1_factor 4 = .ok (.iload_n 1, 1) := by decide +kernel
theorem dX1_factor_5 : decode cX1_factor 5 = .ok (.aload_n 0, 1) := by decide +kernel
theorem dX1_factor_6 : decode cX1_factor 6 = .ok (.getfield 9, 3) := by decide +kernel
theorem dX1_factor_9 : decode cX1_factor 9 = .ok (.iload_n 2, 1) := by decide +kernel
theorem dX1_factor_10 : decode cX1_factor 10 = .ok (.invokestatic 28, 3) := by decide +kernel
theorem dX1_factor_13 : decode cX1_factor 13 = .ok (.if_icmp .ne 5, 3) := by decide +kernel
theorem dX1_factor_16 : decode cX1_factor 16 = .ok (.iconst 1, 1) := by decide +kernel
theorem dX1_factor_17 : decode cX1_factor 17 = .ok (.ireturn, 1) := by decide +kernel
theorem dX1_factor_18 : decode cX1_factor 18 = .ok (.iload_n 1, 1) := by decide +kernel
theorem dX1_factor_19 : decode cX1_factor 19 = .ok (.aload_n 0, 1) := by decide +kernel
theorem dX1_factor_20 : decode cX1_factor 20 = .ok (.getfield 9, 3) := by decide +kernel
theorem dX1_factor_23 : decode cX1_factor 23 = .ok (.iload_n 3, 1) := by decide +kernel
theorem dX1_factor_24 : decode cX1_factor 24 = .ok (.invokestatic 28, 3) := by decide +kernel
theorem dX1_factor_27 : decode cX1_factor 27 = .ok (.if_icmp .ne 7, 3) := by decide +kernel
theorem dX1_factor_30 : decode cX1_factor 30 = .ok (.iconst (-1), 1) := by decide +kernel
theorem dX1_factor_31 : decode cX1_factor 31 = .ok (.goto 4, 3) := by decide +kernel
theorem dX1_factor_34 : decode cX1_factor 34 = .ok (.iconst 0, 1) := by decide +kernel
theorem dX1_factor_35 : decode cX1_factor 35 = .ok (.ireturn, 1) := by decide +kernel
theorem dX1_add_0 : decode cX1_add 0 = .ok (.iconst 0, 1) := by decide +kernel
theorem dX1_add_1 : decode cX1_add 1 = .ok (.istore 4, 2) := by decide +kernel
theorem dX1_add_3 : decode cX1_add 3 = .ok (.iload 4, 2) := by decide +kernel
theorem dX1_add_5 : decode cX1_add 5 = .ok (.aload_n 0, 1) := by decide +kernel
theorem dX1_add_6 : decode cX1_add 6 = .ok (.getfield 20, 3) := by decide +kernel
theorem dX1_add_9 : decode cX1_add 9 = .ok (.if_icmp .ge 94, 3) := by decide +kernel
theorem dX1_add_12 : decode cX1_add 12 = .ok (.iload 4, 2) := by decide +kernel
theorem dX1_add_14 : decode cX1_add 14 = .ok (.bipush 6, 2) := by decide +kernel
theorem dX1_add_16 : decode cX1_add 16 = .ok (.if_icmp .ge 87, 3) := by decide +kernel
theorem dX1_add_19 : decode cX1_add 19 = .ok (.aload_n 0, 1) := by decide +kernel
theorem dX1_add_20 : decode cX1_add 20 = .ok (.iload 4, 2) := by decide +kernel
theorem dX1_add_22 : decode cX1_add 22 = .ok (.iload_n 1, 1) := by decide +kernel
theorem dX1_add_23 : decode cX1_add 23 = .ok (.iload_n 2, 1) := by decide +kernel
theorem dX1_add_24 : decode cX1_add 24 = .ok (.invokevirtual 32, 3) := by decide +kernel
theorem dX1_add_27 : decode cX1_add 27 = .ok (.istore 5, 2) := by decide +kernel
theorem dX1_add_29 : decode cX1_add 29 = .ok (.iconst 0, 1) := by decide +kernel
theorem dX1_add_30 : decode cX1_add 30 = .ok (.istore 6, 2) := by decide +kernel
theorem dX1_add_32 : decode cX1_add 32 = .ok (.iload 6, 2) := by decide +kernel
theorem dX1_add_34 : decode cX1_add 34 = .ok (.aload_n 0, 1) := by decide +kernel
theorem dX1_add_35 : decode cX1_add 35 = .ok (.getfield 20, 3) := by decide +kernel
theorem dX1_add_38 : decode cX1_add 38 = .ok (.if_icmp .ge 41, 3) := by decide +kernel
theorem dX1_add_41 : decode cX1_add 41 = .ok (.iload 6, 2) := by decide +kernel
theorem dX1_add_43 : decode cX1_add 43 = .ok (.bipush 6, 2) := by decide +kernel
theorem dX1_add_45 : decode cX1_add 45 = .ok (.if_icmp .ge 34, 3) := by decide +kernel
theorem dX1_add_48 : decode cX1_add 48 = .ok (.aload_n 0, 1) := by decide +kernel
theorem dX1_add_49 : decode cX1_add 49 = .ok (.getfield 17, 3) := by decide +kernel
theorem dX1_add_52 : decode cX1_add 52 = .ok (.iload 4, 2) := by decide +kernel
theorem dX1_add_54 : decode cX1_add 54 = .ok (.aaload, 1) := by decide +kernel
theorem dX1_add_55 : decode cX1_add 55 = .ok (.iload 6, 2) := by decide +kernel
theorem dX1_add_57 : decode cX1_add 57 = .ok (.dup2, 1) := by decide +kernel
theorem dX1_add_58 : decode cX1_add 58 = .ok (.laload, 1) := by decide +kernel
theorem dX1_add_59 : decode cX1_add 59 = .ok (.iload 5, 2) := by decide +kernel
theorem dX1_add_61 : decode cX1_add 61 = .ok (.aload_n 0, 1) := by decide +kernel
theorem dX1_add_62 : decode cX1_add 62 = .ok (.iload 6, 2) := by decide +kernel
theorem dX1_add_64 : decode cX1_add 64 = .ok (.iload_n 1, 1) := by decide +kernel
theorem dX1_add_65 : decode cX1_add 65 = .ok (.iload_n 2, 1) := by decide +kernel
theorem dX1_add_66 : decode cX1_add 66 = .ok (.invokevirtual 32, 3) := by decide +kernel
theorem dX1_add_69 : decode cX1_add 69 = .ok (.imul, 1) := by decide +kernel
theorem dX1_add_70 : decode cX1_add 70 = .ok (.i2l, 1) := by decide +kernel
theorem dX1_add_71 : decode cX1_add 71 = .ok (.ladd, 1) := by decide +kernel
theorem dX1_add_72 : decode cX1_add 72 = .ok (.lastore, 1) := by decide +kernel
theorem dX1_add_73 : decode cX1_add 73 = .ok (.iinc 6 1, 3) := by decide +kernel
theorem dX1_add_76 : decode cX1_add 76 = .ok (.goto (-44), 3) := by decide +kernel
theorem dX1_add_79 : decode cX1_add 79 = .ok (.aload_n 0, 1) := by decide +kernel
theorem dX1_add_80 : decode cX1_add 80 = .ok (.getfield 17, 3) := by decide +kernel
theorem dX1_add_83 : decode cX1_add 83 = .ok (.iload 4, 2) := by decide +kernel
theorem dX1_add_85 : decode cX1_add 85 = .ok (.aaload, 1) := by decide +kernel
theorem dX1_add_86 : decode cX1_add 86 = .ok (.bipush 6, 2) := by decide +kernel
theorem dX1_add_88 : decode cX1_add 88 = .ok (.dup2, 1) := by decide +kernel
theorem dX1_add_89 : decode cX1_add 89 = .ok (.laload, 1) := by decide +kernel
theorem dX1_add_90 : decode cX1_add 90 = .ok (.iload 5, 2) := by decide +kernel
theorem dX1_add_92 : decode cX1_add 92 = .ok (.iload_n 3, 1) := by decide +kernel
theorem dX1_add_93 : decode cX1_add 93 = .ok (.imul, 1) := by decide +kernel
theorem dX1_add_94 : decode cX1_add 94 = .ok (.i2l, 1) := by decide +kernel
theorem dX1_add_95 : decode cX1_add 95 = .ok (.ladd, 1) := by decide +kernel
theorem dX1_add_96 : decode cX1_add 96 = .ok (.lastore, 1) := by decide +kernel
theorem dX1_add_97 : decode cX1_add 97 = .ok (.iinc 4 1, 3) := by decide +kernel
theorem dX1_add_100 : decode cX1_add 100 = .ok (.goto (-97), 3) := by decide +kernel
theorem dX1_add_103 : decode cX1_add 103 = .ok (.return_, 1) := by decide +kernel
theorem dX1_solve_0 : decode cX1_solve 0 = .ok (.lconst 1, 1) := by decide +kernel
theorem dX1_solve_1 : decode cX1_solve 1 = .ok (.lstore_n 1, 1) := by decide +kernel
theorem dX1_solve_2 : decode cX1_solve 2 = .ok (.iconst 0, 1) := by decide +kernel
theorem dX1_solve_3 : decode cX1_solve 3 = .ok (.istore_n 3, 1) := by decide +kernel
theorem dX1_solve_4 : decode cX1_solve 4 = .ok (.iload_n 3, 1) := by decide +kernel
theorem dX1_solve_5 : decode cX1_solve 5 = .ok (.aload_n 0, 1) := by decide +kernel
theorem dX1_solve_6 : decode cX1_solve 6 = .ok (.getfield 20, 3) := by decide +kernel
theorem dX1_solve_9 : decode cX1_solve 9 = .ok (.if_icmp .ge 78, 3) := by decide +kernel
theorem dX1_solve_12 : decode cX1_solve 12 = .ok (.iload_n 3, 1) := by decide +kernel
theorem dX1_solve_13 : decode cX1_solve 13 = .ok (.bipush 6, 2) := by decide +kernel
theorem dX1_solve_15 : decode cX1_solve 15 = .ok (.if_icmp .ge 72, 3) := by decide +kernel
theorem dX1_solve_18 : decode cX1_solve 18 = .ok (.aload_n 0, 1) := by decide +kernel
theorem dX1_solve_19 : decode cX1_solve 19 = .ok (.getfield 17, 3) := by decide +kernel
theorem dX1_solve_22 : decode cX1_solve 22 = .ok (.iload_n 3, 1) := by decide +kernel
theorem dX1_solve_23 : decode cX1_solve 23 = .ok (.aaload, 1) := by decide +kernel
theorem dX1_solve_24 : decode cX1_solve 24 = .ok (.iload_n 3, 1) := by decide +kernel
theorem dX1_solve_25 : decode cX1_solve 25 = .ok (.laload, 1) := by decide +kernel
theorem dX1_solve_26 : decode cX1_solve 26 = .ok (.lstore 4, 2) := by decide +kernel
theorem dX1_solve_28 : decode cX1_solve 28 = .ok (.lload 4, 2) := by decide +kernel
theorem dX1_solve_30 : decode cX1_solve 30 = .ok (.lconst 0, 1) := by decide +kernel
theorem dX1_solve_31 : decode cX1_solve 31 = .ok (.lcmp, 1) := by decide +kernel
theorem dX1_solve_32 : decode cX1_solve 32 = .ok (.ifCond .ne 5, 3) := by decide +kernel
theorem dX1_solve_35 : decode cX1_solve 35 = .ok (.iconst 0, 1) := by decide +kernel
theorem dX1_solve_36 : decode cX1_solve 36 = .ok (.ireturn, 1) := by decide +kernel
theorem dX1_solve_37 : decode cX1_solve 37 = .ok (.iconst 0, 1) := by decide +kernel
theorem dX1_solve_38 : decode cX1_solve 38 = .ok (.istore 6, 2) := by decide +kernel
theorem dX1_solve_40 : decode cX1_solve 40 = .ok (.iload 6, 2) := by decide +kernel
theorem dX1_solve_42 : decode cX1_solve 42 = .ok (.aload_n 0, 1) := by decide +kernel
theorem dX1_solve_43 : decode cX1_solve 43 = .ok (.getfield 20, 3) := by decide +kernel
theorem dX1_solve_46 : decode cX1_solve 46 = .ok (.if_icmp .ge 32, 3) := by decide +kernel
theorem dX1_solve_49 : decode cX1_solve 49 = .ok (.iload 6, 2) := by decide +kernel
theorem dX1_solve_51 : decode cX1_solve 51 = .ok (.bipush 6, 2) := by decide +kernel
theorem dX1_solve_53 : decode cX1_solve 53 = .ok (.if_icmp .ge 25, 3) := by decide +kernel
theorem dX1_solve_56 : decode cX1_solve 56 = .ok (.iload 6, 2) := by decide +kernel
theorem dX1_solve_58 : decode cX1_solve 58 = .ok (.iload_n 3, 1) := by decide +kernel
theorem dX1_solve_59 : decode cX1_solve 59 = .ok (.if_icmp .eq 13, 3) := by decide +kernel
theorem dX1_solve_62 : decode cX1_solve 62 = .ok (.aload_n 0, 1) := by decide +kernel
theorem dX1_solve_63 : decode cX1_solve 63 = .ok (.iload 6, 2) := by decide +kernel
theorem dX1_solve_65 : decode cX1_solve 65 = .ok (.iload_n 3, 1) := by decide +kernel
theorem dX1_solve_66 : decode cX1_solve 66 = .ok (.lload 4, 2) := by decide +kernel
theorem dX1_solve_68 : decode cX1_solve 68 = .ok (.lload_n 1, 1) := by decide +kernel
theorem dX1_solve_69 : decode cX1_solve 69 = .ok (.invokevirtual 36, 3) := by decide +kernel
theorem dX1_solve_72 : decode cX1_solve 72 = .ok (.iinc 6 1, 3) := by decide +kernel
theorem dX1_solve_75 : decode cX1_solve 75 = .ok (.goto (-35), 3) := by decide +kernel
theorem dX1_solve_78 : decode cX1_solve 78 = .ok (.lload 4, 2) := by decide +kernel
theorem dX1_solve_80 : decode cX1_solve 80 = .ok (.lstore_n 1, 1) := by decide +kernel
theorem dX1_solve_81 : decode cX1_solve 81 = .ok (.iinc 3 1, 3) := by decide +kernel
theorem dX1_solve_84 : decode cX1_solve 84 = .ok (.goto (-80), 3) := by decide +kernel
theorem dX1_solve_87 : decode cX1_solve 87 = .ok (.iconst 1, 1) := by decide +kernel
theorem dX1_solve_88 : decode cX1_solve 88 = .ok (.ireturn, 1) := by decide +kernel
theorem dX1_takeOut_0 : decode cX1_takeOut 0 = .ok (.lload 5, 2) := by decide +kernel
theorem dX1_takeOut_2 : decode cX1_takeOut 2 = .ok (.lconst 0, 1) := by decide +kernel
theorem dX1_takeOut_3 : decode cX1_takeOut 3 = .ok (.lcmp, 1) := by decide +kernel
theorem dX1_takeOut_4 : decode cX1_takeOut 4 = .ok (.ifCond .ne 4, 3) := by decide +kernel
theorem dX1_takeOut_7 : decode cX1_takeOut 7 = .ok (.return_, 1) := by decide +kernel
theorem dX1_takeOut_8 : decode cX1_takeOut 8 = .ok (.aload_n 0, 1) := by decide +kernel
theorem dX1_takeOut_9 : decode cX1_takeOut 9 = .ok (.getfield 17, 3) := by decide +kernel
theorem dX1_takeOut_12 : decode cX1_takeOut 12 = .ok (.iload_n 1, 1) := by decide +kernel
theorem dX1_takeOut_13 : decode cX1_takeOut 13 = .ok (.aaload, 1) := by decide +kernel
theorem dX1_takeOut_14 : decode cX1_takeOut 14 = .ok (.iload_n 2, 1) := by decide +kernel
theorem dX1_takeOut_15 : decode cX1_takeOut 15 = .ok (.laload, 1) := by decide +kernel
theorem dX1_takeOut_16 : decode cX1_takeOut 16 = .ok (.lstore 7, 2) := by decide +kernel
theorem dX1_takeOut_18 : decode cX1_takeOut 18 = .ok (.iconst 0, 1) := by decide +kernel
theorem dX1_takeOut_19 : decode cX1_takeOut 19 = .ok (.istore 9, 2) := by decide +kernel
theorem dX1_takeOut_21 : decode cX1_takeOut 21 = .ok (.iload 9, 2) := by decide +kernel
theorem dX1_takeOut_23 : decode cX1_takeOut 23 = .ok (.bipush 6, 2) := by decide +kernel
theorem dX1_takeOut_25 : decode cX1_takeOut 25 = .ok (.if_icmp .gt 45, 3) := by decide +kernel
theorem dX1_takeOut_28 : decode cX1_takeOut 28 = .ok (.aload_n 0, 1) := by decide +kernel
theorem dX1_takeOut_29 : decode cX1_takeOut 29 = .ok (.getfield 17, 3) := by decide +kernel
theorem dX1_takeOut_32 : decode cX1_takeOut 32 = .ok (.iload_n 1, 1) := by decide +kernel
theorem dX1_takeOut_33 : decode cX1_takeOut 33 = .ok (.aaload, 1) := by decide +kernel
theorem dX1_takeOut_34 : decode cX1_takeOut 34 = .ok (.iload 9, 2) := by decide +kernel
theorem dX1_takeOut_36 : decode cX1_takeOut 36 = .ok (.lload_n 3, 1) := by decide +kernel
theorem dX1_takeOut_37 : decode cX1_takeOut 37 = .ok (.aload_n 0, 1) := by decide +kernel
theorem dX1_takeOut_38 : decode cX1_takeOut 38 = .ok (.getfield 17, 3) := by decide +kernel
theorem dX1_takeOut_41 : decode cX1_takeOut 41 = .ok (.iload_n 1, 1) := by decide +kernel
theorem dX1_takeOut_42 : decode cX1_takeOut 42 = .ok (.aaload, 1) := by decide +kernel
theorem dX1_takeOut_43 : decode cX1_takeOut 43 = .ok (.iload 9, 2) := by decide +kernel
theorem dX1_takeOut_45 : decode cX1_takeOut 45 = .ok (.laload, 1) := by decide +kernel
theorem dX1_takeOut_46 : decode cX1_takeOut 46 = .ok (.lmul, 1) := by decide +kernel
theorem dX1_takeOut_47 : decode cX1_takeOut 47 = .ok (.lload 7, 2) := by decide +kernel
theorem dX1_takeOut_49 : decode cX1_takeOut 49 = .ok (.aload_n 0, 1) := by decide +kernel
theorem dX1_takeOut_50 : decode cX1_takeOut 50 = .ok (.getfield 17, 3) := by decide +kernel
theorem dX1_takeOut_53 : decode cX1_takeOut 53 = .ok (.iload_n 2, 1) := by decide +kernel
theorem dX1_takeOut_54 : decode cX1_takeOut 54 = .ok (.aaload, 1) := by decide +kernel
theorem dX1_takeOut_55 : decode cX1_takeOut 55 = .ok (.iload 9, 2) := by decide +kernel
theorem dX1_takeOut_57 : decode cX1_takeOut 57 = .ok (.laload, 1) := by decide +kernel
theorem dX1_takeOut_58 : decode cX1_takeOut 58 = .ok (.lmul, 1) := by decide +kernel
theorem dX1_takeOut_59 : decode cX1_takeOut 59 = .ok (.lsub, 1) := by decide +kernel
theorem dX1_takeOut_60 : decode cX1_takeOut 60 = .ok (.lload 5, 2) := by decide +kernel
theorem dX1_takeOut_62 : decode cX1_takeOut 62 = .ok (.ldiv, 1) := by decide +kernel
theorem dX1_takeOut_63 : decode cX1_takeOut 63 = .ok (.lastore, 1) := by decide +kernel
theorem dX1_takeOut_64 : decode cX1_takeOut 64 = .ok (.iinc 9 1, 3) := by decide +kernel
theorem dX1_takeOut_67 : decode cX1_takeOut 67 = .ok (.goto (-46), 3) := by decide +kernel
theorem dX1_takeOut_70 : decode cX1_takeOut 70 = .ok (.return_, 1) := by decide +kernel
theorem dX1_played_0 : decode cX1_played 0 = .ok (.iload_n 1, 1) := by decide +kernel
theorem dX1_played_1 : decode cX1_played 1 = .ok (.ifCond .lt 23, 3) := by decide +kernel
theorem dX1_played_4 : decode cX1_played 4 = .ok (.iload_n 1, 1) := by decide +kernel
theorem dX1_played_5 : decode cX1_played 5 = .ok (.bipush 8, 2) := by decide +kernel
theorem dX1_played_7 : decode cX1_played 7 = .ok (.if_icmp .ge 17, 3) := by decide +kernel
theorem dX1_played_10 : decode cX1_played 10 = .ok (.aload_n 0, 1) := by decide +kernel
theorem dX1_played_11 : decode cX1_played 11 = .ok (.getfield 9, 3) := by decide +kernel
theorem dX1_played_14 : decode cX1_played 14 = .ok (.iload_n 1, 1) := by decide +kernel
theorem dX1_played_15 : decode cX1_played 15 = .ok (.iaload, 1) := by decide +kernel
theorem dX1_played_16 : decode cX1_played 16 = .ok (.iconst (-1), 1) := by decide +kernel
theorem dX1_played_17 : decode cX1_played 17 = .ok (.if_icmp .eq 7, 3) := by decide +kernel
theorem dX1_played_20 : decode cX1_played 20 = .ok (.iconst 1, 1) := by decide +kernel
theorem dX1_played_21 : decode cX1_played 21 = .ok (.goto 4, 3) := by decide +kernel
theorem dX1_played_24 : decode cX1_played 24 = .ok (.iconst 0, 1) := by decide +kernel
theorem dX1_played_25 : decode cX1_played 25 = .ok (.ireturn, 1) := by decide +kernel
theorem dX1_under_0 : decode cX1_under 0 = .ok (.aload_n 0, 1) := by decide +kernel
theorem dX1_under_1 : decode cX1_under 1 = .ok (.getfield 17, 3) := by decide +kernel
theorem dX1_under_4 : decode cX1_under 4 = .ok (.iconst 0, 1) := by decide +kernel
theorem dX1_under_5 : decode cX1_under 5 = .ok (.aaload, 1) := by decide +kernel
theorem dX1_under_6 : decode cX1_under 6 = .ok (.iconst 0, 1) := by decide +kernel
theorem dX1_under_7 : decode cX1_under 7 = .ok (.laload, 1) := by decide +kernel
theorem dX1_under_8 : decode cX1_under 8 = .ok (.lreturn, 1) := by decide +kernel
theorem dX1_home_0 : decode cX1_home 0 = .ok (.aload_n 0, 1) := by decide +kernel
theorem dX1_home_1 : decode cX1_home 1 = .ok (.getfield 17, 3) := by decide +kernel
theorem dX1_home_4 : decode cX1_home 4 = .ok (.iconst 0, 1) := by decide +kernel
theorem dX1_home_5 : decode cX1_home 5 = .ok (.aaload, 1) := by decide +kernel
theorem dX1_home_6 : decode cX1_home 6 = .ok (.bipush 6, 2) := by decide +kernel
theorem dX1_home_8 : decode cX1_home 8 = .ok (.laload, 1) := by decide +kernel
theorem dX1_home_9 : decode cX1_home 9 = .ok (.lreturn, 1) := by decide +kernel
theorem dX1_strength_0 : decode cX1_strength 0 = .ok (.aload_n 0, 1) := by decide +kernel
theorem dX1_strength_1 : decode cX1_strength 1 = .ok (.getfield 9, 3) := by decide +kernel
theorem dX1_strength_4 : decode cX1_strength 4 = .ok (.iload_n 1, 1) := by decide +kernel
theorem dX1_strength_5 : decode cX1_strength 5 = .ok (.invokestatic 28, 3) := by decide +kernel
theorem dX1_strength_8 : decode cX1_strength 8 = .ok (.istore_n 2, 1) := by decide +kernel
theorem dX1_strength_9 : decode cX1_strength 9 = .ok (.iload_n 2, 1) := by decide +kernel
theorem dX1_strength_10 : decode cX1_strength 10 = .ok (.ifCond .le 21, 3) := by decide +kernel
theorem dX1_strength_13 : decode cX1_strength 13 = .ok (.iload_n 2, 1) := by decide +kernel
theorem dX1_strength_14 : decode cX1_strength 14 = .ok (.bipush 6, 2) := by decide +kernel
theorem dX1_strength_16 : decode cX1_strength 16 = .ok (.if_icmp .ge 15, 3) := by decide +kernel
theorem dX1_strength_19 : decode cX1_strength 19 = .ok (.aload_n 0, 1) := by decide +kernel
theorem dX1_strength_20 : decode cX1_strength 20 = .ok (.getfield 17, 3) := by decide +kernel
theorem dX1_strength_23 : decode cX1_strength 23 = .ok (.iload_n 2, 1) := by decide +kernel
theorem dX1_strength_24 : decode cX1_strength 24 = .ok (.aaload, 1) := by decide +kernel
theorem dX1_strength_25 : decode cX1_strength 25 = .ok (.bipush 6, 2) := by decide +kernel
theorem dX1_strength_27 : decode cX1_strength 27 = .ok (.laload, 1) := by decide +kernel
theorem dX1_strength_28 : decode cX1_strength 28 = .ok (.goto 4, 3) := by decide +kernel
theorem dX1_strength_31 : decode cX1_strength 31 = .ok (.lconst 0, 1) := by decide +kernel
theorem dX1_strength_32 : decode cX1_strength 32 = .ok (.lreturn, 1) := by decide +kernel
theorem dX2_init_0 : decode cX2_init 0 = .ok (.aload_n 0, 1) := by decide +kernel
theorem dX2_init_1 : decode cX2_init 1 = .ok (.invokespecial 1, 3) := by decide +kernel
theorem dX2_init_4 : decode cX2_init 4 = .ok (.return_, 1) := by decide +kernel
theorem dX3_init_0 : decode cX3_init 0 = .ok (.aload_n 0, 1) := by decide +kernel
theorem dX3_init_1 : decode cX3_init 1 = .ok (.invokespecial 3, 3) := by decide +kernel
theorem dX3_init_4 : decode cX3_init 4 = .ok (.aload_n 0, 1) := by decide +kernel
theorem dX3_init_5 : decode cX3_init 5 = .ok (.bipush 26, 2) := by decide +kernel
theorem dX3_init_7 : decode cX3_init 7 = .ok (.newarray .int, 2) := by decide +kernel
theorem dX3_init_9 : decode cX3_init 9 = .ok (.putfield 11, 3) := by decide +kernel
theorem dX3_init_12 : decode cX3_init 12 = .ok (.aload_n 0, 1) := by decide +kernel
theorem dX3_init_13 : decode cX3_init 13 = .ok (.getfield 11, 3) := by decide +kernel
theorem dX3_init_16 : decode cX3_init 16 = .ok (.iconst 0, 1) := by decide +kernel
theorem dX3_init_17 : decode cX3_init 17 = .ok (.bipush 30, 2) := by decide +kernel
theorem dX3_init_19 : decode cX3_init 19 = .ok (.iastore, 1) := by decide +kernel
theorem dX3_init_20 : decode cX3_init 20 = .ok (.iconst 1, 1) := by decide +kernel
theorem dX3_init_21 : decode cX3_init 21 = .ok (.istore_n 1, 1) := by decide +kernel
theorem dX3_init_22 : decode cX3_init 22 = .ok (.iload_n 1, 1) := by decide +kernel
theorem dX3_init_23 : decode cX3_init 23 = .ok (.bipush 6, 2) := by decide +kernel
theorem dX3_init_25 : decode cX3_init 25 = .ok (.if_icmp .ge 19, 3) := by decide +kernel
theorem dX3_init_28 : decode cX3_init 28 = .ok (.aload_n 0, 1) := by decide +kernel
theorem dX3_init_29 : decode cX3_init 29 = .ok (.getfield 11, 3) := by decide +kernel
theorem dX3_init_32 : decode cX3_init 32 = .ok (.bipush 20, 2) := by decide +kernel
theorem dX3_init_34 : decode cX3_init 34 = .ok (.iload_n 1, 1) := by decide +kernel
theorem dX3_init_35 : decode cX3_init 35 = .ok (.iadd, 1) := by decide +kernel
theorem dX3_init_36 : decode cX3_init 36 = .ok (.iconst 1, 1) := by decide +kernel
theorem dX3_init_37 : decode cX3_init 37 = .ok (.iastore, 1) := by decide +kernel
theorem dX3_init_38 : decode cX3_init 38 = .ok (.iinc 1 1, 3) := by decide +kernel
theorem dX3_init_41 : decode cX3_init 41 = .ok (.goto (-19), 3) := by decide +kernel
theorem dX3_init_44 : decode cX3_init 44 = .ok (.return_, 1) := by decide +kernel
theorem dX3_isFull_0 : decode cX3_isFull 0 = .ok (.iconst 0, 1) := by decide +kernel
theorem dX3_isFull_1 : decode cX3_isFull 1 = .ok (.ireturn, 1) := by decide +kernel
theorem dX3_leastOf_0 : decode cX3_leastOf 0 = .ok (.iload_n 2, 1) := by decide +kernel
theorem dX3_leastOf_1 : decode cX3_leastOf 1 = .ok (.ifCond .ne 7, 3) := by decide +kernel
theorem dX3_leastOf_4 : decode cX3_leastOf 4 = .ok (.iconst 0, 1) := by decide +kernel
theorem dX3_leastOf_5 : decode cX3_leastOf 5 = .ok (.goto 4, 3) := by decide +kernel
theorem dX3_leastOf_8 : decode cX3_leastOf 8 = .ok (.iconst 1, 1) := by decide +kernel
theorem dX3_leastOf_9 : decode cX3_leastOf 9 = .ok (.ireturn, 1) := by decide +kernel
theorem dX3_mostOf_0 : decode cX3_mostOf 0 = .ok (.iload_n 2, 1) := by decide +kernel
theorem dX3_mostOf_1 : decode cX3_mostOf 1 = .ok (.ifCond .ne 17, 3) := by decide +kernel
theorem dX3_mostOf_4 : decode cX3_mostOf 4 = .ok (.iload_n 1, 1) := by decide +kernel
theorem dX3_mostOf_5 : decode cX3_mostOf 5 = .ok (.bipush 10, 2) := by decide +kernel
theorem dX3_mostOf_7 : decode cX3_mostOf 7 = .ok (.if_icmp .ne 8, 3) := by decide +kernel
theorem dX3_mostOf_10 : decode cX3_mostOf 10 = .ok (.bipush 100, 2) := by decide +kernel
theorem dX3_mostOf_12 : decode cX3_mostOf 12 = .ok (.goto 5, 3) := by decide +kernel
theorem dX3_mostOf_15 : decode cX3_mostOf 15 = .ok (.bipush 50, 2) := by decide +kernel
theorem dX3_mostOf_17 : decode cX3_mostOf 17 = .ok (.ireturn, 1) := by decide +kernel
theorem dX3_mostOf_18 : decode cX3_mostOf 18 = .ok (.iload_n 1, 1) := by decide +kernel
theorem dX3_mostOf_19 : decode cX3_mostOf 19 = .ok (.bipush 11, 2) := by decide +kernel
theorem dX3_mostOf_21 : decode cX3_mostOf 21 = .ok (.isub, 1) := by decide +kernel
theorem dX3_mostOf_22 : decode cX3_mostOf 22 = .ok (.tableswitch 45 1 4 #[30, 34, 37, 41], 30) := by decide +kernel
theorem dX3_mostOf_52 : decode cX3_mostOf 52 = .ok (.sipush 9999, 3) := by decide +kernel
theorem dX3_mostOf_55 : decode cX3_mostOf 55 = .ok (.ireturn, 1) := by decide +kernel
theorem dX3_mostOf_56 : decode cX3_mostOf 56 = .ok (.bipush 30, 2) := by decide +kernel
theorem dX3_mostOf_58 : decode cX3_mostOf 58 = .ok (.ireturn, 1) := by decide +kernel
theorem dX3_mostOf_59 : decode cX3_mostOf 59 = .ok (.sipush 999, 3) := by decide +kernel
theorem dX3_mostOf_62 : decode cX3_mostOf 62 = .ok (.ireturn, 1) := by decide +kernel
theorem dX3_mostOf_63 : decode cX3_mostOf 63 = .ok (.sipush 999, 3) := by decide +kernel
theorem dX3_mostOf_66 : decode cX3_mostOf 66 = .ok (.ireturn, 1) := by decide +kernel
theorem dX3_mostOf_67 : decode cX3_mostOf 67 = .ok (.bipush 99, 2) := by decide +kernel
theorem dX3_mostOf_69 : decode cX3_mostOf 69 = .ok (.ireturn, 1) := by decide +kernel
theorem dX3_take_0 : decode cX3_take 0 = .ok (.iload_n 1, 1) := by decide +kernel
theorem dX3_take_1 : decode cX3_take 1 = .ok (.bipush 10, 2) := by decide +kernel
theorem dX3_take_3 : decode cX3_take 3 = .ok (.if_icmp .ne 11, 3) := by decide +kernel
theorem dX3_take_6 : decode cX3_take 6 = .ok (.aload_n 0, 1) := by decide +kernel
theorem dX3_take_7 : decode cX3_take 7 = .ok (.getfield 11, 3) := by decide +kernel
theorem dX3_take_10 : decode cX3_take 10 = .ok (.iconst 0, 1) := by decide +kernel
theorem dX3_take_11 : decode cX3_take 11 = .ok (.iload_n 2, 1) := by decide +kernel
theorem dX3_take_12 : decode cX3_take 12 = .ok (.iastore, 1) := by decide +kernel
theorem dX3_take_13 : decode cX3_take 13 = .ok (.return_, 1) := by decide +kernel
theorem dX3_take_14 : decode cX3_take 14 = .ok (.iload_n 1, 1) := by decide +kernel
theorem dX3_take_15 : decode cX3_take 15 = .ok (.bipush 11, 2) := by decide +kernel
theorem dX3_take_17 : decode cX3_take 17 = .ok (.isub, 1) := by decide +kernel
theorem dX3_take_18 : decode cX3_take 18 = .ok (.istore 5, 2) := by decide +kernel
theorem dX3_take_20 : decode cX3_take 20 = .ok (.aload_n 0, 1) := by decide +kernel
theorem dX3_take_21 : decode cX3_take 21 = .ok (.getfield 11, 3) := by decide +kernel
theorem dX3_take_24 : decode cX3_take 24 = .ok (.bipush 10, 2) := by decide +kernel
theorem dX3_take_26 : decode cX3_take 26 = .ok (.iload 5, 2) := by decide +kernel
theorem dX3_take_28 : decode cX3_take 28 = .ok (.iadd, 1) := by decide +kernel
theorem dX3_take_29 : decode cX3_take 29 = .ok (.iload_n 2, 1) := by decide +kernel
theorem dX3_take_30 : decode cX3_take 30 = .ok (.invokestatic 15, 3) := by decide +kernel
theorem dX3_take_33 : decode cX3_take 33 = .ok (.iload 5, 2) := by decide +kernel
theorem dX3_take_35 : decode cX3_take 35 = .ok (.ifCond .le 16, 3) := by decide +kernel
theorem dX3_take_38 : decode cX3_take 38 = .ok (.aload_n 0, 1) := by decide +kernel
theorem dX3_take_39 : decode cX3_take 39 = .ok (.getfield 11, 3) := by decide +kernel
theorem dX3_take_42 : decode cX3_take 42 = .ok (.bipush 20, 2) := by decide +kernel
theorem dX3_take_44 : decode cX3_take 44 = .ok (.iload 5, 2) := by decide +kernel
theorem dX3_take_46 : decode cX3_take 46 = .ok (.iadd, 1) := by decide +kernel
theorem dX3_take_47 : decode cX3_take 47 = .ok (.iload_n 3, 1) := by decide +kernel
theorem dX3_take_48 : decode cX3_take 48 = .ok (.invokestatic 15, 3) := by decide +kernel
theorem dX3_take_51 : decode cX3_take 51 = .ok (.return_, 1) := by decide +kernel
theorem dX3_number_0 : decode cX3_number 0 = .ok (.iload_n 1, 1) := by decide +kernel
theorem dX3_number_1 : decode cX3_number 1 = .ok (.bipush 10, 2) := by decide +kernel
theorem dX3_number_3 : decode cX3_number 3 = .ok (.if_icmp .lt 13, 3) := by decide +kernel
theorem dX3_number_6 : decode cX3_number 6 = .ok (.iload_n 1, 1) := by decide +kernel
theorem dX3_number_7 : decode cX3_number 7 = .ok (.bipush 16, 2) := by decide +kernel
theorem dX3_number_9 : decode cX3_number 9 = .ok (.if_icmp .ge 7, 3) := by decide +kernel
theorem dX3_number_12 : decode cX3_number 12 = .ok (.iconst 1, 1) := by decide +kernel
theorem dX3_number_13 : decode cX3_number 13 = .ok (.goto 4, 3) := by decide +kernel
theorem dX3_number_16 : decode cX3_number 16 = .ok (.iconst 0, 1) := by decide +kernel
theorem dX3_number_17 : decode cX3_number 17 = .ok (.istore_n 2, 1) := by decide +kernel
theorem dX3_number_18 : decode cX3_number 18 = .ok (.iload_n 1, 1) := by decide +kernel
theorem dX3_number_19 : decode cX3_number 19 = .ok (.bipush 20, 2) := by decide +kernel
theorem dX3_number_21 : decode cX3_number 21 = .ok (.if_icmp .le 13, 3) := by decide +kernel
theorem dX3_number_24 : decode cX3_number 24 = .ok (.iload_n 1, 1) := by decide +kernel
theorem dX3_number_25 : decode cX3_number 25 = .ok (.bipush 26, 2) := by decide +kernel
theorem dX3_number_27 : decode cX3_number 27 = .ok (.if_icmp .ge 7, 3) := by decide +kernel
theorem dX3_number_30 : decode cX3_number 30 = .ok (.iconst 1, 1) := by decide +kernel
theorem dX3_number_31 : decode cX3_number 31 = .ok (.goto 4, 3) := by decide +kernel
theorem dX3_number_34 : decode cX3_number 34 = .ok (.iconst 0, 1) := by decide +kernel
theorem dX3_number_35 : decode cX3_number 35 = .ok (.istore_n 3, 1) := by decide +kernel
theorem dX3_number_36 : decode cX3_number 36 = .ok (.iload_n 1, 1) := by decide +kernel
theorem dX3_number_37 : decode cX3_number 37 = .ok (.ifCond .eq 11, 3) := by decide +kernel
theorem dX3_number_40 : decode cX3_number 40 = .ok (.iload_n 2, 1) := by decide +kernel
theorem dX3_number_41 : decode cX3_number 41 = .ok (.ifCond .ne 7, 3) := by decide +kernel
theorem dX3_number_44 : decode cX3_number 44 = .ok (.iload_n 3, 1) := by decide +kernel
theorem dX3_number_45 : decode cX3_number 45 = .ok (.ifCond .eq 14, 3) := by decide +kernel
theorem dX3_number_48 : decode cX3_number 48 = .ok (.aload_n 0, 1) := by decide +kernel
theorem dX3_number_49 : decode cX3_number 49 = .ok (.getfield 11, 3) := by decide +kernel
theorem dX3_number_52 : decode cX3_number 52 = .ok (.iload_n 1, 1) := by decide +kernel
theorem dX3_number_53 : decode cX3_number 53 = .ok (.invokestatic 19, 3) := by decide +kernel
theorem dX3_number_56 : decode cX3_number 56 = .ok (.goto 4, 3) := by decide +kernel
theorem dX3_number_59 : decode cX3_number 59 = .ok (.iconst (-1), 1) := by decide +kernel
theorem dX3_number_60 : decode cX3_number 60 = .ok (.ireturn, 1) := by decide +kernel
theorem dX3_base_0 : decode cX3_base 0 = .ok (.aload_n 0, 1) := by decide +kernel
theorem dX3_base_1 : decode cX3_base 1 = .ok (.getfield 11, 3) := by decide +kernel
theorem dX3_base_4 : decode cX3_base 4 = .ok (.iconst 0, 1) := by decide +kernel
theorem dX3_base_5 : decode cX3_base 5 = .ok (.iaload, 1) := by decide +kernel
theorem dX3_base_6 : decode cX3_base 6 = .ok (.ireturn, 1) := by decide +kernel
theorem dX3_per_0 : decode cX3_per 0 = .ok (.aload_n 0, 1) := by decide +kernel
theorem dX3_per_1 : decode cX3_per 1 = .ok (.getfield 11, 3) := by decide +kernel
theorem dX3_per_4 : decode cX3_per 4 = .ok (.bipush 20, 2) := by decide +kernel
theorem dX3_per_6 : decode cX3_per 6 = .ok (.iload_n 1, 1) := by decide +kernel
theorem dX3_per_7 : decode cX3_per 7 = .ok (.iadd, 1) := by decide +kernel
theorem dX3_per_8 : decode cX3_per 8 = .ok (.invokestatic 19, 3) := by decide +kernel
theorem dX3_per_11 : decode cX3_per 11 = .ok (.ireturn, 1) := by decide +kernel
theorem dX3_worthOf_0 : decode cX3_worthOf 0 = .ok (.bipush 50, 2) := by decide +kernel
theorem dX3_worthOf_2 : decode cX3_worthOf 2 = .ok (.aload_n 0, 1) := by decide +kernel
theorem dX3_worthOf_3 : decode cX3_worthOf 3 = .ok (.getfield 11, 3) := by decide +kernel
theorem dX3_worthOf_6 : decode cX3_worthOf 6 = .ok (.bipush 10, 2) := by decide +kernel
theorem dX3_worthOf_8 : decode cX3_worthOf 8 = .ok (.iload_n 1, 1) := by decide +kernel
theorem dX3_worthOf_9 : decode cX3_worthOf 9 = .ok (.iadd, 1) := by decide +kernel
theorem dX3_worthOf_10 : decode cX3_worthOf 10 = .ok (.invokestatic 19, 3) := by decide +kernel
theorem dX3_worthOf_13 : decode cX3_worthOf 13 = .ok (.iload_n 2, 1) := by decide +kernel
theorem dX3_worthOf_14 : decode cX3_worthOf 14 = .ok (.imul, 1) := by decide +kernel
theorem dX3_worthOf_15 : decode cX3_worthOf 15 = .ok (.invokestatic 23, 3) := by decide +kernel
theorem dX3_worthOf_18 : decode cX3_worthOf 18 = .ok (.ireturn, 1) := by decide +kernel
theorem dX4_init_0 : decode cX4_init 0 = .ok (.aload_n 0, 1) := by decide +kernel
theorem dX4_init_1 : decode cX4_init 1 = .ok (.invokespecial 3, 3) := by decide +kernel
theorem dX4_init_4 : decode cX4_init 4 = .ok (.aload_n 0, 1) := by decide +kernel
theorem dX4_init_5 : decode cX4_init 5 = .ok (.bipush 60, 2) := by decide +kernel
theorem dX4_init_7 : decode cX4_init 7 = .ok (.newarray .int, 2) := by decide +kernel
theorem dX4_init_9 : decode cX4_init 9 = .ok (.putfield 9, 3) := by decide +kernel
theorem dX4_init_12 : decode cX4_init 12 = .ok (.aload_n 0, 1) := by decide +kernel
theorem dX4_init_13 : decode cX4_init 13 = .ok (.bipush 100, 2) := by decide +kernel
theorem dX4_init_15 : decode cX4_init 15 = .ok (.newarray .int, 2) := by decide +kernel
theorem dX4_init_17 : decode cX4_init 17 = .ok (.putfield 15, 3) := by decide +kernel
theorem dX4_init_20 : decode cX4_init 20 = .ok (.aload_n 0, 1) := by decide +kernel
theorem dX4_init_21 : decode cX4_init 21 = .ok (.iconst 0, 1) := by decide +kernel
theorem dX4_init_22 : decode cX4_init 22 = .ok (.putfield 18, 3) := by decide +kernel
theorem dX4_init_25 : decode cX4_init 25 = .ok (.aload_n 0, 1) := by decide +kernel
theorem dX4_init_26 : decode cX4_init 26 = .ok (.iconst 0, 1) := by decide +kernel
theorem dX4_init_27 : decode cX4_init 27 = .ok (.putfield 22, 3) := by decide +kernel
theorem dX4_init_30 : decode cX4_init 30 = .ok (.return_, 1) := by decide +kernel
theorem dX4_isFull_0 : decode cX4_isFull 0 = .ok (.iload_n 1, 1) := by decide +kernel
theorem dX4_isFull_1 : decode cX4_isFull 1 = .ok (.ifCond .ne 18, 3) := by decide +kernel
theorem dX4_isFull_4 : decode cX4_isFull 4 = .ok (.aload_n 0, 1) := by decide +kernel
theorem dX4_isFull_5 : decode cX4_isFull 5 = .ok (.getfield 18, 3) := by decide +kernel
theorem dX4_isFull_8 : decode cX4_isFull 8 = .ok (.bipush 10, 2) := by decide +kernel
theorem dX4_isFull_10 : decode cX4_isFull 10 = .ok (.if_icmp .lt 7, 3) := by decide +kernel
theorem dX4_isFull_13 : decode cX4_isFull 13 = .ok (.iconst 1, 1) := by decide +kernel
theorem dX4_isFull_14 : decode cX4_isFull 14 = .ok (.goto 4, 3) := by decide +kernel
theorem dX4_isFull_17 : decode cX4_isFull 17 = .ok (.iconst 0, 1) := by decide +kernel
theorem dX4_isFull_18 : decode cX4_isFull 18 = .ok (.ireturn, 1) := by decide +kernel
theorem dX4_isFull_19 : decode cX4_isFull 19 = .ok (.iload_n 1, 1) := by decide +kernel
theorem dX4_isFull_20 : decode cX4_isFull 20 = .ok (.iconst 1, 1) := by decide +kernel
theorem dX4_isFull_21 : decode cX4_isFull 21 = .ok (.if_icmp .ne 16, 3) := by decide +kernel
theorem dX4_isFull_24 : decode cX4_isFull 24 = .ok (.aload_n 0, 1) := by decide +kernel
theorem dX4_isFull_25 : decode cX4_isFull 25 = .ok (.getfield 22, 3) := by decide +kernel
theorem dX4_isFull_28 : decode cX4_isFull 28 = .ok (.bipush 8, 2) := by decide +kernel
theorem dX4_isFull_30 : decode cX4_isFull 30 = .ok (.if_icmp .lt 7, 3) := by decide +kernel
theorem dX4_isFull_33 : decode cX4_isFull 33 = .ok (.iconst 1, 1) := by decide +kernel
theorem dX4_isFull_34 : decode cX4_isFull 34 = .ok (.goto 4, 3) := by decide +kernel
theorem dX4_isFull_37 : decode cX4_isFull 37 = .ok (.iconst 0, 1) := by decide +kernel
theorem dX4_isFull_38 : decode cX4_isFull 38 = .ok (.ireturn, 1) := by decide +kernel
theorem dX4_leastOf_0 : decode cX4_leastOf 0 = .ok (.iconst 0, 1) := by decide +kernel
theorem dX4_leastOf_1 : decode cX4_leastOf 1 = .ok (.ireturn, 1) := by decide +kernel
theorem dX4_mostOf_0 : decode cX4_mostOf 0 = .ok (.iload_n 1, 1) := by decide +kernel
theorem dX4_mostOf_1 : decode cX4_mostOf 1 = .ok (.ifCond .ne 17, 3) := by decide +kernel
theorem dX4_mostOf_4 : decode cX4_mostOf 4 = .ok (.iload_n 2, 1) := by decide +kernel
theorem dX4_mostOf_5 : decode cX4_mostOf 5 = .ok (.iconst 2, 1) := by decide +kernel
theorem dX4_mostOf_6 : decode cX4_mostOf 6 = .ok (.if_icmp .ne 9, 3) := by decide +kernel
theorem dX4_mostOf_9 : decode cX4_mostOf 9 = .ok (.sipush 999, 3) := by decide +kernel
theorem dX4_mostOf_12 : decode cX4_mostOf 12 = .ok (.goto 5, 3) := by decide +kernel
theorem dX4_mostOf_15 : decode cX4_mostOf 15 = .ok (.bipush 99, 2) := by decide +kernel
theorem dX4_mostOf_17 : decode cX4_mostOf 17 = .ok (.ireturn, 1) := by decide +kernel
theorem dX4_mostOf_18 : decode cX4_mostOf 18 = .ok (.iload_n 1, 1) := by decide +kernel
theorem dX4_mostOf_19 : decode cX4_mostOf 19 = .ok (.iconst 1, 1) := by decide +kernel
theorem dX4_mostOf_20 : decode cX4_mostOf 20 = .ok (.if_icmp .ne 19, 3) := by decide +kernel
theorem dX4_mostOf_23 : decode cX4_mostOf 23 = .ok (.iload_n 2, 1) := by decide +kernel
theorem dX4_mostOf_24 : decode cX4_mostOf 24 = .ok (.ifCond .ne 12, 3) := by decide +kernel
theorem dX4_mostOf_27 : decode cX4_mostOf 27 = .ok (.aload_n 0, 1) := by decide +kernel
theorem dX4_mostOf_28 : decode cX4_mostOf 28 = .ok (.getfield 18, 3) := by decide +kernel
theorem dX4_mostOf_31 : decode cX4_mostOf 31 = .ok (.iconst 1, 1) := by decide +kernel
theorem dX4_mostOf_32 : decode cX4_mostOf 32 = .ok (.isub, 1) := by decide +kernel
theorem dX4_mostOf_33 : decode cX4_mostOf 33 = .ok (.goto 5, 3) := by decide +kernel
theorem dX4_mostOf_36 : decode cX4_mostOf 36 = .ok (.bipush 50, 2) := by decide +kernel
theorem dX4_mostOf_38 : decode cX4_mostOf 38 = .ok (.ireturn, 1) := by decide +kernel
theorem dX4_mostOf_39 : decode cX4_mostOf 39 = .ok (.iload_n 2, 1) := by decide +kernel
theorem dX4_mostOf_40 : decode cX4_mostOf 40 = .ok (.iconst 2, 1) := by decide +kernel
theorem dX4_mostOf_41 : decode cX4_mostOf 41 = .ok (.if_icmp .ne 9, 3) := by decide +kernel
theorem dX4_mostOf_44 : decode cX4_mostOf 44 = .ok (.sipush 9999, 3) := by decide +kernel
theorem dX4_mostOf_47 : decode cX4_mostOf 47 = .ok (.goto 9, 3) := by decide +kernel
theorem dX4_mostOf_50 : decode cX4_mostOf 50 = .ok (.aload_n 0, 1) := by decide +kernel
theorem dX4_mostOf_51 : decode cX4_mostOf 51 = .ok (.getfield 18, 3) := by decide +kernel
theorem dX4_mostOf_54 : decode cX4_mostOf 54 = .ok (.iconst 1, 1) := by decide +kernel
theorem dX4_mostOf_55 : decode cX4_mostOf 55 = .ok (.isub, 1) := by decide +kernel
theorem dX4_mostOf_56 : decode cX4_mostOf 56 = .ok (.ireturn, 1) := by decide +kernel
theorem dX4_take_0 : decode cX4_take 0 = .ok (.iload_n 1, 1) := by decide +kernel
theorem dX4_take_1 : decode cX4_take 1 = .ok (.ifCond .ne 62, 3) := by decide +kernel
theorem dX4_take_4 : decode cX4_take 4 = .ok (.aload_n 0, 1) := by decide +kernel
theorem dX4_take_5 : decode cX4_take 5 = .ok (.getfield 9, 3) := by decide +kernel
theorem dX4_take_8 : decode cX4_take 8 = .ok (.bipush 10, 2) := by decide +kernel
theorem dX4_take_10 : decode cX4_take 10 = .ok (.aload_n 0, 1) := by decide +kernel
theorem dX4_take_11 : decode cX4_take 11 = .ok (.getfield 18, 3) := by decide +kernel
theorem dX4_take_14 : decode cX4_take 14 = .ok (.iadd, 1) := by decide +kernel
theorem dX4_take_15 : decode cX4_take 15 = .ok (.iload_n 2, 1) := by decide +kernel
theorem dX4_take_16 : decode cX4_take 16 = .ok (.invokestatic 25, 3) := by decide +kernel
theorem dX4_take_19 : decode cX4_take 19 = .ok (.aload_n 0, 1) := by decide +kernel
theorem dX4_take_20 : decode cX4_take 20 = .ok (.getfield 9, 3) := by decide +kernel
theorem dX4_take_23 : decode cX4_take 23 = .ok (.bipush 20, 2) := by decide +kernel
theorem dX4_take_25 : decode cX4_take 25 = .ok (.aload_n 0, 1) := by decide +kernel
theorem dX4_take_26 : decode cX4_take 26 = .ok (.getfield 18, 3) := by decide +kernel
theorem dX4_take_29 : decode cX4_take 29 = .ok (.iadd, 1) := by decide +kernel
theorem dX4_take_30 : decode cX4_take 30 = .ok (.iload_n 3, 1) := by decide +kernel
theorem dX4_take_31 : decode cX4_take 31 = .ok (.invokestatic 25, 3) := by decide +kernel
theorem dX4_take_34 : decode cX4_take 34 = .ok (.aload_n 0, 1) := by decide +kernel
theorem dX4_take_35 : decode cX4_take 35 = .ok (.getfield 9, 3) := by decide +kernel
theorem dX4_take_38 : decode cX4_take 38 = .ok (.bipush 30, 2) := by decide +kernel
theorem dX4_take_40 : decode cX4_take 40 = .ok (.aload_n 0, 1) := by decide +kernel
theorem dX4_take_41 : decode cX4_take 41 = .ok (.getfield 18, 3) := by decide +kernel
theorem dX4_take_44 : decode cX4_take 44 = .ok (.iadd, 1) := by decide +kernel
theorem dX4_take_45 : decode cX4_take 45 = .ok (.iload 4, 2) := by decide +kernel
theorem dX4_take_47 : decode cX4_take 47 = .ok (.invokestatic 25, 3) := by decide +kernel
theorem dX4_take_50 : decode cX4_take 50 = .ok (.aload_n 0, 1) := by decide +kernel
theorem dX4_take_51 : decode cX4_take 51 = .ok (.dup, 1) := by decide +kernel
theorem dX4_take_52 : decode cX4_take 52 = .ok (.getfield 18, 3) := by decide +kernel
theorem dX4_take_55 : decode cX4_take 55 = .ok (.iconst 1, 1) := by decide +kernel
theorem dX4_take_56 : decode cX4_take 56 = .ok (.iadd, 1) := by decide +kernel
theorem dX4_take_57 : decode cX4_take 57 = .ok (.putfield 18, 3) := by decide +kernel
theorem dX4_take_60 : decode cX4_take 60 = .ok (.goto 81, 3) := by decide +kernel
theorem dX4_take_63 : decode cX4_take 63 = .ok (.iload_n 1, 1) := by decide +kernel
theorem dX4_take_64 : decode cX4_take 64 = .ok (.iconst 1, 1) := by decide +kernel
theorem dX4_take_65 : decode cX4_take 65 = .ok (.if_icmp .ne 46, 3) := by decide +kernel
theorem dX4_take_68 : decode cX4_take 68 = .ok (.aload_n 0, 1) := by decide +kernel
theorem dX4_take_69 : decode cX4_take 69 = .ok (.getfield 9, 3) := by decide +kernel
theorem dX4_take_72 : decode cX4_take 72 = .ok (.bipush 40, 2) := by decide +kernel
theorem dX4_take_74 : decode cX4_take 74 = .ok (.aload_n 0, 1) := by decide +kernel
theorem dX4_take_75 : decode cX4_take 75 = .ok (.getfield 22, 3) := by decide +kernel
theorem dX4_take_78 : decode cX4_take 78 = .ok (.iadd, 1) := by decide +kernel
theorem dX4_take_79 : decode cX4_take 79 = .ok (.iload_n 2, 1) := by decide +kernel
theorem dX4_take_80 : decode cX4_take 80 = .ok (.invokestatic 25, 3) := by decide +kernel
theorem dX4_take_83 : decode cX4_take 83 = .ok (.aload_n 0, 1) := by decide +kernel
theorem dX4_take_84 : decode cX4_take 84 = .ok (.getfield 9, 3) := by decide +kernel
theorem dX4_take_87 : decode cX4_take 87 = .ok (.bipush 50, 2) := by decide +kernel
theorem dX4_take_89 : decode cX4_take 89 = .ok (.aload_n 0, 1) := by decide +kernel
theorem dX4_take_90 : decode cX4_take 90 = .ok (.getfield 22, 3) := by decide +kernel
theorem dX4_take_93 : decode cX4_take 93 = .ok (.iadd, 1) := by decide +kernel
theorem dX4_take_94 : decode cX4_take 94 = .ok (.iload_n 3, 1) := by decide +kernel
theorem dX4_take_95 : decode cX4_take 95 = .ok (.invokestatic 25, 3) := by decide +kernel
theorem dX4_take_98 : decode cX4_take 98 = .ok (.aload_n 0, 1) := by decide +kernel
theorem dX4_take_99 : decode cX4_take 99 = .ok (.dup, 1) := by decide +kernel
theorem dX4_take_100 : decode cX4_take 100 = .ok (.getfield 22, 3) := by decide +kernel
theorem dX4_take_103 : decode cX4_take 103 = .ok (.iconst 1, 1) := by decide +kernel
theorem dX4_take_104 : decode cX4_take 104 = .ok (.iadd, 1) := by decide +kernel
theorem dX4_take_105 : decode cX4_take 105 = .ok (.putfield 22, 3) := by decide +kernel
theorem dX4_take_108 : decode cX4_take 108 = .ok (.goto 33, 3) := by decide +kernel
theorem dX4_take_111 : decode cX4_take 111 = .ok (.aload_n 0, 1) := by decide +kernel
theorem dX4_take_112 : decode cX4_take 112 = .ok (.getfield 15, 3) := by decide +kernel
theorem dX4_take_115 : decode cX4_take 115 = .ok (.bipush 10, 2) := by decide +kernel
theorem dX4_take_117 : decode cX4_take 117 = .ok (.iload_n 2, 1) := by decide +kernel
theorem dX4_take_118 : decode cX4_take 118 = .ok (.imul, 1) := by decide +kernel
theorem dX4_take_119 : decode cX4_take 119 = .ok (.iload_n 3, 1) := by decide +kernel
theorem dX4_take_120 : decode cX4_take 120 = .ok (.iadd, 1) := by decide +kernel
theorem dX4_take_121 : decode cX4_take 121 = .ok (.iload 4, 2) := by decide +kernel
theorem dX4_take_123 : decode cX4_take 123 = .ok (.invokestatic 25, 3) := by decide +kernel
theorem dX4_take_126 : decode cX4_take 126 = .ok (.aload_n 0, 1) := by decide +kernel
theorem dX4_take_127 : decode cX4_take 127 = .ok (.getfield 15, 3) := by decide +kernel
theorem dX4_take_130 : decode cX4_take 130 = .ok (.bipush 10, 2) := by decide +kernel
theorem dX4_take_132 : decode cX4_take 132 = .ok (.iload_n 3, 1) := by decide +kernel
theorem dX4_take_133 : decode cX4_take 133 = .ok (.imul, 1) := by decide +kernel
theorem dX4_take_134 : decode cX4_take 134 = .ok (.iload_n 2, 1) := by decide +kernel
theorem dX4_take_135 : decode cX4_take 135 = .ok (.iadd, 1) := by decide +kernel
theorem dX4_take_136 : decode cX4_take 136 = .ok (.iload 4, 2) := by decide +kernel
theorem dX4_take_138 : decode cX4_take 138 = .ok (.invokestatic 25, 3) := by decide +kernel
theorem dX4_take_141 : decode cX4_take 141 = .ok (.return_, 1) := by decide +kernel
theorem dX4_hasGround_0 : decode cX4_hasGround 0 = .ok (.iload_n 1, 1) := by decide +kernel
theorem dX4_hasGround_1 : decode cX4_hasGround 1 = .ok (.ifCond .lt 15, 3) := by decide +kernel
theorem dX4_hasGround_4 : decode cX4_hasGround 4 = .ok (.iload_n 1, 1) := by decide +kernel
theorem dX4_hasGround_5 : decode cX4_hasGround 5 = .ok (.aload_n 0, 1) := by decide +kernel
theorem dX4_hasGround_6 : decode cX4_hasGround 6 = .ok (.getfield 18, 3) := by decide +kernel
theorem dX4_hasGround_9 : decode cX4_hasGround 9 = .ok (.if_icmp .ge 7, 3) := by decide +kernel
theorem dX4_hasGround_12 : decode cX4_hasGround 12 = .ok (.iconst 1, 1) := by decide +kernel
theorem dX4_hasGround_13 : decode cX4_hasGround 13 = .ok (.goto 4, 3) := by decide +kernel
theorem dX4_hasGround_16 : decode cX4_hasGround 16 = .ok (.iconst 0, 1) := by decide +kernel
theorem dX4_hasGround_17 : decode cX4_hasGround 17 = .ok (.ireturn, 1) := by decide +kernel
theorem dX4_hasSide_0 : decode cX4_hasSide 0 = .ok (.iload_n 1, 1) := by decide +kernel
theorem dX4_hasSide_1 : decode cX4_hasSide 1 = .ok (.ifCond .lt 15, 3) := by decide +kernel
theorem dX4_hasSide_4 : decode cX4_hasSide 4 = .ok (.iload_n 1, 1) := by decide +kernel
theorem dX4_hasSide_5 : decode cX4_hasSide 5 = .ok (.aload_n 0, 1) := by decide +kernel
theorem dX4_hasSide_6 : decode cX4_hasSide 6 = .ok (.getfield 22, 3) := by decide +kernel
theorem dX4_hasSide_9 : decode cX4_hasSide 9 = .ok (.if_icmp .ge 7, 3) := by decide +kernel
theorem dX4_hasSide_12 : decode cX4_hasSide 12 = .ok (.iconst 1, 1) := by decide +kernel
theorem dX4_hasSide_13 : decode cX4_hasSide 13 = .ok (.goto 4, 3) := by decide +kernel
theorem dX4_hasSide_16 : decode cX4_hasSide 16 = .ok (.iconst 0, 1) := by decide +kernel
theorem dX4_hasSide_17 : decode cX4_hasSide 17 = .ok (.ireturn, 1) := by decide +kernel
theorem dX4_number_0 : decode cX4_number 0 = .ok (.iload_n 1, 1) := by decide +kernel
theorem dX4_number_1 : decode cX4_number 1 = .ok (.ifCond .ne 8, 3) := by decide +kernel
theorem dX4_number_4 : decode cX4_number 4 = .ok (.aload_n 0, 1) := by decide +kernel
theorem dX4_number_5 : decode cX4_number 5 = .ok (.getfield 18, 3) := by decide +kernel
theorem dX4_number_8 : decode cX4_number 8 = .ok (.ireturn, 1) := by decide +kernel
theorem dX4_number_9 : decode cX4_number 9 = .ok (.iload_n 1, 1) := by decide +kernel
theorem dX4_number_10 : decode cX4_number 10 = .ok (.iconst 1, 1) := by decide +kernel
theorem dX4_number_11 : decode cX4_number 11 = .ok (.if_icmp .ne 8, 3) := by decide +kernel
theorem dX4_number_14 : decode cX4_number 14 = .ok (.aload_n 0, 1) := by decide +kernel
theorem dX4_number_15 : decode cX4_number 15 = .ok (.getfield 22, 3) := by decide +kernel
theorem dX4_number_18 : decode cX4_number 18 = .ok (.ireturn, 1) := by decide +kernel
theorem dX4_number_19 : decode cX4_number 19 = .ok (.iload_n 1, 1) := by decide +kernel
theorem dX4_number_20 : decode cX4_number 20 = .ok (.bipush 10, 2) := by decide +kernel
theorem dX4_number_22 : decode cX4_number 22 = .ok (.if_icmp .lt 12, 3) := by decide +kernel
theorem dX4_number_25 : decode cX4_number 25 = .ok (.iload_n 1, 1) := by decide +kernel
theorem dX4_number_26 : decode cX4_number 26 = .ok (.aload_n 0, 1) := by decide +kernel
theorem dX4_number_27 : decode cX4_number 27 = .ok (.getfield 9, 3) := by decide +kernel
theorem dX4_number_30 : decode cX4_number 30 = .ok (.arraylength, 1) := by decide +kernel
theorem dX4_number_31 : decode cX4_number 31 = .ok (.if_icmp .lt 5, 3) := by decide +kernel
theorem dX4_number_34 : decode cX4_number 34 = .ok (.iconst (-1), 1) := by decide +kernel
theorem dX4_number_35 : decode cX4_number 35 = .ok (.ireturn, 1) := by decide +kernel
theorem dX4_number_36 : decode cX4_number 36 = .ok (.iload_n 1, 1) := by decide +kernel
theorem dX4_number_37 : decode cX4_number 37 = .ok (.bipush 40, 2) := by decide +kernel
theorem dX4_number_39 : decode cX4_number 39 = .ok (.if_icmp .ge 14, 3) := by decide +kernel
theorem dX4_number_42 : decode cX4_number 42 = .ok (.aload_n 0, 1) := by decide +kernel
theorem dX4_number_43 : decode cX4_number 43 = .ok (.iload_n 1, 1) := by decide +kernel
theorem dX4_number_44 : decode cX4_number 44 = .ok (.bipush 10, 2) := by decide +kernel
theorem dX4_number_46 : decode cX4_number 46 = .ok (.irem, 1) := by decide +kernel
theorem dX4_number_47 : decode cX4_number 47 = .ok (.invokevirtual 29, 3) := by decide +kernel
theorem dX4_number_50 : decode cX4_number 50 = .ok (.goto 11, 3) := by decide +kernel
theorem dX4_number_53 : decode cX4_number 53 = .ok (.aload_n 0, 1) := by decide +kernel
theorem dX4_number_54 : decode cX4_number 54 = .ok (.iload_n 1, 1) := by decide +kernel
theorem dX4_number_55 : decode cX4_number 55 = .ok (.bipush 10, 2) := by decide +kernel
theorem dX4_number_57 : decode cX4_number 57 = .ok (.irem, 1) := by decide +kernel
theorem dX4_number_58 : decode cX4_number 58 = .ok (.invokevirtual 33, 3) := by decide +kernel
theorem dX4_number_61 : decode cX4_number 61 = .ok (.istore_n 2, 1) := by decide +kernel
theorem dX4_number_62 : decode cX4_number 62 = .ok (.iload_n 2, 1) := by decide +kernel
theorem dX4_number_63 : decode cX4_number 63 = .ok (.ifCond .eq 12, 3) := by decide +kernel
theorem dX4_number_66 : decode cX4_number 66 = .ok (.aload_n 0, 1) := by decide +kernel
theorem dX4_number_67 : decode cX4_number 67 = .ok (.getfield 9, 3) := by decide +kernel
theorem dX4_number_70 : decode cX4_number 70 = .ok (.iload_n 1, 1) := by decide +kernel
theorem dX4_number_71 : decode cX4_number 71 = .ok (.iaload, 1) := by decide +kernel
theorem dX4_number_72 : decode cX4_number 72 = .ok (.goto 4, 3) := by decide +kernel
theorem dX4_number_75 : decode cX4_number 75 = .ok (.iconst (-1), 1) := by decide +kernel
theorem dX4_number_76 : decode cX4_number 76 = .ok (.ireturn, 1) := by decide +kernel
theorem dX4_height_0 : decode cX4_height 0 = .ok (.aload_n 0, 1) := by decide +kernel
theorem dX4_height_1 : decode cX4_height 1 = .ok (.getfield 9, 3) := by decide +kernel
theorem dX4_height_4 : decode cX4_height 4 = .ok (.bipush 10, 2) := by decide +kernel
theorem dX4_height_6 : decode cX4_height 6 = .ok (.iload_n 1, 1) := by decide +kernel
theorem dX4_height_7 : decode cX4_height 7 = .ok (.iadd, 1) := by decide +kernel
theorem dX4_height_8 : decode cX4_height 8 = .ok (.invokestatic 36, 3) := by decide +kernel
theorem dX4_height_11 : decode cX4_height 11 = .ok (.ireturn, 1) := by decide +kernel
theorem dX4_noise_0 : decode cX4_noise 0 = .ok (.aload_n 0, 1) := by decide +kernel
theorem dX4_noise_1 : decode cX4_noise 1 = .ok (.getfield 9, 3) := by decide +kernel
theorem dX4_noise_4 : decode cX4_noise 4 = .ok (.bipush 30, 2) := by decide +kernel
theorem dX4_noise_6 : decode cX4_noise 6 = .ok (.iload_n 1, 1) := by decide +kernel
theorem dX4_noise_7 : decode cX4_noise 7 = .ok (.iadd, 1) := by decide +kernel
theorem dX4_noise_8 : decode cX4_noise 8 = .ok (.invokestatic 36, 3) := by decide +kernel
theorem dX4_noise_11 : decode cX4_noise 11 = .ok (.iconst 1, 1) := by decide +kernel
theorem dX4_noise_12 : decode cX4_noise 12 = .ok (.aload_n 0, 1) := by decide +kernel
theorem dX4_noise_13 : decode cX4_noise 13 = .ok (.getfield 9, 3) := by decide +kernel
theorem dX4_noise_16 : decode cX4_noise 16 = .ok (.bipush 20, 2) := by decide +kernel
theorem dX4_noise_18 : decode cX4_noise 18 = .ok (.iload_n 1, 1) := by decide +kernel
theorem dX4_noise_19 : decode cX4_noise 19 = .ok (.iadd, 1) := by decide +kernel
theorem dX4_noise_20 : decode cX4_noise 20 = .ok (.invokestatic 36, 3) := by decide +kernel
theorem dX4_noise_23 : decode cX4_noise 23 = .ok (.iadd, 1) := by decide +kernel
theorem dX4_noise_24 : decode cX4_noise 24 = .ok (.invokestatic 40, 3) := by decide +kernel
theorem dX4_noise_27 : decode cX4_noise 27 = .ok (.ireturn, 1) := by decide +kernel
theorem dX4_own_0 : decode cX4_own 0 = .ok (.aload_n 0, 1) := by decide +kernel
theorem dX4_own_1 : decode cX4_own 1 = .ok (.getfield 9, 3) := by decide +kernel
theorem dX4_own_4 : decode cX4_own 4 = .ok (.bipush 40, 2) := by decide +kernel
theorem dX4_own_6 : decode cX4_own 6 = .ok (.iload_n 1, 1) := by decide +kernel
theorem dX4_own_7 : decode cX4_own 7 = .ok (.iadd, 1) := by decide +kernel
theorem dX4_own_8 : decode cX4_own 8 = .ok (.invokestatic 36, 3) := by decide +kernel
theorem dX4_own_11 : decode cX4_own 11 = .ok (.ireturn, 1) := by decide +kernel
theorem dX4_strength_0 : decode cX4_strength 0 = .ok (.aload_n 0, 1) := by decide +kernel
theorem dX4_strength_1 : decode cX4_strength 1 = .ok (.getfield 9, 3) := by decide +kernel
theorem dX4_strength_4 : decode cX4_strength 4 = .ok (.bipush 50, 2) := by decide +kernel
theorem dX4_strength_6 : decode cX4_strength 6 = .ok (.iload_n 1, 1) := by decide +kernel
theorem dX4_strength_7 : decode cX4_strength 7 = .ok (.iadd, 1) := by decide +kernel
theorem dX4_strength_8 : decode cX4_strength 8 = .ok (.invokestatic 36, 3) := by decide +kernel
theorem dX4_strength_11 : decode cX4_strength 11 = .ok (.ireturn, 1) := by decide +kernel
theorem dX4_apart_0 : decode cX4_apart 0 = .ok (.aload_n 0, 1) := by decide +kernel
theorem dX4_apart_1 : decode cX4_apart 1 = .ok (.getfield 15, 3) := by decide +kernel
theorem dX4_apart_4 : decode cX4_apart 4 = .ok (.bipush 10, 2) := by decide +kernel
theorem dX4_apart_6 : decode cX4_apart 6 = .ok (.iload_n 1, 1) := by decide +kernel
theorem dX4_apart_7 : decode cX4_apart 7 = .ok (.imul, 1) := by decide +kernel
theorem dX4_apart_8 : decode cX4_apart 8 = .ok (.iload_n 2, 1) := by decide +kernel
theorem dX4_apart_9 : decode cX4_apart 9 = .ok (.iadd, 1) := by decide +kernel
theorem dX4_apart_10 : decode cX4_apart 10 = .ok (.invokestatic 36, 3) := by decide +kernel
theorem dX4_apart_13 : decode cX4_apart 13 = .ok (.ireturn, 1) := by decide +kernel
theorem dX5_init_0 : decode cX5_init 0 = .ok (.aload_n 0, 1) := by decide +kernel
theorem dX5_init_1 : decode cX5_init 1 = .ok (.invokespecial 3, 3) := by decide +kernel
theorem dX5_init_4 : decode cX5_init 4 = .ok (.aload_n 0, 1) := by decide +kernel
theorem dX5_init_5 : decode cX5_init 5 = .ok (.new 9, 3) := by decide +kernel
theorem dX5_init_8 : decode cX5_init 8 = .ok (.dup, 1) := by decide +kernel
theorem dX5_init_9 : decode cX5_init 9 = .ok (.invokespecial 11, 3) := by decide +kernel
theorem dX5_init_12 : decode cX5_init 12 = .ok (.putfield 12, 3) := by decide +kernel
theorem dX5_init_15 : decode cX5_init 15 = .ok (.aload_n 0, 1) := by decide +kernel
theorem dX5_init_16 : decode cX5_init 16 = .ok (.new 18, 3) := by decide +kernel
theorem dX5_init_19 : decode cX5_init 19 = .ok (.dup, 1) := by decide +kernel
theorem dX5_init_20 : decode cX5_init 20 = .ok (.invokespecial 20, 3) := by decide +kernel
theorem dX5_init_23 : decode cX5_init 23 = .ok (.putfield 21, 3) := by decide +kernel
theorem dX5_init_26 : decode cX5_init 26 = .ok (.aload_n 0, 1) := by decide +kernel
theorem dX5_init_27 : decode cX5_init 27 = .ok (.new 25, 3) := by decide +kernel
theorem dX5_init_30 : decode cX5_init 30 = .ok (.dup, 1) := by decide +kernel
theorem dX5_init_31 : decode cX5_init 31 = .ok (.invokespecial 27, 3) := by decide +kernel
theorem dX5_init_34 : decode cX5_init 34 = .ok (.putfield 28, 3) := by decide +kernel
theorem dX5_init_37 : decode cX5_init 37 = .ok (.aload_n 0, 1) := by decide +kernel
theorem dX5_init_38 : decode cX5_init 38 = .ok (.bipush 6, 2) := by decide +kernel
theorem dX5_init_40 : decode cX5_init 40 = .ok (.newarray .int, 2) := by decide +kernel
theorem dX5_init_42 : decode cX5_init 42 = .ok (.putfield 32, 3) := by decide +kernel
theorem dX5_init_45 : decode cX5_init 45 = .ok (.aload_n 0, 1) := by decide +kernel
theorem dX5_init_46 : decode cX5_init 46 = .ok (.iconst 0, 1) := by decide +kernel
theorem dX5_init_47 : decode cX5_init 47 = .ok (.putfield 36, 3) := by decide +kernel
theorem dX5_init_50 : decode cX5_init 50 = .ok (.aload_n 0, 1) := by decide +kernel
theorem dX5_init_51 : decode cX5_init 51 = .ok (.iconst 0, 1) := by decide +kernel
theorem dX5_init_52 : decode cX5_init 52 = .ok (.putfield 40, 3) := by decide +kernel
theorem dX5_init_55 : decode cX5_init 55 = .ok (.aload_n 0, 1) := by decide +kernel
theorem dX5_init_56 : decode cX5_init 56 = .ok (.iconst 0, 1) := by decide +kernel
theorem dX5_init_57 : decode cX5_init 57 = .ok (.putfield 43, 3) := by decide +kernel
theorem dX5_init_60 : decode cX5_init 60 = .ok (.aload_n 0, 1) := by decide +kernel
theorem dX5_init_61 : decode cX5_init 61 = .ok (.iconst 0, 1) := by decide +kernel
theorem dX5_init_62 : decode cX5_init 62 = .ok (.putfield 46, 3) := by decide +kernel
theorem dX5_init_65 : decode cX5_init 65 = .ok (.aload_n 0, 1) := by decide +kernel
theorem dX5_init_66 : decode cX5_init 66 = .ok (.bipush 8, 2) := by decide +kernel
theorem dX5_init_68 : decode cX5_init 68 = .ok (.newarray .int, 2) := by decide +kernel
theorem dX5_init_70 : decode cX5_init 70 = .ok (.putfield 49, 3) := by decide +kernel
theorem dX5_init_73 : decode cX5_init 73 = .ok (.aload_n 0, 1) := by decide +kernel
theorem dX5_init_74 : decode cX5_init 74 = .ok (.bipush 8, 2) := by decide +kernel
theorem dX5_init_76 : decode cX5_init 76 = .ok (.newarray .int, 2) := by decide +kernel
theorem dX5_init_78 : decode cX5_init 78 = .ok (.putfield 52, 3) := by decide +kernel
theorem dX5_init_81 : decode cX5_init 81 = .ok (.return_, 1) := by decide +kernel
theorem dX5_bring_0 : decode cX5_bring 0 = .ok (.aload_n 1, 1) := by decide +kernel
theorem dX5_bring_1 : decode cX5_bring 1 = .ok (.iload_n 2, 1) := by decide +kernel
theorem dX5_bring_2 : decode cX5_bring 2 = .ok (.invokevirtual 55, 3) := by decide +kernel
theorem dX5_bring_5 : decode cX5_bring 5 = .ok (.astore 4, 2) := by decide +kernel
theorem dX5_bring_7 : decode cX5_bring 7 = .ok (.aload_n 1, 1) := by decide +kernel
theorem dX5_bring_8 : decode cX5_bring 8 = .ok (.iload_n 3, 1) := by decide +kernel
theorem dX5_bring_9 : decode cX5_bring 9 = .ok (.invokevirtual 61, 3) := by decide +kernel
theorem dX5_bring_12 : decode cX5_bring 12 = .ok (.astore 5, 2) := by decide +kernel
theorem dX5_bring_14 : decode cX5_bring 14 = .ok (.aload 4, 2) := by decide +kernel
theorem dX5_bring_16 : decode cX5_bring 16 = .ok (.ifnull 18, 3) := by decide +kernel
theorem dX5_bring_19 : decode cX5_bring 19 = .ok (.aload 5, 2) := by decide +kernel
theorem dX5_bring_21 : decode cX5_bring 21 = .ok (.ifnull 13, 3) := by decide +kernel
theorem dX5_bring_24 : decode cX5_bring 24 = .ok (.aload 5, 2) := by decide +kernel
theorem dX5_bring_26 : decode cX5_bring 26 = .ok (.aload 4, 2) := by decide +kernel
theorem dX5_bring_28 : decode cX5_bring 28 = .ok (.invokevirtual 65, 3) := by decide +kernel
theorem dX5_bring_31 : decode cX5_bring 31 = .ok (.ifCond .ne 5, 3) := by decide +kernel
theorem dX5_bring_34 : decode cX5_bring 34 = .ok (.iconst 0, 1) := by decide +kernel
theorem dX5_bring_35 : decode cX5_bring 35 = .ok (.ireturn, 1) := by decide +kernel
theorem dX5_bring_36 : decode cX5_bring 36 = .ok (.aload_n 0, 1) := by decide +kernel
theorem dX5_bring_37 : decode cX5_bring 37 = .ok (.aload 4, 2) := by decide +kernel
theorem dX5_bring_39 : decode cX5_bring 39 = .ok (.putfield 12, 3) := by decide +kernel
theorem dX5_bring_42 : decode cX5_bring 42 = .ok (.aload_n 0, 1) := by decide +kernel
theorem dX5_bring_43 : decode cX5_bring 43 = .ok (.aload 5, 2) := by decide +kernel
theorem dX5_bring_45 : decode cX5_bring 45 = .ok (.putfield 28, 3) := by decide +kernel
theorem dX5_bring_48 : decode cX5_bring 48 = .ok (.iconst 1, 1) := by decide +kernel
theorem dX5_bring_49 : decode cX5_bring 49 = .ok (.ireturn, 1) := by decide +kernel
theorem dX5_bring__0 : decode cX5_bring_ 0 = .ok (.aload_n 1, 1) := by decide +kernel
theorem dX5_bring__1 : decode cX5_bring_ 1 = .ok (.iload_n 3, 1) := by decide +kernel
theorem dX5_bring__2 : decode cX5_bring_ 2 = .ok (.invokevirtual 69, 3) := by decide +kernel
theorem dX5_bring__5 : decode cX5_bring_ 5 = .ok (.astore 5, 2) := by decide +kernel
theorem dX5_bring__7 : decode cX5_bring_ 7 = .ok (.aload 5, 2) := by decide +kernel
theorem dX5_bring__9 : decode cX5_bring_ 9 = .ok (.ifnull 14, 3) := by decide +kernel
theorem dX5_bring__12 : decode cX5_bring_ 12 = .ok (.aload_n 0, 1) := by decide +kernel
theorem dX5_bring__13 : decode cX5_bring_ 13 = .ok (.aload_n 1, 1) := by decide +kernel
theorem dX5_bring__14 : decode cX5_bring_ 14 = .ok (.iload_n 2, 1) := by decide +kernel
theorem dX5_bring__15 : decode cX5_bring_ 15 = .ok (.iload 4, 2) := by decide +kernel
theorem dX5_bring__17 : decode cX5_bring_ 17 = .ok (.invokevirtual 73, 3) := by decide +kernel
theorem dX5_bring__20 : decode cX5_bring_ 20 = .ok (.ifCond .ne 5, 3) := by decide +kernel
theorem dX5_bring__23 : decode cX5_bring_ 23 = .ok (.iconst 0, 1) := by decide +kernel
theorem dX5_bring__24 : decode cX5_bring_ 24 = .ok (.ireturn, 1) := by decide +kernel
theorem dX5_bring__25 : decode cX5_bring_ 25 = .ok (.aload_n 0, 1) := by decide +kernel
theorem dX5_bring__26 : decode cX5_bring_ 26 = .ok (.aload 5, 2) := by decide +kernel
theorem dX5_bring__28 : decode cX5_bring_ 28 = .ok (.putfield 21, 3) := by decide +kernel
theorem dX5_bring__31 : decode cX5_bring_ 31 = .ok (.iconst 1, 1) := by decide +kernel
theorem dX5_bring__32 : decode cX5_bring_ 32 = .ok (.ireturn, 1) := by decide +kernel
theorem dX5_worthOf_0 : decode cX5_worthOf 0 = .ok (.aload_n 0, 1) := by decide +kernel
theorem dX5_worthOf_1 : decode cX5_worthOf 1 = .ok (.getfield 32, 3) := by decide +kernel
theorem dX5_worthOf_4 : decode cX5_worthOf 4 = .ok (.iload_n 1, 1) := by decide +kernel
theorem dX5_worthOf_5 : decode cX5_worthOf 5 = .ok (.invokestatic 77, 3) := by decide +kernel
theorem dX5_worthOf_8 : decode cX5_worthOf 8 = .ok (.ireturn, 1) := by decide +kernel
theorem dX5_lead_0 : decode cX5_lead 0 = .ok (.aload_n 0, 1) := by decide +kernel
theorem dX5_lead_1 : decode cX5_lead 1 = .ok (.getfield 12, 3) := by decide +kernel
theorem dX5_lead_4 : decode cX5_lead 4 = .ok (.aload_n 0, 1) := by decide +kernel
theorem dX5_lead_5 : decode cX5_lead 5 = .ok (.getfield 28, 3) := by decide +kernel
theorem dX5_lead_8 : decode cX5_lead 8 = .ok (.iload_n 1, 1) := by decide +kernel
theorem dX5_lead_9 : decode cX5_lead 9 = .ok (.iconst 0, 1) := by decide +kernel
theorem dX5_lead_10 : decode cX5_lead 10 = .ok (.invokevirtual 81, 3) := by decide +kernel
theorem dX5_lead_13 : decode cX5_lead 13 = .ok (.invokevirtual 85, 3) := by decide +kernel
theorem dX5_lead_16 : decode cX5_lead 16 = .ok (.aload_n 0, 1) := by decide +kernel
theorem dX5_lead_17 : decode cX5_lead 17 = .ok (.getfield 12, 3) := by decide +kernel
theorem dX5_lead_20 : decode cX5_lead 20 = .ok (.aload_n 0, 1) := by decide +kernel
theorem dX5_lead_21 : decode cX5_lead 21 = .ok (.getfield 28, 3) := by decide +kernel
theorem dX5_lead_24 : decode cX5_lead 24 = .ok (.iload_n 1, 1) := by decide +kernel
theorem dX5_lead_25 : decode cX5_lead 25 = .ok (.iconst 1, 1) := by decide +kernel
theorem dX5_lead_26 : decode cX5_lead 26 = .ok (.invokevirtual 81, 3) := by decide +kernel
theorem dX5_lead_29 : decode cX5_lead 29 = .ok (.invokevirtual 85, 3) := by decide +kernel
theorem dX5_lead_32 : decode cX5_lead 32 = .ok (.isub, 1) := by decide +kernel
theorem dX5_lead_33 : decode cX5_lead 33 = .ok (.ireturn, 1) := by decide +kernel
theorem dX5_groundOf_0 : decode cX5_groundOf 0 = .ok (.aload_n 0, 1) := by decide +kernel
theorem dX5_groundOf_1 : decode cX5_groundOf 1 = .ok (.getfield 28, 3) := by decide +kernel
theorem dX5_groundOf_4 : decode cX5_groundOf 4 = .ok (.iload_n 1, 1) := by decide +kernel
theorem dX5_groundOf_5 : decode cX5_groundOf 5 = .ok (.iconst 5, 1) := by decide +kernel
theorem dX5_groundOf_6 : decode cX5_groundOf 6 = .ok (.invokevirtual 81, 3) := by decide +kernel
theorem dX5_groundOf_9 : decode cX5_groundOf 9 = .ok (.istore_n 3, 1) := by decide +kernel
theorem dX5_groundOf_10 : decode cX5_groundOf 10 = .ok (.iload_n 3, 1) := by decide +kernel
theorem dX5_groundOf_11 : decode cX5_groundOf 11 = .ok (.iconst (-1), 1) := by decide +kernel
theorem dX5_groundOf_12 : decode cX5_groundOf 12 = .ok (.if_icmp .ne 14, 3) := by decide +kernel
theorem dX5_groundOf_15 : decode cX5_groundOf 15 = .ok (.aload_n 0, 1) := by decide +kernel
theorem dX5_groundOf_16 : decode cX5_groundOf 16 = .ok (.getfield 12, 3) := by decide +kernel
theorem dX5_groundOf_19 : decode cX5_groundOf 19 = .ok (.iload_n 2, 1) := by decide +kernel
theorem dX5_groundOf_20 : decode cX5_groundOf 20 = .ok (.invokevirtual 89, 3) := by decide +kernel
theorem dX5_groundOf_23 : decode cX5_groundOf 23 = .ok (.goto 4, 3) := by decide +kernel
theorem dX5_groundOf_26 : decode cX5_groundOf 26 = .ok (.iload_n 3, 1) := by decide +kernel
theorem dX5_groundOf_27 : decode cX5_groundOf 27 = .ok (.ireturn, 1) := by decide +kernel
theorem dX5_weigh_0 : decode cX5_weigh 0 = .ok (.aload_n 0, 1) := by decide +kernel
theorem dX5_weigh_1 : decode cX5_weigh 1 = .ok (.getfield 28, 3) := by decide +kernel
theorem dX5_weigh_4 : decode cX5_weigh 4 = .ok (.iload_n 1, 1) := by decide +kernel
theorem dX5_weigh_5 : decode cX5_weigh 5 = .ok (.iconst 0, 1) := by decide +kernel
theorem dX5_weigh_6 : decode cX5_weigh 6 = .ok (.invokevirtual 81, 3) := by decide +kernel
theorem dX5_weigh_9 : decode cX5_weigh 9 = .ok (.istore_n 2, 1) := by decide +kernel
theorem dX5_weigh_10 : decode cX5_weigh 10 = .ok (.aload_n 0, 1) := by decide +kernel
theorem dX5_weigh_11 : decode cX5_weigh 11 = .ok (.getfield 28, 3) := by decide +kernel
theorem dX5_weigh_14 : decode cX5_weigh 14 = .ok (.iload_n 1, 1) := by decide +kernel
theorem dX5_weigh_15 : decode cX5_weigh 15 = .ok (.iconst 1, 1) := by decide +kernel
theorem dX5_weigh_16 : decode cX5_weigh 16 = .ok (.invokevirtual 81, 3) := by decide +kernel
theorem dX5_weigh_19 : decode cX5_weigh 19 = .ok (.istore_n 3, 1) := by decide +kernel
theorem dX5_weigh_20 : decode cX5_weigh 20 = .ok (.aload_n 0, 1) := by decide +kernel
theorem dX5_weigh_21 : decode cX5_weigh 21 = .ok (.iload_n 1, 1) := by decide +kernel
theorem dX5_weigh_22 : decode cX5_weigh 22 = .ok (.iload_n 2, 1) := by decide +kernel
theorem dX5_weigh_23 : decode cX5_weigh 23 = .ok (.invokevirtual 92, 3) := by decide +kernel
theorem dX5_weigh_26 : decode cX5_weigh 26 = .ok (.istore 4, 2) := by decide +kernel
theorem dX5_weigh_28 : decode cX5_weigh 28 = .ok (.aload_n 0, 1) := by decide +kernel
theorem dX5_weigh_29 : decode cX5_weigh 29 = .ok (.getfield 12, 3) := by decide +kernel
theorem dX5_weigh_32 : decode cX5_weigh 32 = .ok (.iload_n 3, 1) := by decide +kernel
theorem dX5_weigh_33 : decode cX5_weigh 33 = .ok (.invokevirtual 89, 3) := by decide +kernel
theorem dX5_weigh_36 : decode cX5_weigh 36 = .ok (.istore 5, 2) := by decide +kernel
theorem dX5_weigh_38 : decode cX5_weigh 38 = .ok (.aload_n 0, 1) := by decide +kernel
theorem dX5_weigh_39 : decode cX5_weigh 39 = .ok (.aload_n 0, 1) := by decide +kernel
theorem dX5_weigh_40 : decode cX5_weigh 40 = .ok (.getfield 28, 3) := by decide +kernel
theorem dX5_weigh_43 : decode cX5_weigh 43 = .ok (.iload_n 1, 1) := by decide +kernel
theorem dX5_weigh_44 : decode cX5_weigh 44 = .ok (.iconst 3, 1) := by decide +kernel
theorem dX5_weigh_45 : decode cX5_weigh 45 = .ok (.invokevirtual 81, 3) := by decide +kernel
theorem dX5_weigh_48 : decode cX5_weigh 48 = .ok (.iconst 1, 1) := by decide +kernel
theorem dX5_weigh_49 : decode cX5_weigh 49 = .ok (.if_icmp .ne 15, 3) := by decide +kernel
theorem dX5_weigh_52 : decode cX5_weigh 52 = .ok (.aload_n 0, 1) := by decide +kernel
theorem dX5_weigh_53 : decode cX5_weigh 53 = .ok (.getfield 12, 3) := by decide +kernel
theorem dX5_weigh_56 : decode cX5_weigh 56 = .ok (.iload 4, 2) := by decide +kernel
theorem dX5_weigh_58 : decode cX5_weigh 58 = .ok (.invokevirtual 95, 3) := by decide +kernel
theorem dX5_weigh_61 : decode cX5_weigh 61 = .ok (.goto 4, 3) := by decide +kernel
theorem dX5_weigh_64 : decode cX5_weigh 64 = .ok (.iconst 0, 1) := by decide +kernel
theorem dX5_weigh_65 : decode cX5_weigh 65 = .ok (.putfield 40, 3) := by decide +kernel
theorem dX5_weigh_68 : decode cX5_weigh 68 = .ok (.aload_n 0, 1) := by decide +kernel
theorem dX5_weigh_69 : decode cX5_weigh 69 = .ok (.getfield 32, 3) := by decide +kernel
theorem dX5_weigh_72 : decode cX5_weigh 72 = .ok (.iconst 0, 1) := by decide +kernel
theorem dX5_weigh_73 : decode cX5_weigh 73 = .ok (.aload_n 0, 1) := by decide +kernel
theorem dX5_weigh_74 : decode cX5_weigh 74 = .ok (.getfield 21, 3) := by decide +kernel
theorem dX5_weigh_77 : decode cX5_weigh 77 = .ok (.iconst 0, 1) := by decide +kernel
theorem dX5_weigh_78 : decode cX5_weigh 78 = .ok (.iload 4, 2) := by decide +kernel
theorem dX5_weigh_80 : decode cX5_weigh 80 = .ok (.aload_n 0, 1) := by decide +kernel
theorem dX5_weigh_81 : decode cX5_weigh 81 = .ok (.getfield 12, 3) := by decide +kernel
theorem dX5_weigh_84 : decode cX5_weigh 84 = .ok (.iload_n 2, 1) := by decide +kernel
theorem dX5_weigh_85 : decode cX5_weigh 85 = .ok (.invokevirtual 89, 3) := by decide +kernel
theorem dX5_weigh_88 : decode cX5_weigh 88 = .ok (.if_icmp .ne 14, 3) := by decide +kernel
theorem dX5_weigh_91 : decode cX5_weigh 91 = .ok (.iload 4, 2) := by decide +kernel
theorem dX5_weigh_93 : decode cX5_weigh 93 = .ok (.iload 5, 2) := by decide +kernel
theorem dX5_weigh_95 : decode cX5_weigh 95 = .ok (.if_icmp .eq 7, 3) := by decide +kernel
theorem dX5_weigh_98 : decode cX5_weigh 98 = .ok (.iconst 1, 1) := by decide +kernel
theorem dX5_weigh_99 : decode cX5_weigh 99 = .ok (.goto 4, 3) := by decide +kernel
theorem dX5_weigh_102 : decode cX5_weigh 102 = .ok (.iconst 0, 1) := by decide +kernel
theorem dX5_weigh_103 : decode cX5_weigh 103 = .ok (.invokevirtual 98, 3) := by decide +kernel
theorem dX5_weigh_106 : decode cX5_weigh 106 = .ok (.iastore, 1) := by decide +kernel
theorem dX5_weigh_107 : decode cX5_weigh 107 = .ok (.aload_n 0, 1) := by decide +kernel
theorem dX5_weigh_108 : decode cX5_weigh 108 = .ok (.getfield 32, 3) := by decide +kernel
theorem dX5_weigh_111 : decode cX5_weigh 111 = .ok (.iconst 1, 1) := by decide +kernel
theorem dX5_weigh_112 : decode cX5_weigh 112 = .ok (.aload_n 0, 1) := by decide +kernel
theorem dX5_weigh_113 : decode cX5_weigh 113 = .ok (.getfield 21, 3) := by decide +kernel
theorem dX5_weigh_116 : decode cX5_weigh 116 = .ok (.iconst 1, 1) := by decide +kernel
theorem dX5_weigh_117 : decode cX5_weigh 117 = .ok (.aload_n 0, 1) := by decide +kernel
theorem dX5_weigh_118 : decode cX5_weigh 118 = .ok (.getfield 12, 3) := by decide +kernel
theorem dX5_weigh_121 : decode cX5_weigh 121 = .ok (.iload 5, 2) := by decide +kernel
theorem dX5_weigh_123 : decode cX5_weigh 123 = .ok (.iload 4, 2) := by decide +kernel
theorem dX5_weigh_125 : decode cX5_weigh 125 = .ok (.invokevirtual 101, 3) := by decide +kernel
theorem dX5_weigh_128 : decode cX5_weigh 128 = .ok (.aload_n 0, 1) := by decide +kernel
theorem dX5_weigh_129 : decode cX5_weigh 129 = .ok (.getfield 21, 3) := by decide +kernel
theorem dX5_weigh_132 : decode cX5_weigh 132 = .ok (.iconst 1, 1) := by decide +kernel
theorem dX5_weigh_133 : decode cX5_weigh 133 = .ok (.invokevirtual 104, 3) := by decide +kernel
theorem dX5_weigh_136 : decode cX5_weigh 136 = .ok (.invokestatic 107, 3) := by decide +kernel
theorem dX5_weigh_139 : decode cX5_weigh 139 = .ok (.invokevirtual 98, 3) := by decide +kernel
theorem dX5_weigh_142 : decode cX5_weigh 142 = .ok (.iastore, 1) := by decide +kernel
theorem dX5_weigh_143 : decode cX5_weigh 143 = .ok (.aload_n 0, 1) := by decide +kernel
theorem dX5_weigh_144 : decode cX5_weigh 144 = .ok (.getfield 28, 3) := by decide +kernel
theorem dX5_weigh_147 : decode cX5_weigh 147 = .ok (.iload_n 1, 1) := by decide +kernel
theorem dX5_weigh_148 : decode cX5_weigh 148 = .ok (.iload_n 3, 1) := by decide +kernel
theorem dX5_weigh_149 : decode cX5_weigh 149 = .ok (.invokevirtual 110, 3) := by decide +kernel
theorem dX5_weigh_152 : decode cX5_weigh 152 = .ok (.aload_n 0, 1) := by decide +kernel
theorem dX5_weigh_153 : decode cX5_weigh 153 = .ok (.getfield 21, 3) := by decide +kernel
theorem dX5_weigh_156 : decode cX5_weigh 156 = .ok (.iconst 2, 1) := by decide +kernel
theorem dX5_weigh_157 : decode cX5_weigh 157 = .ok (.invokevirtual 104, 3) := by decide +kernel
theorem dX5_weigh_160 : decode cX5_weigh 160 = .ok (.if_icmp .ge 27, 3) := by decide +kernel
theorem dX5_weigh_163 : decode cX5_weigh 163 = .ok (.aload_n 0, 1) := by decide +kernel
theorem dX5_weigh_164 : decode cX5_weigh 164 = .ok (.getfield 28, 3) := by decide +kernel
theorem dX5_weigh_167 : decode cX5_weigh 167 = .ok (.iload_n 1, 1) := by decide +kernel
theorem dX5_weigh_168 : decode cX5_weigh 168 = .ok (.iload_n 2, 1) := by decide +kernel
theorem dX5_weigh_169 : decode cX5_weigh 169 = .ok (.invokevirtual 110, 3) := by decide +kernel
theorem dX5_weigh_172 : decode cX5_weigh 172 = .ok (.aload_n 0, 1) := by decide +kernel
theorem dX5_weigh_173 : decode cX5_weigh 173 = .ok (.getfield 21, 3) := by decide +kernel
theorem dX5_weigh_176 : decode cX5_weigh 176 = .ok (.iconst 2, 1) := by decide +kernel
theorem dX5_weigh_177 : decode cX5_weigh 177 = .ok (.invokevirtual 104, 3) := by decide +kernel
theorem dX5_weigh_180 : decode cX5_weigh 180 = .ok (.if_icmp .lt 7, 3) := by decide +kernel
theorem dX5_weigh_183 : decode cX5_weigh 183 = .ok (.iconst 1, 1) := by decide +kernel
theorem dX5_weigh_184 : decode cX5_weigh 184 = .ok (.goto 4, 3) := by decide +kernel
theorem dX5_weigh_187 : decode cX5_weigh 187 = .ok (.iconst 0, 1) := by decide +kernel
theorem dX5_weigh_188 : decode cX5_weigh 188 = .ok (.istore 6, 2) := by decide +kernel
theorem dX5_weigh_190 : decode cX5_weigh 190 = .ok (.aload_n 0, 1) := by decide +kernel
theorem dX5_weigh_191 : decode cX5_weigh 191 = .ok (.getfield 32, 3) := by decide +kernel
theorem dX5_weigh_194 : decode cX5_weigh 194 = .ok (.iconst 2, 1) := by decide +kernel
theorem dX5_weigh_195 : decode cX5_weigh 195 = .ok (.aload_n 0, 1) := by decide +kernel
theorem dX5_weigh_196 : decode cX5_weigh 196 = .ok (.getfield 21, 3) := by decide +kernel
theorem dX5_weigh_199 : decode cX5_weigh 199 = .ok (.iconst 2, 1) := by decide +kernel
theorem dX5_weigh_200 : decode cX5_weigh 200 = .ok (.iload 6, 2) := by decide +kernel
theorem dX5_weigh_202 : decode cX5_weigh 202 = .ok (.ifCond .eq 7, 3) := by decide +kernel
theorem dX5_weigh_205 : decode cX5_weigh 205 = .ok (.iconst 1, 1) := by decide +kernel
theorem dX5_weigh_206 : decode cX5_weigh 206 = .ok (.goto 4, 3) := by decide +kernel
theorem dX5_weigh_209 : decode cX5_weigh 209 = .ok (.iconst 0, 1) := by decide +kernel
theorem dX5_weigh_210 : decode cX5_weigh 210 = .ok (.invokevirtual 98, 3) := by decide +kernel
theorem dX5_weigh_213 : decode cX5_weigh 213 = .ok (.iastore, 1) := by decide +kernel
theorem dX5_weigh_214 : decode cX5_weigh 214 = .ok (.aload_n 0, 1) := by decide +kernel
theorem dX5_weigh_215 : decode cX5_weigh 215 = .ok (.getfield 32, 3) := by decide +kernel
theorem dX5_weigh_218 : decode cX5_weigh 218 = .ok (.iconst 3, 1) := by decide +kernel
theorem dX5_weigh_219 : decode cX5_weigh 219 = .ok (.aload_n 0, 1) := by decide +kernel
theorem dX5_weigh_220 : decode cX5_weigh 220 = .ok (.getfield 21, 3) := by decide +kernel
theorem dX5_weigh_223 : decode cX5_weigh 223 = .ok (.iconst 3, 1) := by decide +kernel
theorem dX5_weigh_224 : decode cX5_weigh 224 = .ok (.aload_n 0, 1) := by decide +kernel
theorem dX5_weigh_225 : decode cX5_weigh 225 = .ok (.getfield 40, 3) := by decide +kernel
theorem dX5_weigh_228 : decode cX5_weigh 228 = .ok (.aload_n 0, 1) := by decide +kernel
theorem dX5_weigh_229 : decode cX5_weigh 229 = .ok (.getfield 21, 3) := by decide +kernel
theorem dX5_weigh_232 : decode cX5_weigh 232 = .ok (.iconst 3, 1) := by decide +kernel
theorem dX5_weigh_233 : decode cX5_weigh 233 = .ok (.invokevirtual 104, 3) := by decide +kernel
theorem dX5_weigh_236 : decode cX5_weigh 236 = .ok (.invokestatic 107, 3) := by decide +kernel
theorem dX5_weigh_239 : decode cX5_weigh 239 = .ok (.invokevirtual 98, 3) := by decide +kernel
theorem dX5_weigh_242 : decode cX5_weigh 242 = .ok (.iastore, 1) := by decide +kernel
theorem dX5_weigh_243 : decode cX5_weigh 243 = .ok (.aload_n 0, 1) := by decide +kernel
theorem dX5_weigh_244 : decode cX5_weigh 244 = .ok (.getfield 32, 3) := by decide +kernel
theorem dX5_weigh_247 : decode cX5_weigh 247 = .ok (.iconst 4, 1) := by decide +kernel
theorem dX5_weigh_248 : decode cX5_weigh 248 = .ok (.aload_n 0, 1) := by decide +kernel
theorem dX5_weigh_249 : decode cX5_weigh 249 = .ok (.getfield 21, 3) := by decide +kernel
theorem dX5_weigh_252 : decode cX5_weigh 252 = .ok (.iconst 4, 1) := by decide +kernel
theorem dX5_weigh_253 : decode cX5_weigh 253 = .ok (.aload_n 0, 1) := by decide +kernel
theorem dX5_weigh_254 : decode cX5_weigh 254 = .ok (.getfield 28, 3) := by decide +kernel
theorem dX5_weigh_257 : decode cX5_weigh 257 = .ok (.iload_n 1, 1) := by decide +kernel
theorem dX5_weigh_258 : decode cX5_weigh 258 = .ok (.iconst 4, 1) := by decide +kernel
theorem dX5_weigh_259 : decode cX5_weigh 259 = .ok (.invokevirtual 81, 3) := by decide +kernel
theorem dX5_weigh_262 : decode cX5_weigh 262 = .ok (.iconst 1, 1) := by decide +kernel
theorem dX5_weigh_263 : decode cX5_weigh 263 = .ok (.if_icmp .ne 21, 3) := by decide +kernel
theorem dX5_weigh_266 : decode cX5_weigh 266 = .ok (.aload_n 0, 1) := by decide +kernel
theorem dX5_weigh_267 : decode cX5_weigh 267 = .ok (.getfield 40, 3) := by decide +kernel
theorem dX5_weigh_270 : decode cX5_weigh 270 = .ok (.aload_n 0, 1) := by decide +kernel
theorem dX5_weigh_271 : decode cX5_weigh 271 = .ok (.getfield 21, 3) := by decide +kernel
theorem dX5_weigh_274 : decode cX5_weigh 274 = .ok (.iconst 4, 1) := by decide +kernel
theorem dX5_weigh_275 : decode cX5_weigh 275 = .ok (.invokevirtual 104, 3) := by decide +kernel
theorem dX5_weigh_278 : decode cX5_weigh 278 = .ok (.invokestatic 107, 3) := by decide +kernel
theorem dX5_weigh_281 : decode cX5_weigh 281 = .ok (.goto 4, 3) := by decide +kernel
theorem dX5_weigh_284 : decode cX5_weigh 284 = .ok (.iconst 0, 1) := by decide +kernel
theorem dX5_weigh_285 : decode cX5_weigh 285 = .ok (.invokevirtual 98, 3) := by decide +kernel
theorem dX5_weigh_288 : decode cX5_weigh 288 = .ok (.iastore, 1) := by decide +kernel
theorem dX5_weigh_289 : decode cX5_weigh 289 = .ok (.iconst 0, 1) := by decide +kernel
theorem dX5_weigh_290 : decode cX5_weigh 290 = .ok (.aload_n 0, 1) := by decide +kernel
theorem dX5_weigh_291 : decode cX5_weigh 291 = .ok (.getfield 12, 3) := by decide +kernel
theorem dX5_weigh_294 : decode cX5_weigh 294 = .ok (.iload 4, 2) := by decide +kernel
theorem dX5_weigh_296 : decode cX5_weigh 296 = .ok (.invokevirtual 113, 3) := by decide +kernel
theorem dX5_weigh_299 : decode cX5_weigh 299 = .ok (.aload_n 0, 1) := by decide +kernel
theorem dX5_weigh_300 : decode cX5_weigh 300 = .ok (.getfield 12, 3) := by decide +kernel
theorem dX5_weigh_303 : decode cX5_weigh 303 = .ok (.iload 5, 2) := by decide +kernel
theorem dX5_weigh_305 : decode cX5_weigh 305 = .ok (.invokevirtual 113, 3) := by decide +kernel
theorem dX5_weigh_308 : decode cX5_weigh 308 = .ok (.isub, 1) := by decide +kernel
theorem dX5_weigh_309 : decode cX5_weigh 309 = .ok (.invokestatic 116, 3) := by decide +kernel
theorem dX5_weigh_312 : decode cX5_weigh 312 = .ok (.istore 7, 2) := by decide +kernel
theorem dX5_weigh_314 : decode cX5_weigh 314 = .ok (.aload_n 0, 1) := by decide +kernel
theorem dX5_weigh_315 : decode cX5_weigh 315 = .ok (.getfield 32, 3) := by decide +kernel
theorem dX5_weigh_318 : decode cX5_weigh 318 = .ok (.iconst 5, 1) := by decide +kernel
theorem dX5_weigh_319 : decode cX5_weigh 319 = .ok (.aload_n 0, 1) := by decide +kernel
theorem dX5_weigh_320 : decode cX5_weigh 320 = .ok (.getfield 21, 3) := by decide +kernel
theorem dX5_weigh_323 : decode cX5_weigh 323 = .ok (.iconst 5, 1) := by decide +kernel
theorem dX5_weigh_324 : decode cX5_weigh 324 = .ok (.iload 7, 2) := by decide +kernel
theorem dX5_weigh_326 : decode cX5_weigh 326 = .ok (.aload_n 0, 1) := by decide +kernel
theorem dX5_weigh_327 : decode cX5_weigh 327 = .ok (.getfield 21, 3) := by decide +kernel
theorem dX5_weigh_330 : decode cX5_weigh 330 = .ok (.iconst 5, 1) := by decide +kernel
theorem dX5_weigh_331 : decode cX5_weigh 331 = .ok (.invokevirtual 104, 3) := by decide +kernel
theorem dX5_weigh_334 : decode cX5_weigh 334 = .ok (.invokestatic 107, 3) := by decide +kernel
theorem dX5_weigh_337 : decode cX5_weigh 337 = .ok (.invokevirtual 98, 3) := by decide +kernel
theorem dX5_weigh_340 : decode cX5_weigh 340 = .ok (.iastore, 1) := by decide +kernel
theorem dX5_weigh_341 : decode cX5_weigh 341 = .ok (.aload_n 0, 1) := by decide +kernel
theorem dX5_weigh_342 : decode cX5_weigh 342 = .ok (.iload_n 1, 1) := by decide +kernel
theorem dX5_weigh_343 : decode cX5_weigh 343 = .ok (.invokevirtual 121, 3) := by decide +kernel
theorem dX5_weigh_346 : decode cX5_weigh 346 = .ok (.return_, 1) := by decide +kernel
theorem dX5_drop_0 : decode cX5_drop 0 = .ok (.aload_n 0, 1) := by decide +kernel
theorem dX5_drop_1 : decode cX5_drop 1 = .ok (.getfield 32, 3) := by decide +kernel
theorem dX5_drop_4 : decode cX5_drop 4 = .ok (.iload_n 2, 1) := by decide +kernel
theorem dX5_drop_5 : decode cX5_drop 5 = .ok (.iconst 0, 1) := by decide +kernel
theorem dX5_drop_6 : decode cX5_drop 6 = .ok (.invokestatic 125, 3) := by decide +kernel
theorem dX5_drop_9 : decode cX5_drop 9 = .ok (.aload_n 0, 1) := by decide +kernel
theorem dX5_drop_10 : decode cX5_drop 10 = .ok (.iload_n 1, 1) := by decide +kernel
theorem dX5_drop_11 : decode cX5_drop 11 = .ok (.invokevirtual 121, 3) := by decide +kernel
theorem dX5_drop_14 : decode cX5_drop 14 = .ok (.return_, 1) := by decide +kernel
theorem dX5_aim_0 : decode cX5_aim 0 = .ok (.aload_n 0, 1) := by decide +kernel
theorem dX5_aim_1 : decode cX5_aim 1 = .ok (.iconst 0, 1) := by decide +kernel
theorem dX5_aim_2 : decode cX5_aim 2 = .ok (.putfield 36, 3) := by decide +kernel
theorem dX5_aim_5 : decode cX5_aim 5 = .ok (.iconst 0, 1) := by decide +kernel
theorem dX5_aim_6 : decode cX5_aim 6 = .ok (.istore_n 2, 1) := by decide +kernel
theorem dX5_aim_7 : decode cX5_aim 7 = .ok (.iload_n 2, 1) := by decide +kernel
theorem dX5_aim_8 : decode cX5_aim 8 = .ok (.bipush 6, 2) := by decide +kernel
theorem dX5_aim_10 : decode cX5_aim 10 = .ok (.if_icmp .ge 24, 3) := by decide +kernel
theorem dX5_aim_13 : decode cX5_aim 13 = .ok (.aload_n 0, 1) := by decide +kernel
theorem dX5_aim_14 : decode cX5_aim 14 = .ok (.dup, 1) := by decide +kernel
theorem dX5_aim_15 : decode cX5_aim 15 = .ok (.getfield 36, 3) := by decide +kernel
theorem dX5_aim_18 : decode cX5_aim 18 = .ok (.aload_n 0, 1) := by decide +kernel
theorem dX5_aim_19 : decode cX5_aim 19 = .ok (.getfield 32, 3) := by decide +kernel
theorem dX5_aim_22 : decode cX5_aim 22 = .ok (.iload_n 2, 1) := by decide +kernel
theorem dX5_aim_23 : decode cX5_aim 23 = .ok (.iaload, 1) := by decide +kernel
theorem dX5_aim_24 : decode cX5_aim 24 = .ok (.iadd, 1) := by decide +kernel
theorem dX5_aim_25 : decode cX5_aim 25 = .ok (.putfield 36, 3) := by decide +kernel
theorem dX5_aim_28 : decode cX5_aim 28 = .ok (.iinc 2 1, 3) := by decide +kernel
theorem dX5_aim_31 : decode cX5_aim 31 = .ok (.goto (-24), 3) := by decide +kernel
theorem dX5_aim_34 : decode cX5_aim 34 = .ok (.aload_n 0, 1) := by decide +kernel
theorem dX5_aim_35 : decode cX5_aim 35 = .ok (.aload_n 0, 1) := by decide +kernel
theorem dX5_aim_36 : decode cX5_aim 36 = .ok (.getfield 21, 3) := by decide +kernel
theorem dX5_aim_39 : decode cX5_aim 39 = .ok (.invokevirtual 129, 3) := by decide +kernel
theorem dX5_aim_42 : decode cX5_aim 42 = .ok (.aload_n 0, 1) := by decide +kernel
theorem dX5_aim_43 : decode cX5_aim 43 = .ok (.iload_n 1, 1) := by decide +kernel
theorem dX5_aim_44 : decode cX5_aim 44 = .ok (.invokevirtual 133, 3) := by decide +kernel
theorem dX5_aim_47 : decode cX5_aim 47 = .ok (.iadd, 1) := by decide +kernel
theorem dX5_aim_48 : decode cX5_aim 48 = .ok (.aload_n 0, 1) := by decide +kernel
theorem dX5_aim_49 : decode cX5_aim 49 = .ok (.getfield 36, 3) := by decide +kernel
theorem dX5_aim_52 : decode cX5_aim 52 = .ok (.iadd, 1) := by decide +kernel
theorem dX5_aim_53 : decode cX5_aim 53 = .ok (.invokestatic 136, 3) := by decide +kernel
theorem dX5_aim_56 : decode cX5_aim 56 = .ok (.putfield 43, 3) := by decide +kernel
theorem dX5_aim_59 : decode cX5_aim 59 = .ok (.aload_n 0, 1) := by decide +kernel
theorem dX5_aim_60 : decode cX5_aim 60 = .ok (.aload_n 0, 1) := by decide +kernel
theorem dX5_aim_61 : decode cX5_aim 61 = .ok (.getfield 21, 3) := by decide +kernel
theorem dX5_aim_64 : decode cX5_aim 64 = .ok (.invokevirtual 129, 3) := by decide +kernel
theorem dX5_aim_67 : decode cX5_aim 67 = .ok (.aload_n 0, 1) := by decide +kernel
theorem dX5_aim_68 : decode cX5_aim 68 = .ok (.iload_n 1, 1) := by decide +kernel
theorem dX5_aim_69 : decode cX5_aim 69 = .ok (.invokevirtual 133, 3) := by decide +kernel
theorem dX5_aim_72 : decode cX5_aim 72 = .ok (.isub, 1) := by decide +kernel
theorem dX5_aim_73 : decode cX5_aim 73 = .ok (.invokestatic 136, 3) := by decide +kernel
theorem dX5_aim_76 : decode cX5_aim 76 = .ok (.putfield 46, 3) := by decide +kernel
theorem dX5_aim_79 : decode cX5_aim 79 = .ok (.return_, 1) := by decide +kernel
theorem dX5_percent_0 : decode cX5_percent 0 = .ok (.iconst 0, 1) := by decide +kernel
theorem dX5_percent_1 : decode cX5_percent 1 = .ok (.bipush 100, 2) := by decide +kernel
theorem dX5_percent_3 : decode cX5_percent 3 = .ok (.iload_n 0, 1) := by decide +kernel
theorem dX5_percent_4 : decode cX5_percent 4 = .ok (.invokestatic 139, 3) := by decide +kernel
theorem dX5_percent_7 : decode cX5_percent 7 = .ok (.invokestatic 116, 3) := by decide +kernel
theorem dX5_percent_10 : decode cX5_percent 10 = .ok (.ireturn, 1) := by decide +kernel
theorem dX5_shots_0 : decode cX5_shots 0 = .ok (.iload_n 1, 1) := by decide +kernel
theorem dX5_shots_1 : decode cX5_shots 1 = .ok (.iconst 1, 1) := by decide +kernel
theorem dX5_shots_2 : decode cX5_shots 2 = .ok (.if_icmp .eq 8, 3) := by decide +kernel
theorem dX5_shots_5 : decode cX5_shots 5 = .ok (.iload_n 1, 1) := by decide +kernel
theorem dX5_shots_6 : decode cX5_shots 6 = .ok (.iconst 2, 1) := by decide +kernel
theorem dX5_shots_7 : decode cX5_shots 7 = .ok (.if_icmp .ne 9, 3) := by decide +kernel
theorem dX5_shots_10 : decode cX5_shots 10 = .ok (.ldc2_w 142, 3) := by decide +kernel
theorem dX5_shots_13 : decode cX5_shots 13 = .ok (.goto 4, 3) := by decide +kernel
theorem dX5_shots_16 : decode cX5_shots 16 = .ok (.lconst 1, 1) := by decide +kernel
theorem dX5_shots_17 : decode cX5_shots 17 = .ok (.lstore_n 2, 1) := by decide +kernel
theorem dX5_shots_18 : decode cX5_shots 18 = .ok (.iconst 0, 1) := by decide +kernel
theorem dX5_shots_19 : decode cX5_shots 19 = .ok (.istore 4, 2) := by decide +kernel
theorem dX5_shots_21 : decode cX5_shots 21 = .ok (.iload 4, 2) := by decide +kernel
theorem dX5_shots_23 : decode cX5_shots 23 = .ok (.iconst 3, 1) := by decide +kernel
theorem dX5_shots_24 : decode cX5_shots 24 = .ok (.if_icmp .ge 28, 3) := by decide +kernel
theorem dX5_shots_27 : decode cX5_shots 27 = .ok (.lload_n 2, 1) := by decide +kernel
theorem dX5_shots_28 : decode cX5_shots 28 = .ok (.iload 4, 2) := by decide +kernel
theorem dX5_shots_30 : decode cX5_shots 30 = .ok (.iload_n 1, 1) := by decide +kernel
theorem dX5_shots_31 : decode cX5_shots 31 = .ok (.if_icmp .ge 8, 3) := by decide +kernel
theorem dX5_shots_34 : decode cX5_shots 34 = .ok (.iload_n 0, 1) := by decide +kernel
theorem dX5_shots_35 : decode cX5_shots 35 = .ok (.i2l, 1) := by decide +kernel
theorem dX5_shots_36 : decode cX5_shots 36 = .ok (.goto 8, 3) := by decide +kernel
theorem dX5_shots_39 : decode cX5_shots 39 = .ok (.bipush 100, 2) := by decide +kernel
theorem dX5_shots_41 : decode cX5_shots 41 = .ok (.iload_n 0, 1) := by decide +kernel
theorem dX5_shots_42 : decode cX5_shots 42 = .ok (.isub, 1) := by decide +kernel
theorem dX5_shots_43 : decode cX5_shots 43 = .ok (.i2l, 1) := by decide +kernel
theorem dX5_shots_44 : decode cX5_shots 44 = .ok (.lmul, 1) := by decide +kernel
theorem dX5_shots_45 : decode cX5_shots 45 = .ok (.lstore_n 2, 1) := by decide +kernel
theorem dX5_shots_46 : decode cX5_shots 46 = .ok (.iinc 4 1, 3) := by decide +kernel
theorem dX5_shots_49 : decode cX5_shots 49 = .ok (.goto (-28), 3) := by decide +kernel
theorem dX5_shots_52 : decode cX5_shots 52 = .ok (.lload_n 2, 1) := by decide +kernel
theorem dX5_shots_53 : decode cX5_shots 53 = .ok (.lreturn, 1) := by decide +kernel
theorem dX5_outlook_0 : decode cX5_outlook 0 = .ok (.lconst 0, 1) := by decide +kernel
theorem dX5_outlook_1 : decode cX5_outlook 1 = .ok (.lstore_n 2, 1) := by decide +kernel
theorem dX5_outlook_2 : decode cX5_outlook 2 = .ok (.lconst 0, 1) := by decide +kernel
theorem dX5_outlook_3 : decode cX5_outlook 3 = .ok (.lstore 4, 2) := by decide +kernel
theorem dX5_outlook_5 : decode cX5_outlook 5 = .ok (.iconst 0, 1) := by decide +kernel
theorem dX5_outlook_6 : decode cX5_outlook 6 = .ok (.istore 6, 2) := by decide +kernel
theorem dX5_outlook_8 : decode cX5_outlook 8 = .ok (.iload 6, 2) := by decide +kernel
theorem dX5_outlook_10 : decode cX5_outlook 10 = .ok (.iconst 3, 1) := by decide +kernel
theorem dX5_outlook_11 : decode cX5_outlook 11 = .ok (.if_icmp .gt 71, 3) := by decide +kernel
theorem dX5_outlook_14 : decode cX5_outlook 14 = .ok (.lload 4, 2) := by decide +kernel
theorem dX5_outlook_16 : decode cX5_outlook 16 = .ok (.aload_n 0, 1) := by decide +kernel
theorem dX5_outlook_17 : decode cX5_outlook 17 = .ok (.getfield 43, 3) := by decide +kernel
theorem dX5_outlook_20 : decode cX5_outlook 20 = .ok (.iload 6, 2) := by decide +kernel
theorem dX5_outlook_22 : decode cX5_outlook 22 = .ok (.invokestatic 144, 3) := by decide +kernel
theorem dX5_outlook_25 : decode cX5_outlook 25 = .ok (.aload_n 0, 1) := by decide +kernel
theorem dX5_outlook_26 : decode cX5_outlook 26 = .ok (.getfield 46, 3) := by decide +kernel
theorem dX5_outlook_29 : decode cX5_outlook 29 = .ok (.iload 6, 2) := by decide +kernel
theorem dX5_outlook_31 : decode cX5_outlook 31 = .ok (.invokestatic 144, 3) := by decide +kernel
theorem dX5_outlook_34 : decode cX5_outlook 34 = .ok (.lmul, 1) := by decide +kernel
theorem dX5_outlook_35 : decode cX5_outlook 35 = .ok (.ladd, 1) := by decide +kernel
theorem dX5_outlook_36 : decode cX5_outlook 36 = .ok (.lstore 4, 2) := by decide +kernel
theorem dX5_outlook_38 : decode cX5_outlook 38 = .ok (.iconst 0, 1) := by decide +kernel
theorem dX5_outlook_39 : decode cX5_outlook 39 = .ok (.istore 7, 2) := by decide +kernel
theorem dX5_outlook_41 : decode cX5_outlook 41 = .ok (.iload 7, 2) := by decide +kernel
theorem dX5_outlook_43 : decode cX5_outlook 43 = .ok (.iload 6, 2) := by decide +kernel
theorem dX5_outlook_45 : decode cX5_outlook 45 = .ok (.if_icmp .ge 31, 3) := by decide +kernel
theorem dX5_outlook_48 : decode cX5_outlook 48 = .ok (.lload_n 2, 1) := by decide +kernel
theorem dX5_outlook_49 : decode cX5_outlook 49 = .ok (.aload_n 0, 1) := by decide +kernel
theorem dX5_outlook_50 : decode cX5_outlook 50 = .ok (.getfield 43, 3) := by decide +kernel
theorem dX5_outlook_53 : decode cX5_outlook 53 = .ok (.iload 6, 2) := by decide +kernel
theorem dX5_outlook_55 : decode cX5_outlook 55 = .ok (.invokestatic 144, 3) := by decide +kernel
theorem dX5_outlook_58 : decode cX5_outlook 58 = .ok (.aload_n 0, 1) := by decide +kernel
theorem dX5_outlook_59 : decode cX5_outlook 59 = .ok (.getfield 46, 3) := by decide +kernel
theorem dX5_outlook_62 : decode cX5_outlook 62 = .ok (.iload 7, 2) := by decide +kernel
theorem dX5_outlook_64 : decode cX5_outlook 64 = .ok (.invokestatic 144, 3) := by decide +kernel
theorem dX5_outlook_67 : decode cX5_outlook 67 = .ok (.lmul, 1) := by decide +kernel
theorem dX5_outlook_68 : decode cX5_outlook 68 = .ok (.ladd, 1) := by decide +kernel
theorem dX5_outlook_69 : decode cX5_outlook 69 = .ok (.lstore_n 2, 1) := by decide +kernel
theorem dX5_outlook_70 : decode cX5_outlook 70 = .ok (.iinc 7 1, 3) := by decide +kernel
theorem dX5_outlook_73 : decode cX5_outlook 73 = .ok (.goto (-32), 3) := by decide +kernel
theorem dX5_outlook_76 : decode cX5_outlook 76 = .ok (.iinc 6 1, 3) := by decide +kernel
theorem dX5_outlook_79 : decode cX5_outlook 79 = .ok (.goto (-71), 3) := by decide +kernel
theorem dX5_outlook_82 : decode cX5_outlook 82 = .ok (.iload_n 1, 1) := by decide +kernel
theorem dX5_outlook_83 : decode cX5_outlook 83 = .ok (.tableswitch 39 0 2 #[25, 27, 30], 25) := by decide +kernel
theorem dX5_outlook_108 : decode cX5_outlook 108 = .ok (.lload_n 2, 1) := by decide +kernel
theorem dX5_outlook_109 : decode cX5_outlook 109 = .ok (.lreturn, 1) := by decide +kernel
theorem dX5_outlook_110 : decode cX5_outlook 110 = .ok (.lload 4, 2) := by decide +kernel
theorem dX5_outlook_112 : decode cX5_outlook 112 = .ok (.lreturn, 1) := by decide +kernel
theorem dX5_outlook_113 : decode cX5_outlook 113 = .ok (.ldc2_w 148, 3) := by decide +kernel
theorem dX5_outlook_116 : decode cX5_outlook 116 = .ok (.lload_n 2, 1) := by decide +kernel
theorem dX5_outlook_117 : decode cX5_outlook 117 = .ok (.lsub, 1) := by decide +kernel
theorem dX5_outlook_118 : decode cX5_outlook 118 = .ok (.lload 4, 2) := by decide +kernel
theorem dX5_outlook_120 : decode cX5_outlook 120 = .ok (.lsub, 1) := by decide +kernel
theorem dX5_outlook_121 : decode cX5_outlook 121 = .ok (.lreturn, 1) := by decide +kernel
theorem dX5_outlook_122 : decode cX5_outlook 122 = .ok (.ldc2_w 142, 3) := by decide +kernel
theorem dX5_outlook_125 : decode cX5_outlook 125 = .ok (.lload_n 2, 1) := by decide +kernel
theorem dX5_outlook_126 : decode cX5_outlook 126 = .ok (.lmul, 1) := by decide +kernel
theorem dX5_outlook_127 : decode cX5_outlook 127 = .ok (.lload 4, 2) := by decide +kernel
theorem dX5_outlook_129 : decode cX5_outlook 129 = .ok (.ladd, 1) := by decide +kernel
theorem dX5_outlook_130 : decode cX5_outlook 130 = .ok (.lreturn, 1) := by decide +kernel
theorem dX5_hopes_0 : decode cX5_hopes 0 = .ok (.lconst 0, 1) := by decide +kernel
theorem dX5_hopes_1 : decode cX5_hopes 1 = .ok (.lstore_n 1, 1) := by decide +kernel
theorem dX5_hopes_2 : decode cX5_hopes 2 = .ok (.iconst 0, 1) := by decide +kernel
theorem dX5_hopes_3 : decode cX5_hopes 3 = .ok (.istore_n 3, 1) := by decide +kernel
theorem dX5_hopes_4 : decode cX5_hopes 4 = .ok (.iload_n 3, 1) := by decide +kernel
theorem dX5_hopes_5 : decode cX5_hopes 5 = .ok (.aload_n 0, 1) := by decide +kernel
theorem dX5_hopes_6 : decode cX5_hopes 6 = .ok (.getfield 28, 3) := by decide +kernel
theorem dX5_hopes_9 : decode cX5_hopes 9 = .ok (.getfield 150, 3) := by decide +kernel
theorem dX5_hopes_12 : decode cX5_hopes 12 = .ok (.if_icmp .ge 22, 3) := by decide +kernel
theorem dX5_hopes_15 : decode cX5_hopes 15 = .ok (.aload_n 0, 1) := by decide +kernel
theorem dX5_hopes_16 : decode cX5_hopes 16 = .ok (.iload_n 3, 1) := by decide +kernel
theorem dX5_hopes_17 : decode cX5_hopes 17 = .ok (.invokevirtual 153, 3) := by decide +kernel
theorem dX5_hopes_20 : decode cX5_hopes 20 = .ok (.lload_n 1, 1) := by decide +kernel
theorem dX5_hopes_21 : decode cX5_hopes 21 = .ok (.aload_n 0, 1) := by decide +kernel
theorem dX5_hopes_22 : decode cX5_hopes 22 = .ok (.iconst 3, 1) := by decide +kernel
theorem dX5_hopes_23 : decode cX5_hopes 23 = .ok (.invokevirtual 156, 3) := by decide +kernel
theorem dX5_hopes_26 : decode cX5_hopes 26 = .ok (.ladd, 1) := by decide +kernel
theorem dX5_hopes_27 : decode cX5_hopes 27 = .ok (.lstore_n 1, 1) := by decide +kernel
theorem dX5_hopes_28 : decode cX5_hopes 28 = .ok (.iinc 3 1, 3) := by decide +kernel
theorem dX5_hopes_31 : decode cX5_hopes 31 = .ok (.goto (-27), 3) := by decide +kernel
theorem dX5_hopes_34 : decode cX5_hopes 34 = .ok (.lload_n 1, 1) := by decide +kernel
theorem dX5_hopes_35 : decode cX5_hopes 35 = .ok (.lreturn, 1) := by decide +kernel
theorem dX5_walk_0 : decode cX5_walk 0 = .ok (.iconst 0, 1) := by decide +kernel
theorem dX5_walk_1 : decode cX5_walk 1 = .ok (.istore_n 2, 1) := by decide +kernel
theorem dX5_walk_2 : decode cX5_walk 2 = .ok (.iload_n 2, 1) := by decide +kernel
theorem dX5_walk_3 : decode cX5_walk 3 = .ok (.bipush 8, 2) := by decide +kernel
theorem dX5_walk_5 : decode cX5_walk 5 = .ok (.if_icmp .ge 30, 3) := by decide +kernel
theorem dX5_walk_8 : decode cX5_walk 8 = .ok (.aload_n 0, 1) := by decide +kernel
theorem dX5_walk_9 : decode cX5_walk 9 = .ok (.getfield 49, 3) := by decide +kernel
theorem dX5_walk_12 : decode cX5_walk 12 = .ok (.iload_n 2, 1) := by decide +kernel
theorem dX5_walk_13 : decode cX5_walk 13 = .ok (.aload_n 0, 1) := by decide +kernel
theorem dX5_walk_14 : decode cX5_walk 14 = .ok (.getfield 12, 3) := by decide +kernel
theorem dX5_walk_17 : decode cX5_walk 17 = .ok (.iload_n 2, 1) := by decide +kernel
theorem dX5_walk_18 : decode cX5_walk 18 = .ok (.invokevirtual 89, 3) := by decide +kernel
theorem dX5_walk_21 : decode cX5_walk 21 = .ok (.iastore, 1) := by decide +kernel
theorem dX5_walk_22 : decode cX5_walk 22 = .ok (.aload_n 0, 1) := by decide +kernel
theorem dX5_walk_23 : decode cX5_walk 23 = .ok (.getfield 52, 3) := by decide +kernel
theorem dX5_walk_26 : decode cX5_walk 26 = .ok (.iload_n 2, 1) := by decide +kernel
theorem dX5_walk_27 : decode cX5_walk 27 = .ok (.iconst 0, 1) := by decide +kernel
theorem dX5_walk_28 : decode cX5_walk 28 = .ok (.iastore, 1) := by decide +kernel
theorem dX5_walk_29 : decode cX5_walk 29 = .ok (.iinc 2 1, 3) := by decide +kernel
theorem dX5_walk_32 : decode cX5_walk 32 = .ok (.goto (-30), 3) := by decide +kernel
theorem dX5_walk_35 : decode cX5_walk 35 = .ok (.iconst 0, 1) := by decide +kernel
theorem dX5_walk_36 : decode cX5_walk 36 = .ok (.istore_n 2, 1) := by decide +kernel
theorem dX5_walk_37 : decode cX5_walk 37 = .ok (.iload_n 2, 1) := by decide +kernel
theorem dX5_walk_38 : decode cX5_walk 38 = .ok (.aload_n 0, 1) := by decide +kernel
theorem dX5_walk_39 : decode cX5_walk 39 = .ok (.getfield 28, 3) := by decide +kernel
theorem dX5_walk_42 : decode cX5_walk 42 = .ok (.getfield 150, 3) := by decide +kernel
theorem dX5_walk_45 : decode cX5_walk 45 = .ok (.if_icmp .ge 71, 3) := by decide +kernel
theorem dX5_walk_48 : decode cX5_walk 48 = .ok (.aload_n 0, 1) := by decide +kernel
theorem dX5_walk_49 : decode cX5_walk 49 = .ok (.getfield 28, 3) := by decide +kernel
theorem dX5_walk_52 : decode cX5_walk 52 = .ok (.iload_n 2, 1) := by decide +kernel
theorem dX5_walk_53 : decode cX5_walk 53 = .ok (.iload_n 2, 1) := by decide +kernel
theorem dX5_walk_54 : decode cX5_walk 54 = .ok (.iload_n 1, 1) := by decide +kernel
theorem dX5_walk_55 : decode cX5_walk 55 = .ok (.if_icmp .ne 7, 3) := by decide +kernel
theorem dX5_walk_58 : decode cX5_walk 58 = .ok (.iconst 1, 1) := by decide +kernel
theorem dX5_walk_59 : decode cX5_walk 59 = .ok (.goto 4, 3) := by decide +kernel
theorem dX5_walk_62 : decode cX5_walk 62 = .ok (.iconst 0, 1) := by decide +kernel
theorem dX5_walk_63 : decode cX5_walk 63 = .ok (.invokevirtual 81, 3) := by decide +kernel
theorem dX5_walk_66 : decode cX5_walk 66 = .ok (.istore_n 3, 1) := by decide +kernel
theorem dX5_walk_67 : decode cX5_walk 67 = .ok (.aload_n 0, 1) := by decide +kernel
theorem dX5_walk_68 : decode cX5_walk 68 = .ok (.getfield 28, 3) := by decide +kernel
theorem dX5_walk_71 : decode cX5_walk 71 = .ok (.iload_n 2, 1) := by decide +kernel
theorem dX5_walk_72 : decode cX5_walk 72 = .ok (.iload_n 2, 1) := by decide +kernel
theorem dX5_walk_73 : decode cX5_walk 73 = .ok (.iload_n 1, 1) := by decide +kernel
theorem dX5_walk_74 : decode cX5_walk 74 = .ok (.if_icmp .ne 7, 3) := by decide +kernel
theorem dX5_walk_77 : decode cX5_walk 77 = .ok (.iconst 0, 1) := by decide +kernel
theorem dX5_walk_78 : decode cX5_walk 78 = .ok (.goto 4, 3) := by decide +kernel
theorem dX5_walk_81 : decode cX5_walk 81 = .ok (.iconst 1, 1) := by decide +kernel
theorem dX5_walk_82 : decode cX5_walk 82 = .ok (.invokevirtual 81, 3) := by decide +kernel
theorem dX5_walk_85 : decode cX5_walk 85 = .ok (.istore 4, 2) := by decide +kernel
theorem dX5_walk_87 : decode cX5_walk 87 = .ok (.aload_n 0, 1) := by decide +kernel
theorem dX5_walk_88 : decode cX5_walk 88 = .ok (.iload_n 2, 1) := by decide +kernel
theorem dX5_walk_89 : decode cX5_walk 89 = .ok (.iload_n 3, 1) := by decide +kernel
theorem dX5_walk_90 : decode cX5_walk 90 = .ok (.invokevirtual 92, 3) := by decide +kernel
theorem dX5_walk_93 : decode cX5_walk 93 = .ok (.istore 5, 2) := by decide +kernel
theorem dX5_walk_95 : decode cX5_walk 95 = .ok (.aload_n 0, 1) := by decide +kernel
theorem dX5_walk_96 : decode cX5_walk 96 = .ok (.iload_n 3, 1) := by decide +kernel
theorem dX5_walk_97 : decode cX5_walk 97 = .ok (.iload 5, 2) := by decide +kernel
theorem dX5_walk_99 : decode cX5_walk 99 = .ok (.invokevirtual 160, 3) := by decide +kernel
theorem dX5_walk_102 : decode cX5_walk 102 = .ok (.aload_n 0, 1) := by decide +kernel
theorem dX5_walk_103 : decode cX5_walk 103 = .ok (.iload 4, 2) := by decide +kernel
theorem dX5_walk_105 : decode cX5_walk 105 = .ok (.iload 5, 2) := by decide +kernel
theorem dX5_walk_107 : decode cX5_walk 107 = .ok (.invokevirtual 160, 3) := by decide +kernel
theorem dX5_walk_110 : decode cX5_walk 110 = .ok (.iinc 2 1, 3) := by decide +kernel
theorem dX5_walk_113 : decode cX5_walk 113 = .ok (.goto (-76), 3) := by decide +kernel
theorem dX5_walk_116 : decode cX5_walk 116 = .ok (.iconst 0, 1) := by decide +kernel
theorem dX5_walk_117 : decode cX5_walk 117 = .ok (.istore_n 2, 1) := by decide +kernel
theorem dX5_walk_118 : decode cX5_walk 118 = .ok (.iconst 0, 1) := by decide +kernel
theorem dX5_walk_119 : decode cX5_walk 119 = .ok (.istore_n 3, 1) := by decide +kernel
theorem dX5_walk_120 : decode cX5_walk 120 = .ok (.iload_n 3, 1) := by decide +kernel
theorem dX5_walk_121 : decode cX5_walk 121 = .ok (.bipush 8, 2) := by decide +kernel
theorem dX5_walk_123 : decode cX5_walk 123 = .ok (.if_icmp .ge 31, 3) := by decide +kernel
theorem dX5_walk_126 : decode cX5_walk 126 = .ok (.aload_n 0, 1) := by decide +kernel
theorem dX5_walk_127 : decode cX5_walk 127 = .ok (.iload_n 3, 1) := by decide +kernel
theorem dX5_walk_128 : decode cX5_walk 128 = .ok (.aload_n 0, 1) := by decide +kernel
theorem dX5_walk_129 : decode cX5_walk 129 = .ok (.getfield 12, 3) := by decide +kernel
theorem dX5_walk_132 : decode cX5_walk 132 = .ok (.iload_n 3, 1) := by decide +kernel
theorem dX5_walk_133 : decode cX5_walk 133 = .ok (.invokevirtual 89, 3) := by decide +kernel
theorem dX5_walk_136 : decode cX5_walk 136 = .ok (.invokevirtual 160, 3) := by decide +kernel
theorem dX5_walk_139 : decode cX5_walk 139 = .ok (.iload_n 2, 1) := by decide +kernel
theorem dX5_walk_140 : decode cX5_walk 140 = .ok (.aload_n 0, 1) := by decide +kernel
theorem dX5_walk_141 : decode cX5_walk 141 = .ok (.getfield 52, 3) := by decide +kernel
theorem dX5_walk_144 : decode cX5_walk 144 = .ok (.iload_n 3, 1) := by decide +kernel
theorem dX5_walk_145 : decode cX5_walk 145 = .ok (.iaload, 1) := by decide +kernel
theorem dX5_walk_146 : decode cX5_walk 146 = .ok (.iadd, 1) := by decide +kernel
theorem dX5_walk_147 : decode cX5_walk 147 = .ok (.istore_n 2, 1) := by decide +kernel
theorem dX5_walk_148 : decode cX5_walk 148 = .ok (.iinc 3 1, 3) := by decide +kernel
theorem dX5_walk_151 : decode cX5_walk 151 = .ok (.goto (-31), 3) := by decide +kernel
theorem dX5_walk_154 : decode cX5_walk 154 = .ok (.iload_n 2, 1) := by decide +kernel
theorem dX5_walk_155 : decode cX5_walk 155 = .ok (.ireturn, 1) := by decide +kernel
theorem dX5_go_0 : decode cX5_go 0 = .ok (.iload_n 1, 1) := by decide +kernel
theorem dX5_go_1 : decode cX5_go 1 = .ok (.ifCond .lt 39, 3) := by decide +kernel
theorem dX5_go_4 : decode cX5_go 4 = .ok (.iload_n 1, 1) := by decide +kernel
theorem dX5_go_5 : decode cX5_go 5 = .ok (.bipush 8, 2) := by decide +kernel
theorem dX5_go_7 : decode cX5_go 7 = .ok (.if_icmp .ge 33, 3) := by decide +kernel
theorem dX5_go_10 : decode cX5_go 10 = .ok (.aload_n 0, 1) := by decide +kernel
theorem dX5_go_11 : decode cX5_go 11 = .ok (.getfield 52, 3) := by decide +kernel
theorem dX5_go_14 : decode cX5_go 14 = .ok (.iload_n 1, 1) := by decide +kernel
theorem dX5_go_15 : decode cX5_go 15 = .ok (.dup2, 1) := by decide +kernel
theorem dX5_go_16 : decode cX5_go 16 = .ok (.iaload, 1) := by decide +kernel
theorem dX5_go_17 : decode cX5_go 17 = .ok (.aload_n 0, 1) := by decide +kernel
theorem dX5_go_18 : decode cX5_go 18 = .ok (.getfield 12, 3) := by decide +kernel
theorem dX5_go_21 : decode cX5_go 21 = .ok (.aload_n 0, 1) := by decide +kernel
theorem dX5_go_22 : decode cX5_go 22 = .ok (.getfield 49, 3) := by decide +kernel
theorem dX5_go_25 : decode cX5_go 25 = .ok (.iload_n 1, 1) := by decide +kernel
theorem dX5_go_26 : decode cX5_go 26 = .ok (.iaload, 1) := by decide +kernel
theorem dX5_go_27 : decode cX5_go 27 = .ok (.iload_n 2, 1) := by decide +kernel
theorem dX5_go_28 : decode cX5_go 28 = .ok (.invokevirtual 101, 3) := by decide +kernel
theorem dX5_go_31 : decode cX5_go 31 = .ok (.iadd, 1) := by decide +kernel
theorem dX5_go_32 : decode cX5_go 32 = .ok (.iastore, 1) := by decide +kernel
theorem dX5_go_33 : decode cX5_go 33 = .ok (.aload_n 0, 1) := by decide +kernel
theorem dX5_go_34 : decode cX5_go 34 = .ok (.getfield 49, 3) := by decide +kernel
theorem dX5_go_37 : decode cX5_go 37 = .ok (.iload_n 1, 1) := by decide +kernel
theorem dX5_go_38 : decode cX5_go 38 = .ok (.iload_n 2, 1) := by decide +kernel
theorem dX5_go_39 : decode cX5_go 39 = .ok (.iastore, 1) := by decide +kernel
theorem dX5_go_40 : decode cX5_go 40 = .ok (.return_, 1) := by decide +kernel
theorem dX5_walkedBy_0 : decode cX5_walkedBy 0 = .ok (.aload_n 0, 1) := by decide +kernel
theorem dX5_walkedBy_1 : decode cX5_walkedBy 1 = .ok (.getfield 52, 3) := by decide +kernel
theorem dX5_walkedBy_4 : decode cX5_walkedBy 4 = .ok (.iload_n 1, 1) := by decide +kernel
theorem dX5_walkedBy_5 : decode cX5_walkedBy 5 = .ok (.invokestatic 77, 3) := by decide +kernel
theorem dX5_walkedBy_8 : decode cX5_walkedBy 8 = .ok (.ireturn, 1) := by decide +kernel
theorem dX6_init_0 : decode cX6_init 0 = .ok (.aload_n 0, 1) := by decide +kernel
theorem dX6_init_1 : decode cX6_init 1 = .ok (.invokespecial 3, 3) := by decide +kernel
theorem dX6_init_4 : decode cX6_init 4 = .ok (.aload_n 0, 1) := by decide +kernel
theorem dX6_init_5 : decode cX6_init 5 = .ok (.sipush 240, 3) := by decide +kernel
theorem dX6_init_8 : decode cX6_init 8 = .ok (.newarray .int, 2) := by decide +kernel
theorem dX6_init_10 : decode cX6_init 10 = .ok (.putfield 9, 3) := by decide +kernel
theorem dX6_init_13 : decode cX6_init 13 = .ok (.aload_n 0, 1) := by decide +kernel
theorem dX6_init_14 : decode cX6_init 14 = .ok (.iconst 0, 1) := by decide +kernel
theorem dX6_init_15 : decode cX6_init 15 = .ok (.putfield 15, 3) := by decide +kernel
theorem dX6_init_18 : decode cX6_init 18 = .ok (.aload_n 0, 1) := by decide +kernel
theorem dX6_init_19 : decode cX6_init 19 = .ok (.iconst (-1), 1) := by decide +kernel
theorem dX6_init_20 : decode cX6_init 20 = .ok (.putfield 19, 3) := by decide +kernel
theorem dX6_init_23 : decode cX6_init 23 = .ok (.aload_n 0, 1) := by decide +kernel
theorem dX6_init_24 : decode cX6_init 24 = .ok (.iconst (-1), 1) := by decide +kernel
theorem dX6_init_25 : decode cX6_init 25 = .ok (.putfield 22, 3) := by decide +kernel
theorem dX6_init_28 : decode cX6_init 28 = .ok (.aload_n 0, 1) := by decide +kernel
theorem dX6_init_29 : decode cX6_init 29 = .ok (.iconst 0, 1) := by decide +kernel
theorem dX6_init_30 : decode cX6_init 30 = .ok (.putfield 25, 3) := by decide +kernel
theorem dX6_init_33 : decode cX6_init 33 = .ok (.aload_n 0, 1) := by decide +kernel
theorem dX6_init_34 : decode cX6_init 34 = .ok (.iconst 1, 1) := by decide +kernel
theorem dX6_init_35 : decode cX6_init 35 = .ok (.putfield 28, 3) := by decide +kernel
theorem dX6_init_38 : decode cX6_init 38 = .ok (.aload_n 0, 1) := by decide +kernel
theorem dX6_init_39 : decode cX6_init 39 = .ok (.iconst 0, 1) := by decide +kernel
theorem dX6_init_40 : decode cX6_init 40 = .ok (.putfield 31, 3) := by decide +kernel
theorem dX6_init_43 : decode cX6_init 43 = .ok (.aload_n 0, 1) := by decide +kernel
theorem dX6_init_44 : decode cX6_init 44 = .ok (.iconst (-1), 1) := by decide +kernel
theorem dX6_init_45 : decode cX6_init 45 = .ok (.putfield 34, 3) := by decide +kernel
theorem dX6_init_48 : decode cX6_init 48 = .ok (.return_, 1) := by decide +kernel
theorem dX6_isFull_0 : decode cX6_isFull 0 = .ok (.iload_n 1, 1) := by decide +kernel
theorem dX6_isFull_1 : decode cX6_isFull 1 = .ok (.bipush 26, 2) := by decide +kernel
theorem dX6_isFull_3 : decode cX6_isFull 3 = .ok (.if_icmp .ne 16, 3) := by decide +kernel
theorem dX6_isFull_6 : decode cX6_isFull 6 = .ok (.aload_n 0, 1) := by decide +kernel
theorem dX6_isFull_7 : decode cX6_isFull 7 = .ok (.getfield 15, 3) := by decide +kernel
theorem dX6_isFull_10 : decode cX6_isFull 10 = .ok (.bipush 40, 2) := by decide +kernel
theorem dX6_isFull_12 : decode cX6_isFull 12 = .ok (.if_icmp .lt 7, 3) := by decide +kernel
theorem dX6_isFull_15 : decode cX6_isFull 15 = .ok (.iconst 1, 1) := by decide +kernel
theorem dX6_isFull_16 : decode cX6_isFull 16 = .ok (.goto 4, 3) := by decide +kernel
theorem dX6_isFull_19 : decode cX6_isFull 19 = .ok (.iconst 0, 1) := by decide +kernel
theorem dX6_isFull_20 : decode cX6_isFull 20 = .ok (.ireturn, 1) := by decide +kernel
theorem dX6_leastOf_0 : decode cX6_leastOf 0 = .ok (.iload_n 1, 1) := by decide +kernel
theorem dX6_leastOf_1 : decode cX6_leastOf 1 = .ok (.bipush 20, 2) := by decide +kernel
theorem dX6_leastOf_3 : decode cX6_leastOf 3 = .ok (.if_icmp .ne 10, 3) := by decide +kernel
theorem dX6_leastOf_6 : decode cX6_leastOf 6 = .ok (.aload_n 0, 1) := by decide +kernel
theorem dX6_leastOf_7 : decode cX6_leastOf 7 = .ok (.getfield 25, 3) := by decide +kernel
theorem dX6_leastOf_10 : decode cX6_leastOf 10 = .ok (.goto 4, 3) := by decide +kernel
theorem dX6_leastOf_13 : decode cX6_leastOf 13 = .ok (.iconst 0, 1) := by decide +kernel
theorem dX6_leastOf_14 : decode cX6_leastOf 14 = .ok (.ireturn, 1) := by decide +kernel
theorem dX6_mostOf_0 : decode cX6_mostOf 0 = .ok (.iload_n 1, 1) := by decide +kernel
theorem dX6_mostOf_1 : decode cX6_mostOf 1 = .ok (.lookupswitch 34 #[(20, 27), (25, 31)], 27) := by decide +kernel
theorem dX6_mostOf_28 : decode cX6_mostOf 28 = .ok (.sipush 999, 3) := by decide +kernel
theorem dX6_mostOf_31 : decode cX6_mostOf 31 = .ok (.ireturn, 1) := by decide +kernel
theorem dX6_mostOf_32 : decode cX6_mostOf 32 = .ok (.bipush 9, 2) := by decide +kernel
theorem dX6_mostOf_34 : decode cX6_mostOf 34 = .ok (.ireturn, 1) := by decide +kernel
theorem dX6_mostOf_35 : decode cX6_mostOf 35 = .ok (.bipush 7, 2) := by decide +kernel
theorem dX6_mostOf_37 : decode cX6_mostOf 37 = .ok (.ireturn, 1) := by decide +kernel
theorem dX6_take_0 : decode cX6_take 0 = .ok (.iload_n 1, 1) := by decide +kernel
theorem dX6_take_1 : decode cX6_take 1 = .ok (.tableswitch 87 20 25 #[39, 47, 55, 63, 71, 79], 39) := by decide +kernel
theorem dX6_take_40 : decode cX6_take 40 = .ok (.aload_n 0, 1) := by decide +kernel
theorem dX6_take_41 : decode cX6_take 41 = .ok (.iload_n 2, 1) := by decide +kernel
theorem dX6_take_42 : decode cX6_take 42 = .ok (.putfield 25, 3) := by decide +kernel
theorem dX6_take_45 : decode cX6_take 45 = .ok (.goto 49, 3) := by decide +kernel
theorem dX6_take_48 : decode cX6_take 48 = .ok (.aload_n 0, 1) := by decide +kernel
theorem dX6_take_49 : decode cX6_take 49 = .ok (.iconst 1, 1) := by decide +kernel
theorem dX6_take_50 : decode cX6_take 50 = .ok (.putfield 28, 3) := by decide +kernel
theorem dX6_take_53 : decode cX6_take 53 = .ok (.goto 41, 3) := by decide +kernel
theorem dX6_take_56 : decode cX6_take 56 = .ok (.aload_n 0, 1) := by decide +kernel
theorem dX6_take_57 : decode cX6_take 57 = .ok (.iconst 0, 1) := by decide +kernel
theorem dX6_take_58 : decode cX6_take 58 = .ok (.putfield 28, 3) := by decide +kernel
theorem dX6_take_61 : decode cX6_take 61 = .ok (.goto 33, 3) := by decide +kernel
theorem dX6_take_64 : decode cX6_take 64 = .ok (.aload_n 0, 1) := by decide +kernel
theorem dX6_take_65 : decode cX6_take 65 = .ok (.iconst 1, 1) := by decide +kernel
theorem dX6_take_66 : decode cX6_take 66 = .ok (.putfield 31, 3) := by decide +kernel
theorem dX6_take_69 : decode cX6_take 69 = .ok (.goto 25, 3) := by decide +kernel
theorem dX6_take_72 : decode cX6_take 72 = .ok (.aload_n 0, 1) := by decide +kernel
theorem dX6_take_73 : decode cX6_take 73 = .ok (.iconst 0, 1) := by decide +kernel
theorem dX6_take_74 : decode cX6_take 74 = .ok (.putfield 31, 3) := by decide +kernel
theorem dX6_take_77 : decode cX6_take 77 = .ok (.goto 17, 3) := by decide +kernel
theorem dX6_take_80 : decode cX6_take 80 = .ok (.aload_n 0, 1) := by decide +kernel
theorem dX6_take_81 : decode cX6_take 81 = .ok (.iload_n 2, 1) := by decide +kernel
theorem dX6_take_82 : decode cX6_take 82 = .ok (.putfield 34, 3) := by decide +kernel
theorem dX6_take_85 : decode cX6_take 85 = .ok (.goto 9, 3) := by decide +kernel
theorem dX6_take_88 : decode cX6_take 88 = .ok (.aload_n 0, 1) := by decide +kernel
theorem dX6_take_89 : decode cX6_take 89 = .ok (.iload_n 2, 1) := by decide +kernel
theorem dX6_take_90 : decode cX6_take 90 = .ok (.iload_n 3, 1) := by decide +kernel
theorem dX6_take_91 : decode cX6_take 91 = .ok (.invokevirtual 37, 3) := by decide +kernel
theorem dX6_take_94 : decode cX6_take 94 = .ok (.return_, 1) := by decide +kernel
theorem dX6_addGame_0 : decode cX6_addGame 0 = .ok (.bipush 6, 2) := by decide +kernel
theorem dX6_addGame_2 : decode cX6_addGame 2 = .ok (.aload_n 0, 1) := by decide +kernel
theorem dX6_addGame_3 : decode cX6_addGame 3 = .ok (.getfield 15, 3) := by decide +kernel
theorem dX6_addGame_6 : decode cX6_addGame 6 = .ok (.imul, 1) := by decide +kernel
theorem dX6_addGame_7 : decode cX6_addGame 7 = .ok (.istore_n 3, 1) := by decide +kernel
theorem dX6_addGame_8 : decode cX6_addGame 8 = .ok (.aload_n 0, 1) := by decide +kernel
theorem dX6_addGame_9 : decode cX6_addGame 9 = .ok (.getfield 9, 3) := by decide +kernel
theorem dX6_addGame_12 : decode cX6_addGame 12 = .ok (.iload_n 3, 1) := by decide +kernel
theorem dX6_addGame_13 : decode cX6_addGame 13 = .ok (.iconst 0, 1) := by decide +kernel
theorem dX6_addGame_14 : decode cX6_addGame 14 = .ok (.iadd, 1) := by decide +kernel
theorem dX6_addGame_15 : decode cX6_addGame 15 = .ok (.iload_n 1, 1) := by decide +kernel
theorem dX6_addGame_16 : decode cX6_addGame 16 = .ok (.invokestatic 41, 3) := by decide +kernel
theorem dX6_addGame_19 : decode cX6_addGame 19 = .ok (.aload_n 0, 1) := by decide +kernel
theorem dX6_addGame_20 : decode cX6_addGame 20 = .ok (.getfield 9, 3) := by decide +kernel
theorem dX6_addGame_23 : decode cX6_addGame 23 = .ok (.iload_n 3, 1) := by decide +kernel
theorem dX6_addGame_24 : decode cX6_addGame 24 = .ok (.iconst 1, 1) := by decide +kernel
theorem dX6_addGame_25 : decode cX6_addGame 25 = .ok (.iadd, 1) := by decide +kernel
theorem dX6_addGame_26 : decode cX6_addGame 26 = .ok (.iload_n 2, 1) := by decide +kernel
theorem dX6_addGame_27 : decode cX6_addGame 27 = .ok (.invokestatic 41, 3) := by decide +kernel
theorem dX6_addGame_30 : decode cX6_addGame 30 = .ok (.aload_n 0, 1) := by decide +kernel
theorem dX6_addGame_31 : decode cX6_addGame 31 = .ok (.getfield 9, 3) := by decide +kernel
theorem dX6_addGame_34 : decode cX6_addGame 34 = .ok (.iload_n 3, 1) := by decide +kernel
theorem dX6_addGame_35 : decode cX6_addGame 35 = .ok (.iconst 2, 1) := by decide +kernel
theorem dX6_addGame_36 : decode cX6_addGame 36 = .ok (.iadd, 1) := by decide +kernel
theorem dX6_addGame_37 : decode cX6_addGame 37 = .ok (.aload_n 0, 1) := by decide +kernel
theorem dX6_addGame_38 : decode cX6_addGame 38 = .ok (.getfield 25, 3) := by decide +kernel
theorem dX6_addGame_41 : decode cX6_addGame 41 = .ok (.invokestatic 41, 3) := by decide +kernel
theorem dX6_addGame_44 : decode cX6_addGame 44 = .ok (.aload_n 0, 1) := by decide +kernel
theorem dX6_addGame_45 : decode cX6_addGame 45 = .ok (.getfield 9, 3) := by decide +kernel
theorem dX6_addGame_48 : decode cX6_addGame 48 = .ok (.iload_n 3, 1) := by decide +kernel
theorem dX6_addGame_49 : decode cX6_addGame 49 = .ok (.iconst 3, 1) := by decide +kernel
theorem dX6_addGame_50 : decode cX6_addGame 50 = .ok (.iadd, 1) := by decide +kernel
theorem dX6_addGame_51 : decode cX6_addGame 51 = .ok (.aload_n 0, 1) := by decide +kernel
theorem dX6_addGame_52 : decode cX6_addGame 52 = .ok (.getfield 28, 3) := by decide +kernel
theorem dX6_addGame_55 : decode cX6_addGame 55 = .ok (.invokestatic 41, 3) := by decide +kernel
theorem dX6_addGame_58 : decode cX6_addGame 58 = .ok (.aload_n 0, 1) := by decide +kernel
theorem dX6_addGame_59 : decode cX6_addGame 59 = .ok (.getfield 9, 3) := by decide +kernel
theorem dX6_addGame_62 : decode cX6_addGame 62 = .ok (.iload_n 3, 1) := by decide +kernel
theorem dX6_addGame_63 : decode cX6_addGame 63 = .ok (.iconst 4, 1) := by decide +kernel
theorem dX6_addGame_64 : decode cX6_addGame 64 = .ok (.iadd, 1) := by decide +kernel
theorem dX6_addGame_65 : decode cX6_addGame 65 = .ok (.aload_n 0, 1) := by decide +kernel
theorem dX6_addGame_66 : decode cX6_addGame 66 = .ok (.getfield 31, 3) := by decide +kernel
theorem dX6_addGame_69 : decode cX6_addGame 69 = .ok (.invokestatic 41, 3) := by decide +kernel
theorem dX6_addGame_72 : decode cX6_addGame 72 = .ok (.aload_n 0, 1) := by decide +kernel
theorem dX6_addGame_73 : decode cX6_addGame 73 = .ok (.getfield 9, 3) := by decide +kernel
theorem dX6_addGame_76 : decode cX6_addGame 76 = .ok (.iload_n 3, 1) := by decide +kernel
theorem dX6_addGame_77 : decode cX6_addGame 77 = .ok (.iconst 5, 1) := by decide +kernel
theorem dX6_addGame_78 : decode cX6_addGame 78 = .ok (.iadd, 1) := by decide +kernel
theorem dX6_addGame_79 : decode cX6_addGame 79 = .ok (.aload_n 0, 1) := by decide +kernel
theorem dX6_addGame_80 : decode cX6_addGame 80 = .ok (.getfield 34, 3) := by decide +kernel
theorem dX6_addGame_83 : decode cX6_addGame 83 = .ok (.invokestatic 41, 3) := by decide +kernel
theorem dX6_addGame_86 : decode cX6_addGame 86 = .ok (.aload_n 0, 1) := by decide +kernel
theorem dX6_addGame_87 : decode cX6_addGame 87 = .ok (.dup, 1) := by decide +kernel
theorem dX6_addGame_88 : decode cX6_addGame 88 = .ok (.getfield 15, 3) := by decide +kernel
theorem dX6_addGame_91 : decode cX6_addGame 91 = .ok (.iconst 1, 1) := by decide +kernel
theorem dX6_addGame_92 : decode cX6_addGame 92 = .ok (.iadd, 1) := by decide +kernel
theorem dX6_addGame_93 : decode cX6_addGame 93 = .ok (.putfield 15, 3) := by decide +kernel
theorem dX6_addGame_96 : decode cX6_addGame 96 = .ok (.aload_n 0, 1) := by decide +kernel
theorem dX6_addGame_97 : decode cX6_addGame 97 = .ok (.aload_n 0, 1) := by decide +kernel
theorem dX6_addGame_98 : decode cX6_addGame 98 = .ok (.getfield 19, 3) := by decide +kernel
theorem dX6_addGame_101 : decode cX6_addGame 101 = .ok (.iload_n 1, 1) := by decide +kernel
theorem dX6_addGame_102 : decode cX6_addGame 102 = .ok (.iload_n 2, 1) := by decide +kernel
theorem dX6_addGame_103 : decode cX6_addGame 103 = .ok (.invokestatic 45, 3) := by decide +kernel
theorem dX6_addGame_106 : decode cX6_addGame 106 = .ok (.invokestatic 45, 3) := by decide +kernel
theorem dX6_addGame_109 : decode cX6_addGame 109 = .ok (.putfield 19, 3) := by decide +kernel
theorem dX6_addGame_112 : decode cX6_addGame 112 = .ok (.aload_n 0, 1) := by decide +kernel
theorem dX6_addGame_113 : decode cX6_addGame 113 = .ok (.aload_n 0, 1) := by decide +kernel
theorem dX6_addGame_114 : decode cX6_addGame 114 = .ok (.getfield 22, 3) := by decide +kernel
theorem dX6_addGame_117 : decode cX6_addGame 117 = .ok (.aload_n 0, 1) := by decide +kernel
theorem dX6_addGame_118 : decode cX6_addGame 118 = .ok (.getfield 34, 3) := by decide +kernel
theorem dX6_addGame_121 : decode cX6_addGame 121 = .ok (.invokestatic 45, 3) := by decide +kernel
theorem dX6_addGame_124 : decode cX6_addGame 124 = .ok (.putfield 22, 3) := by decide +kernel
theorem dX6_addGame_127 : decode cX6_addGame 127 = .ok (.aload_n 0, 1) := by decide +kernel
theorem dX6_addGame_128 : decode cX6_addGame 128 = .ok (.iconst (-1), 1) := by decide +kernel
theorem dX6_addGame_129 : decode cX6_addGame 129 = .ok (.putfield 34, 3) := by decide +kernel
theorem dX6_addGame_132 : decode cX6_addGame 132 = .ok (.return_, 1) := by decide +kernel
theorem dX6_fits_0 : decode cX6_fits 0 = .ok (.aload_n 0, 1) := by decide +kernel
theorem dX6_fits_1 : decode cX6_fits 1 = .ok (.getfield 19, 3) := by decide +kernel
theorem dX6_fits_4 : decode cX6_fits 4 = .ok (.aload_n 1, 1) := by decide +kernel
theorem dX6_fits_5 : decode cX6_fits 5 = .ok (.getfield 51, 3) := by decide +kernel
theorem dX6_fits_8 : decode cX6_fits 8 = .ok (.if_icmp .ge 18, 3) := by decide +kernel
theorem dX6_fits_11 : decode cX6_fits 11 = .ok (.aload_n 0, 1) := by decide +kernel
theorem dX6_fits_12 : decode cX6_fits 12 = .ok (.getfield 22, 3) := by decide +kernel
theorem dX6_fits_15 : decode cX6_fits 15 = .ok (.aload_n 1, 1) := by decide +kernel
theorem dX6_fits_16 : decode cX6_fits 16 = .ok (.getfield 56, 3) := by decide +kernel
theorem dX6_fits_19 : decode cX6_fits 19 = .ok (.if_icmp .ge 7, 3) := by decide +kernel
theorem dX6_fits_22 : decode cX6_fits 22 = .ok (.iconst 1, 1) := by decide +kernel
theorem dX6_fits_23 : decode cX6_fits 23 = .ok (.goto 4, 3) := by decide +kernel
theorem dX6_fits_26 : decode cX6_fits 26 = .ok (.iconst 0, 1) := by decide +kernel
theorem dX6_fits_27 : decode cX6_fits 27 = .ok (.ireturn, 1) := by decide +kernel
theorem dX6_hasGame_0 : decode cX6_hasGame 0 = .ok (.iload_n 1, 1) := by decide +kernel
theorem dX6_hasGame_1 : decode cX6_hasGame 1 = .ok (.ifCond .lt 15, 3) := by decide +kernel
theorem dX6_hasGame_4 : decode cX6_hasGame 4 = .ok (.iload_n 1, 1) := by decide +kernel
theorem dX6_hasGame_5 : decode cX6_hasGame 5 = .ok (.aload_n 0, 1) := by decide +kernel
theorem dX6_hasGame_6 : decode cX6_hasGame 6 = .ok (.getfield 15, 3) := by decide +kernel
theorem dX6_hasGame_9 : decode cX6_hasGame 9 = .ok (.if_icmp .ge 7, 3) := by decide +kernel
theorem dX6_hasGame_12 : decode cX6_hasGame 12 = .ok (.iconst 1, 1) := by decide +kernel
theorem dX6_hasGame_13 : decode cX6_hasGame 13 = .ok (.goto 4, 3) := by decide +kernel
theorem dX6_hasGame_16 : decode cX6_hasGame 16 = .ok (.iconst 0, 1) := by decide +kernel
theorem dX6_hasGame_17 : decode cX6_hasGame 17 = .ok (.ireturn, 1) := by decide +kernel
theorem dX6_of_0 : decode cX6_of 0 = .ok (.aload_n 0, 1) := by decide +kernel
theorem dX6_of_1 : decode cX6_of 1 = .ok (.getfield 9, 3) := by decide +kernel
theorem dX6_of_4 : decode cX6_of 4 = .ok (.bipush 6, 2) := by decide +kernel
theorem dX6_of_6 : decode cX6_of 6 = .ok (.iload_n 1, 1) := by decide +kernel
theorem dX6_of_7 : decode cX6_of 7 = .ok (.imul, 1) := by decide +kernel
theorem dX6_of_8 : decode cX6_of 8 = .ok (.iload_n 2, 1) := by decide +kernel
theorem dX6_of_9 : decode cX6_of 9 = .ok (.iadd, 1) := by decide +kernel
theorem dX6_of_10 : decode cX6_of 10 = .ok (.invokestatic 59, 3) := by decide +kernel
theorem dX6_of_13 : decode cX6_of 13 = .ok (.ireturn, 1) := by decide +kernel
theorem dX6_plays_0 : decode cX6_plays 0 = .ok (.aload_n 0, 1) := by decide +kernel
theorem dX6_plays_1 : decode cX6_plays 1 = .ok (.iload_n 1, 1) := by decide +kernel
theorem dX6_plays_2 : decode cX6_plays 2 = .ok (.iconst 0, 1) := by decide +kernel
theorem dX6_plays_3 : decode cX6_plays 3 = .ok (.invokevirtual 63, 3) := by decide +kernel
theorem dX6_plays_6 : decode cX6_plays 6 = .ok (.iload_n 2, 1) := by decide +kernel
theorem dX6_plays_7 : decode cX6_plays 7 = .ok (.if_icmp .eq 13, 3) := by decide +kernel
theorem dX6_plays_10 : decode cX6_plays 10 = .ok (.aload_n 0, 1) := by decide +kernel
theorem dX6_plays_11 : decode cX6_plays 11 = .ok (.iload_n 1, 1) := by decide +kernel
theorem dX6_plays_12 : decode cX6_plays 12 = .ok (.iconst 1, 1) := by decide +kernel
theorem dX6_plays_13 : decode cX6_plays 13 = .ok (.invokevirtual 63, 3) := by decide +kernel
theorem dX6_plays_16 : decode cX6_plays 16 = .ok (.iload_n 2, 1) := by decide +kernel
theorem dX6_plays_17 : decode cX6_plays 17 = .ok (.if_icmp .ne 7, 3) := by decide +kernel
theorem dX6_plays_20 : decode cX6_plays 20 = .ok (.iconst 1, 1) := by decide +kernel
theorem dX6_plays_21 : decode cX6_plays 21 = .ok (.goto 4, 3) := by decide +kernel
theorem dX6_plays_24 : decode cX6_plays 24 = .ok (.iconst 0, 1) := by decide +kernel
theorem dX6_plays_25 : decode cX6_plays 25 = .ok (.ireturn, 1) := by decide +kernel
theorem dX6_restOf_0 : decode cX6_restOf 0 = .ok (.iload_n 1, 1) := by decide +kernel
theorem dX6_restOf_1 : decode cX6_restOf 1 = .ok (.iconst 1, 1) := by decide +kernel
theorem dX6_restOf_2 : decode cX6_restOf 2 = .ok (.isub, 1) := by decide +kernel
theorem dX6_restOf_3 : decode cX6_restOf 3 = .ok (.istore_n 3, 1) := by decide +kernel
theorem dX6_restOf_4 : decode cX6_restOf 4 = .ok (.iload_n 3, 1) := by decide +kernel
theorem dX6_restOf_5 : decode cX6_restOf 5 = .ok (.ifCond .lt 32, 3) := by decide +kernel
theorem dX6_restOf_8 : decode cX6_restOf 8 = .ok (.aload_n 0, 1) := by decide +kernel
theorem dX6_restOf_9 : decode cX6_restOf 9 = .ok (.iload_n 3, 1) := by decide +kernel
theorem dX6_restOf_10 : decode cX6_restOf 10 = .ok (.iload_n 2, 1) := by decide +kernel
theorem dX6_restOf_11 : decode cX6_restOf 11 = .ok (.invokevirtual 66, 3) := by decide +kernel
theorem dX6_restOf_14 : decode cX6_restOf 14 = .ok (.ifCond .eq 17, 3) := by decide +kernel
theorem dX6_restOf_17 : decode cX6_restOf 17 = .ok (.aload_n 0, 1) := by decide +kernel
theorem dX6_restOf_18 : decode cX6_restOf 18 = .ok (.iload_n 1, 1) := by decide +kernel
theorem dX6_restOf_19 : decode cX6_restOf 19 = .ok (.iconst 2, 1) := by decide +kernel
theorem dX6_restOf_20 : decode cX6_restOf 20 = .ok (.invokevirtual 63, 3) := by decide +kernel
theorem dX6_restOf_23 : decode cX6_restOf 23 = .ok (.aload_n 0, 1) := by decide +kernel
theorem dX6_restOf_24 : decode cX6_restOf 24 = .ok (.iload_n 3, 1) := by decide +kernel
theorem dX6_restOf_25 : decode cX6_restOf 25 = .ok (.iconst 2, 1) := by decide +kernel
theorem dX6_restOf_26 : decode cX6_restOf 26 = .ok (.invokevirtual 63, 3) := by decide +kernel
theorem dX6_restOf_29 : decode cX6_restOf 29 = .ok (.isub, 1) := by decide +kernel
theorem dX6_restOf_30 : decode cX6_restOf 30 = .ok (.ireturn, 1) := by decide +kernel
theorem dX6_restOf_31 : decode cX6_restOf 31 = .ok (.iinc 3 (-1), 3) := by decide +kernel
theorem dX6_restOf_34 : decode cX6_restOf 34 = .ok (.goto (-30), 3) := by decide +kernel
theorem dX6_restOf_37 : decode cX6_restOf 37 = .ok (.bipush 30, 2) := by decide +kernel
theorem dX6_restOf_39 : decode cX6_restOf 39 = .ok (.ireturn, 1) := by decide +kernel
theorem dX6_hosted_0 : decode cX6_hosted 0 = .ok (.iconst 0, 1) := by decide +kernel
theorem dX6_hosted_1 : decode cX6_hosted 1 = .ok (.istore_n 3, 1) := by decide +kernel
theorem dX6_hosted_2 : decode cX6_hosted 2 = .ok (.iconst 0, 1) := by decide +kernel
theorem dX6_hosted_3 : decode cX6_hosted 3 = .ok (.istore 4, 2) := by decide +kernel
theorem dX6_hosted_5 : decode cX6_hosted 5 = .ok (.iload 4, 2) := by decide +kernel
theorem dX6_hosted_7 : decode cX6_hosted 7 = .ok (.aload_n 0, 1) := by decide +kernel
theorem dX6_hosted_8 : decode cX6_hosted 8 = .ok (.getfield 15, 3) := by decide +kernel
theorem dX6_hosted_11 : decode cX6_hosted 11 = .ok (.if_icmp .ge 34, 3) := by decide +kernel
theorem dX6_hosted_14 : decode cX6_hosted 14 = .ok (.aload_n 0, 1) := by decide +kernel
theorem dX6_hosted_15 : decode cX6_hosted 15 = .ok (.iload 4, 2) := by decide +kernel
theorem dX6_hosted_17 : decode cX6_hosted 17 = .ok (.iconst 0, 1) := by decide +kernel
theorem dX6_hosted_18 : decode cX6_hosted 18 = .ok (.invokevirtual 63, 3) := by decide +kernel
theorem dX6_hosted_21 : decode cX6_hosted 21 = .ok (.iload_n 1, 1) := by decide +kernel
theorem dX6_hosted_22 : decode cX6_hosted 22 = .ok (.if_icmp .ne 17, 3) := by decide +kernel
theorem dX6_hosted_25 : decode cX6_hosted 25 = .ok (.aload_n 0, 1) := by decide +kernel
theorem dX6_hosted_26 : decode cX6_hosted 26 = .ok (.iload 4, 2) := by decide +kernel
theorem dX6_hosted_28 : decode cX6_hosted 28 = .ok (.iconst 1, 1) := by decide +kernel
theorem dX6_hosted_29 : decode cX6_hosted 29 = .ok (.invokevirtual 63, 3) := by decide +kernel
theorem dX6_hosted_32 : decode cX6_hosted 32 = .ok (.iload_n 2, 1) := by decide +kernel
theorem dX6_hosted_33 : decode cX6_hosted 33 = .ok (.if_icmp .ne 6, 3) := by decide +kernel
theorem dX6_hosted_36 : decode cX6_hosted 36 = .ok (.iinc 3 1, 3) := by decide +kernel
theorem dX6_hosted_39 : decode cX6_hosted 39 = .ok (.iinc 4 1, 3) := by decide +kernel
theorem dX6_hosted_42 : decode cX6_hosted 42 = .ok (.goto (-37), 3) := by decide +kernel
theorem dX6_hosted_45 : decode cX6_hosted 45 = .ok (.iload_n 3, 1) := by decide +kernel
theorem dX6_hosted_46 : decode cX6_hosted 46 = .ok (.ireturn, 1) := by decide +kernel
theorem dX7_init_0 : decode cX7_init 0 = .ok (.aload_n 0, 1) := by decide +kernel
theorem dX7_init_1 : decode cX7_init 1 = .ok (.invokespecial 3, 3) := by decide +kernel
theorem dX7_init_4 : decode cX7_init 4 = .ok (.aload_n 0, 1) := by decide +kernel
theorem dX7_init_5 : decode cX7_init 5 = .ok (.iconst 0, 1) := by decide +kernel
theorem dX7_init_6 : decode cX7_init 6 = .ok (.newarray .byte, 2) := by decide +kernel
theorem dX7_init_8 : decode cX7_init 8 = .ok (.putfield 9, 3) := by decide +kernel
theorem dX7_init_11 : decode cX7_init 11 = .ok (.aload_n 0, 1) := by decide +kernel
theorem dX7_init_12 : decode cX7_init 12 = .ok (.iconst 0, 1) := by decide +kernel
theorem dX7_init_13 : decode cX7_init 13 = .ok (.putfield 15, 3) := by decide +kernel
theorem dX7_init_16 : decode cX7_init 16 = .ok (.aload_n 0, 1) := by decide +kernel
theorem dX7_init_17 : decode cX7_init 17 = .ok (.iconst 0, 1) := by decide +kernel
theorem dX7_init_18 : decode cX7_init 18 = .ok (.putfield 19, 3) := by decide +kernel
theorem dX7_init_21 : decode cX7_init 21 = .ok (.aload_n 0, 1) := by decide +kernel
theorem dX7_init_22 : decode cX7_init 22 = .ok (.iconst 0, 1) := by decide +kernel
theorem dX7_init_23 : decode cX7_init 23 = .ok (.putfield 22, 3) := by decide +kernel
theorem dX7_init_26 : decode cX7_init 26 = .ok (.aload_n 0, 1) := by decide +kernel
theorem dX7_init_27 : decode cX7_init 27 = .ok (.iconst 0, 1) := by decide +kernel
theorem dX7_init_28 : decode cX7_init 28 = .ok (.putfield 25, 3) := by decide +kernel
theorem dX7_init_31 : decode cX7_init 31 = .ok (.aload_n 0, 1) := by decide +kernel
theorem dX7_init_32 : decode cX7_init 32 = .ok (.iconst 0, 1) := by decide +kernel
theorem dX7_init_33 : decode cX7_init 33 = .ok (.putfield 28, 3) := by decide +kernel
theorem dX7_init_36 : decode cX7_init 36 = .ok (.aload_n 0, 1) := by decide +kernel
theorem dX7_init_37 : decode cX7_init 37 = .ok (.iconst 3, 1) := by decide +kernel
theorem dX7_init_38 : decode cX7_init 38 = .ok (.newarray .int, 2) := by decide +kernel
theorem dX7_init_40 : decode cX7_init 40 = .ok (.putfield 31, 3) := by decide +kernel
theorem dX7_init_43 : decode cX7_init 43 = .ok (.aload_n 0, 1) := by decide +kernel
theorem dX7_init_44 : decode cX7_init 44 = .ok (.iconst 3, 1) := by decide +kernel
theorem dX7_init_45 : decode cX7_init 45 = .ok (.newarray .int, 2) := by decide +kernel
theorem dX7_init_47 : decode cX7_init 47 = .ok (.putfield 35, 3) := by decide +kernel
theorem dX7_init_50 : decode cX7_init 50 = .ok (.aload_n 0, 1) := by decide +kernel
theorem dX7_init_51 : decode cX7_init 51 = .ok (.iconst 0, 1) := by decide +kernel
theorem dX7_init_52 : decode cX7_init 52 = .ok (.putfield 38, 3) := by decide +kernel
theorem dX7_init_55 : decode cX7_init 55 = .ok (.aload_n 0, 1) := by decide +kernel
theorem dX7_init_56 : decode cX7_init 56 = .ok (.iconst (-1), 1) := by decide +kernel
theorem dX7_init_57 : decode cX7_init 57 = .ok (.putfield 41, 3) := by decide +kernel
theorem dX7_init_60 : decode cX7_init 60 = .ok (.return_, 1) := by decide +kernel
theorem dX7_read_0 : decode cX7_read 0 = .ok (.aload_n 0, 1) := by decide +kernel
theorem dX7_read_1 : decode cX7_read 1 = .ok (.aload_n 1, 1) := by decide +kernel
theorem dX7_read_2 : decode cX7_read 2 = .ok (.putfield 9, 3) := by decide +kernel
theorem dX7_read_5 : decode cX7_read 5 = .ok (.aload_n 0, 1) := by decide +kernel
theorem dX7_read_6 : decode cX7_read 6 = .ok (.iload_n 2, 1) := by decide +kernel
theorem dX7_read_7 : decode cX7_read 7 = .ok (.aload_n 1, 1) := by decide +kernel
theorem dX7_read_8 : decode cX7_read 8 = .ok (.arraylength, 1) := by decide +kernel
theorem dX7_read_9 : decode cX7_read 9 = .ok (.invokestatic 44, 3) := by decide +kernel
theorem dX7_read_12 : decode cX7_read 12 = .ok (.putfield 15, 3) := by decide +kernel
theorem dX7_read_15 : decode cX7_read 15 = .ok (.aload_n 0, 1) := by decide +kernel
theorem dX7_read_16 : decode cX7_read 16 = .ok (.iconst 0, 1) := by decide +kernel
theorem dX7_read_17 : decode cX7_read 17 = .ok (.putfield 19, 3) := by decide +kernel
theorem dX7_read_20 : decode cX7_read 20 = .ok (.aload_n 0, 1) := by decide +kernel
theorem dX7_read_21 : decode cX7_read 21 = .ok (.iconst 0, 1) := by decide +kernel
theorem dX7_read_22 : decode cX7_read 22 = .ok (.putfield 38, 3) := by decide +kernel
theorem dX7_read_25 : decode cX7_read 25 = .ok (.aload_n 0, 1) := by decide +kernel
theorem dX7_read_26 : decode cX7_read 26 = .ok (.iconst (-1), 1) := by decide +kernel
theorem dX7_read_27 : decode cX7_read 27 = .ok (.putfield 41, 3) := by decide +kernel
theorem dX7_read_30 : decode cX7_read 30 = .ok (.iconst 0, 1) := by decide +kernel
theorem dX7_read_31 : decode cX7_read 31 = .ok (.istore 5, 2) := by decide +kernel
theorem dX7_read_33 : decode cX7_read 33 = .ok (.iload 5, 2) := by decide +kernel
theorem dX7_read_35 : decode cX7_read 35 = .ok (.aload_n 0, 1) := by decide +kernel
theorem dX7_read_36 : decode cX7_read 36 = .ok (.getfield 15, 3) := by decide +kernel
theorem dX7_read_39 : decode cX7_read 39 = .ok (.if_icmp .gt 41, 3) := by decide +kernel
theorem dX7_read_42 : decode cX7_read 42 = .ok (.aload_n 0, 1) := by decide +kernel
theorem dX7_read_43 : decode cX7_read 43 = .ok (.invokevirtual 50, 3) := by decide +kernel
theorem dX7_read_46 : decode cX7_read 46 = .ok (.aload_n 0, 1) := by decide +kernel
theorem dX7_read_47 : decode cX7_read 47 = .ok (.getfield 22, 3) := by decide +kernel
theorem dX7_read_50 : decode cX7_read 50 = .ok (.ifCond .ne 4, 3) := by decide +kernel
theorem dX7_read_53 : decode cX7_read 53 = .ok (.return_, 1) := by decide +kernel
theorem dX7_read_54 : decode cX7_read 54 = .ok (.aload_n 0, 1) := by decide +kernel
theorem dX7_read_55 : decode cX7_read 55 = .ok (.iload_n 3, 1) := by decide +kernel
theorem dX7_read_56 : decode cX7_read 56 = .ok (.aload 4, 2) := by decide +kernel
theorem dX7_read_58 : decode cX7_read 58 = .ok (.invokevirtual 53, 3) := by decide +kernel
theorem dX7_read_61 : decode cX7_read 61 = .ok (.ifCond .ne 13, 3) := by decide +kernel
theorem dX7_read_64 : decode cX7_read 64 = .ok (.aload_n 0, 1) := by decide +kernel
theorem dX7_read_65 : decode cX7_read 65 = .ok (.iconst 1, 1) := by decide +kernel
theorem dX7_read_66 : decode cX7_read 66 = .ok (.aload_n 0, 1) := by decide +kernel
theorem dX7_read_67 : decode cX7_read 67 = .ok (.getfield 25, 3) := by decide +kernel
theorem dX7_read_70 : decode cX7_read 70 = .ok (.invokevirtual 57, 3) := by decide +kernel
theorem dX7_read_73 : decode cX7_read 73 = .ok (.return_, 1) := by decide +kernel
theorem dX7_read_74 : decode cX7_read 74 = .ok (.iinc 5 1, 3) := by decide +kernel
theorem dX7_read_77 : decode cX7_read 77 = .ok (.goto (-44), 3) := by decide +kernel
theorem dX7_read_80 : decode cX7_read 80 = .ok (.return_, 1) := by decide +kernel
theorem dX7_fail_0 : decode cX7_fail 0 = .ok (.aload_n 0, 1) := by decide +kernel
theorem dX7_fail_1 : decode cX7_fail 1 = .ok (.iload_n 1, 1) := by decide +kernel
theorem dX7_fail_2 : decode cX7_fail 2 = .ok (.putfield 38, 3) := by decide +kernel
theorem dX7_fail_5 : decode cX7_fail 5 = .ok (.aload_n 0, 1) := by decide +kernel
theorem dX7_fail_6 : decode cX7_fail 6 = .ok (.iload_n 2, 1) := by decide +kernel
theorem dX7_fail_7 : decode cX7_fail 7 = .ok (.putfield 41, 3) := by decide +kernel
theorem dX7_fail_10 : decode cX7_fail 10 = .ok (.return_, 1) := by decide +kernel
theorem dX7_readLine_0 : decode cX7_readLine 0 = .ok (.aload_n 0, 1) := by decide +kernel
theorem dX7_readLine_1 : decode cX7_readLine 1 = .ok (.getfield 25, 3) := by decide +kernel
theorem dX7_readLine_4 : decode cX7_readLine 4 = .ok (.istore_n 3, 1) := by decide +kernel
theorem dX7_readLine_5 : decode cX7_readLine 5 = .ok (.aload_n 0, 1) := by decide +kernel
theorem dX7_readLine_6 : decode cX7_readLine 6 = .ok (.getfield 22, 3) := by decide +kernel
theorem dX7_readLine_9 : decode cX7_readLine 9 = .ok (.iconst 1, 1) := by decide +kernel
theorem dX7_readLine_10 : decode cX7_readLine 10 = .ok (.if_icmp .ne 11, 3) := by decide +kernel
theorem dX7_readLine_13 : decode cX7_readLine 13 = .ok (.aload_n 0, 1) := by decide +kernel
theorem dX7_readLine_14 : decode cX7_readLine 14 = .ok (.iload_n 1, 1) := by decide +kernel
theorem dX7_readLine_15 : decode cX7_readLine 15 = .ok (.invokevirtual 61, 3) := by decide +kernel
theorem dX7_readLine_18 : decode cX7_readLine 18 = .ok (.goto 4, 3) := by decide +kernel
theorem dX7_readLine_21 : decode cX7_readLine 21 = .ok (.iconst (-1), 1) := by decide +kernel
theorem dX7_readLine_22 : decode cX7_readLine 22 = .ok (.istore 4, 2) := by decide +kernel
theorem dX7_readLine_24 : decode cX7_readLine 24 = .ok (.iload 4, 2) := by decide +kernel
theorem dX7_readLine_26 : decode cX7_readLine 26 = .ok (.iconst (-1), 1) := by decide +kernel
theorem dX7_readLine_27 : decode cX7_readLine 27 = .ok (.if_icmp .ne 5, 3) := by decide +kernel
theorem dX7_readLine_30 : decode cX7_readLine 30 = .ok (.iconst 0, 1) := by decide +kernel
theorem dX7_readLine_31 : decode cX7_readLine 31 = .ok (.ireturn, 1) := by decide +kernel
theorem dX7_readLine_32 : decode cX7_readLine 32 = .ok (.iload 4, 2) := by decide +kernel
theorem dX7_readLine_34 : decode cX7_readLine 34 = .ok (.invokestatic 65, 3) := by decide +kernel
theorem dX7_readLine_37 : decode cX7_readLine 37 = .ok (.istore 5, 2) := by decide +kernel
theorem dX7_readLine_39 : decode cX7_readLine 39 = .ok (.iconst 0, 1) := by decide +kernel
theorem dX7_readLine_40 : decode cX7_readLine 40 = .ok (.istore 6, 2) := by decide +kernel
theorem dX7_readLine_42 : decode cX7_readLine 42 = .ok (.iload 6, 2) := by decide +kernel
theorem dX7_readLine_44 : decode cX7_readLine 44 = .ok (.iconst 3, 1) := by decide +kernel
theorem dX7_readLine_45 : decode cX7_readLine 45 = .ok (.if_icmp .ge 60, 3) := by decide +kernel
theorem dX7_readLine_48 : decode cX7_readLine 48 = .ok (.aload_n 0, 1) := by decide +kernel
theorem dX7_readLine_49 : decode cX7_readLine 49 = .ok (.getfield 31, 3) := by decide +kernel
theorem dX7_readLine_52 : decode cX7_readLine 52 = .ok (.iload 6, 2) := by decide +kernel
theorem dX7_readLine_54 : decode cX7_readLine 54 = .ok (.iconst 0, 1) := by decide +kernel
theorem dX7_readLine_55 : decode cX7_readLine 55 = .ok (.iastore, 1) := by decide +kernel
theorem dX7_readLine_56 : decode cX7_readLine 56 = .ok (.iload 6, 2) := by decide +kernel
theorem dX7_readLine_58 : decode cX7_readLine 58 = .ok (.iload 5, 2) := by decide +kernel
theorem dX7_readLine_60 : decode cX7_readLine 60 = .ok (.if_icmp .ge 39, 3) := by decide +kernel
theorem dX7_readLine_63 : decode cX7_readLine 63 = .ok (.aload_n 0, 1) := by decide +kernel
theorem dX7_readLine_64 : decode cX7_readLine 64 = .ok (.invokevirtual 50, 3) := by decide +kernel
theorem dX7_readLine_67 : decode cX7_readLine 67 = .ok (.aload_n 0, 1) := by decide +kernel
theorem dX7_readLine_68 : decode cX7_readLine 68 = .ok (.getfield 22, 3) := by decide +kernel
theorem dX7_readLine_71 : decode cX7_readLine 71 = .ok (.iconst 2, 1) := by decide +kernel
theorem dX7_readLine_72 : decode cX7_readLine 72 = .ok (.if_icmp .eq 5, 3) := by decide +kernel
theorem dX7_readLine_75 : decode cX7_readLine 75 = .ok (.iconst 0, 1) := by decide +kernel
theorem dX7_readLine_76 : decode cX7_readLine 76 = .ok (.ireturn, 1) := by decide +kernel
theorem dX7_readLine_77 : decode cX7_readLine 77 = .ok (.aload_n 0, 1) := by decide +kernel
theorem dX7_readLine_78 : decode cX7_readLine 78 = .ok (.getfield 31, 3) := by decide +kernel
theorem dX7_readLine_81 : decode cX7_readLine 81 = .ok (.iload 6, 2) := by decide +kernel
theorem dX7_readLine_83 : decode cX7_readLine 83 = .ok (.aload_n 0, 1) := by decide +kernel
theorem dX7_readLine_84 : decode cX7_readLine 84 = .ok (.getfield 28, 3) := by decide +kernel
theorem dX7_readLine_87 : decode cX7_readLine 87 = .ok (.iastore, 1) := by decide +kernel
theorem dX7_readLine_88 : decode cX7_readLine 88 = .ok (.aload_n 0, 1) := by decide +kernel
theorem dX7_readLine_89 : decode cX7_readLine 89 = .ok (.getfield 35, 3) := by decide +kernel
theorem dX7_readLine_92 : decode cX7_readLine 92 = .ok (.iload 6, 2) := by decide +kernel
theorem dX7_readLine_94 : decode cX7_readLine 94 = .ok (.aload_n 0, 1) := by decide +kernel
theorem dX7_readLine_95 : decode cX7_readLine 95 = .ok (.getfield 25, 3) := by decide +kernel
theorem dX7_readLine_98 : decode cX7_readLine 98 = .ok (.iastore, 1) := by decide +kernel
theorem dX7_readLine_99 : decode cX7_readLine 99 = .ok (.iinc 6 1, 3) := by decide +kernel
theorem dX7_readLine_102 : decode cX7_readLine 102 = .ok (.goto (-60), 3) := by decide +kernel
theorem dX7_readLine_105 : decode cX7_readLine 105 = .ok (.aload_n 0, 1) := by decide +kernel
theorem dX7_readLine_106 : decode cX7_readLine 106 = .ok (.invokevirtual 50, 3) := by decide +kernel
theorem dX7_readLine_109 : decode cX7_readLine 109 = .ok (.aload_n 0, 1) := by decide +kernel
theorem dX7_readLine_110 : decode cX7_readLine 110 = .ok (.getfield 22, 3) := by decide +kernel
theorem dX7_readLine_113 : decode cX7_readLine 113 = .ok (.iconst 3, 1) := by decide +kernel
theorem dX7_readLine_114 : decode cX7_readLine 114 = .ok (.if_icmp .eq 5, 3) := by decide +kernel
theorem dX7_readLine_117 : decode cX7_readLine 117 = .ok (.iconst 0, 1) := by decide +kernel
theorem dX7_readLine_118 : decode cX7_readLine 118 = .ok (.ireturn, 1) := by decide +kernel
theorem dX7_readLine_119 : decode cX7_readLine 119 = .ok (.aload_n 0, 1) := by decide +kernel
theorem dX7_readLine_120 : decode cX7_readLine 120 = .ok (.getfield 38, 3) := by decide +kernel
theorem dX7_readLine_123 : decode cX7_readLine 123 = .ok (.ifCond .ne 13, 3) := by decide +kernel
theorem dX7_readLine_126 : decode cX7_readLine 126 = .ok (.aload_n 0, 1) := by decide +kernel
theorem dX7_readLine_127 : decode cX7_readLine 127 = .ok (.iload 4, 2) := by decide +kernel
theorem dX7_readLine_129 : decode cX7_readLine 129 = .ok (.iload 5, 2) := by decide +kernel
theorem dX7_readLine_131 : decode cX7_readLine 131 = .ok (.iload_n 3, 1) := by decide +kernel
theorem dX7_readLine_132 : decode cX7_readLine 132 = .ok (.aload_n 2, 1) := by decide +kernel
theorem dX7_readLine_133 : decode cX7_readLine 133 = .ok (.invokevirtual 68, 3) := by decide +kernel
theorem dX7_readLine_136 : decode cX7_readLine 136 = .ok (.iconst 1, 1) := by decide +kernel
theorem dX7_readLine_137 : decode cX7_readLine 137 = .ok (.ireturn, 1) := by decide +kernel
theorem dX7_check_0 : decode cX7_check 0 = .ok (.aload 4, 2) := by decide +kernel
theorem dX7_check_2 : decode cX7_check 2 = .ok (.iload_n 1, 1) := by decide +kernel
theorem dX7_check_3 : decode cX7_check 3 = .ok (.invokevirtual 72, 3) := by decide +kernel
theorem dX7_check_6 : decode cX7_check 6 = .ok (.ifCond .eq 10, 3) := by decide +kernel
theorem dX7_check_9 : decode cX7_check 9 = .ok (.aload_n 0, 1) := by decide +kernel
theorem dX7_check_10 : decode cX7_check 10 = .ok (.iconst 3, 1) := by decide +kernel
theorem dX7_check_11 : decode cX7_check 11 = .ok (.iload_n 3, 1) := by decide +kernel
theorem dX7_check_12 : decode cX7_check 12 = .ok (.invokevirtual 57, 3) := by decide +kernel
theorem dX7_check_15 : decode cX7_check 15 = .ok (.return_, 1) := by decide +kernel
theorem dX7_check_16 : decode cX7_check 16 = .ok (.iconst 0, 1) := by decide +kernel
theorem dX7_check_17 : decode cX7_check 17 = .ok (.istore 5, 2) := by decide +kernel
theorem dX7_check_19 : decode cX7_check 19 = .ok (.iload 5, 2) := by decide +kernel
theorem dX7_check_21 : decode cX7_check 21 = .ok (.iload_n 2, 1) := by decide +kernel
theorem dX7_check_22 : decode cX7_check 22 = .ok (.if_icmp .ge 104, 3) := by decide +kernel
theorem dX7_check_25 : decode cX7_check 25 = .ok (.iload 5, 2) := by decide +kernel
theorem dX7_check_27 : decode cX7_check 27 = .ok (.iconst 3, 1) := by decide +kernel
theorem dX7_check_28 : decode cX7_check 28 = .ok (.if_icmp .ge 98, 3) := by decide +kernel
theorem dX7_check_31 : decode cX7_check 31 = .ok (.iload 5, 2) := by decide +kernel
theorem dX7_check_33 : decode cX7_check 33 = .ok (.iconst 1, 1) := by decide +kernel
theorem dX7_check_34 : decode cX7_check 34 = .ok (.if_icmp .ne 29, 3) := by decide +kernel
theorem dX7_check_37 : decode cX7_check 37 = .ok (.iload_n 1, 1) := by decide +kernel
theorem dX7_check_38 : decode cX7_check 38 = .ok (.invokestatic 78, 3) := by decide +kernel
theorem dX7_check_41 : decode cX7_check 41 = .ok (.ifCond .eq 22, 3) := by decide +kernel
theorem dX7_check_44 : decode cX7_check 44 = .ok (.aload_n 0, 1) := by decide +kernel
theorem dX7_check_45 : decode cX7_check 45 = .ok (.getfield 31, 3) := by decide +kernel
theorem dX7_check_48 : decode cX7_check 48 = .ok (.iconst 1, 1) := by decide +kernel
theorem dX7_check_49 : decode cX7_check 49 = .ok (.iaload, 1) := by decide +kernel
theorem dX7_check_50 : decode cX7_check 50 = .ok (.aload_n 0, 1) := by decide +kernel
theorem dX7_check_51 : decode cX7_check 51 = .ok (.getfield 31, 3) := by decide +kernel
theorem dX7_check_54 : decode cX7_check 54 = .ok (.iconst 0, 1) := by decide +kernel
theorem dX7_check_55 : decode cX7_check 55 = .ok (.iaload, 1) := by decide +kernel
theorem dX7_check_56 : decode cX7_check 56 = .ok (.if_icmp .ne 7, 3) := by decide +kernel
theorem dX7_check_59 : decode cX7_check 59 = .ok (.iconst 1, 1) := by decide +kernel
theorem dX7_check_60 : decode cX7_check 60 = .ok (.goto 4, 3) := by decide +kernel
theorem dX7_check_63 : decode cX7_check 63 = .ok (.iconst 0, 1) := by decide +kernel
theorem dX7_check_64 : decode cX7_check 64 = .ok (.istore 6, 2) := by decide +kernel
theorem dX7_check_66 : decode cX7_check 66 = .ok (.iload 6, 2) := by decide +kernel
theorem dX7_check_68 : decode cX7_check 68 = .ok (.ifCond .ne 39, 3) := by decide +kernel
theorem dX7_check_71 : decode cX7_check 71 = .ok (.aload_n 0, 1) := by decide +kernel
theorem dX7_check_72 : decode cX7_check 72 = .ok (.getfield 31, 3) := by decide +kernel
theorem dX7_check_75 : decode cX7_check 75 = .ok (.iload 5, 2) := by decide +kernel
theorem dX7_check_77 : decode cX7_check 77 = .ok (.iaload, 1) := by decide +kernel
theorem dX7_check_78 : decode cX7_check 78 = .ok (.aload 4, 2) := by decide +kernel
theorem dX7_check_80 : decode cX7_check 80 = .ok (.iload_n 1, 1) := by decide +kernel
theorem dX7_check_81 : decode cX7_check 81 = .ok (.iload 5, 2) := by decide +kernel
theorem dX7_check_83 : decode cX7_check 83 = .ok (.invokevirtual 81, 3) := by decide +kernel
theorem dX7_check_86 : decode cX7_check 86 = .ok (.if_icmp .lt 21, 3) := by decide +kernel
theorem dX7_check_89 : decode cX7_check 89 = .ok (.aload_n 0, 1) := by decide +kernel
theorem dX7_check_90 : decode cX7_check 90 = .ok (.getfield 31, 3) := by decide +kernel
theorem dX7_check_93 : decode cX7_check 93 = .ok (.iload 5, 2) := by decide +kernel
theorem dX7_check_95 : decode cX7_check 95 = .ok (.iaload, 1) := by decide +kernel
theorem dX7_check_96 : decode cX7_check 96 = .ok (.aload 4, 2) := by decide +kernel
theorem dX7_check_98 : decode cX7_check 98 = .ok (.iload_n 1, 1) := by decide +kernel
theorem dX7_check_99 : decode cX7_check 99 = .ok (.iload 5, 2) := by decide +kernel
theorem dX7_check_101 : decode cX7_check 101 = .ok (.invokevirtual 84, 3) := by decide +kernel
theorem dX7_check_104 : decode cX7_check 104 = .ok (.if_icmp .le 16, 3) := by decide +kernel
theorem dX7_check_107 : decode cX7_check 107 = .ok (.aload_n 0, 1) := by decide +kernel
theorem dX7_check_108 : decode cX7_check 108 = .ok (.iconst 2, 1) := by decide +kernel
theorem dX7_check_109 : decode cX7_check 109 = .ok (.aload_n 0, 1) := by decide +kernel
theorem dX7_check_110 : decode cX7_check 110 = .ok (.getfield 35, 3) := by decide +kernel
theorem dX7_check_113 : decode cX7_check 113 = .ok (.iload 5, 2) := by decide +kernel
theorem dX7_check_115 : decode cX7_check 115 = .ok (.iaload, 1) := by decide +kernel
theorem dX7_check_116 : decode cX7_check 116 = .ok (.invokevirtual 57, 3) := by decide +kernel
theorem dX7_check_119 : decode cX7_check 119 = .ok (.return_, 1) := by decide +kernel
theorem dX7_check_120 : decode cX7_check 120 = .ok (.iinc 5 1, 3) := by decide +kernel
theorem dX7_check_123 : decode cX7_check 123 = .ok (.goto (-104), 3) := by decide +kernel
theorem dX7_check_126 : decode cX7_check 126 = .ok (.aload 4, 2) := by decide +kernel
theorem dX7_check_128 : decode cX7_check 128 = .ok (.iload_n 1, 1) := by decide +kernel
theorem dX7_check_129 : decode cX7_check 129 = .ok (.aload_n 0, 1) := by decide +kernel
theorem dX7_check_130 : decode cX7_check 130 = .ok (.getfield 31, 3) := by decide +kernel
theorem dX7_check_133 : decode cX7_check 133 = .ok (.iconst 0, 1) := by decide +kernel
theorem dX7_check_134 : decode cX7_check 134 = .ok (.iaload, 1) := by decide +kernel
theorem dX7_check_135 : decode cX7_check 135 = .ok (.aload_n 0, 1) := by decide +kernel
theorem dX7_check_136 : decode cX7_check 136 = .ok (.getfield 31, 3) := by decide +kernel
theorem dX7_check_139 : decode cX7_check 139 = .ok (.iconst 1, 1) := by decide +kernel
theorem dX7_check_140 : decode cX7_check 140 = .ok (.iaload, 1) := by decide +kernel
theorem dX7_check_141 : decode cX7_check 141 = .ok (.aload_n 0, 1) := by decide +kernel
theorem dX7_check_142 : decode cX7_check 142 = .ok (.getfield 31, 3) := by decide +kernel
theorem dX7_check_145 : decode cX7_check 145 = .ok (.iconst 2, 1) := by decide +kernel
theorem dX7_check_146 : decode cX7_check 146 = .ok (.iaload, 1) := by decide +kernel
theorem dX7_check_147 : decode cX7_check 147 = .ok (.invokevirtual 87, 3) := by decide +kernel
theorem dX7_check_150 : decode cX7_check 150 = .ok (.return_, 1) := by decide +kernel
theorem dX7_wordOf_0 : decode cX7_wordOf 0 = .ok (.iload_n 0, 1) := by decide +kernel
theorem dX7_wordOf_1 : decode cX7_wordOf 1 = .ok (.tableswitch 174 0 26 #[123, 126, 129, 174, 174, 174, 174, 174, 174, 174, 132, 135, 138, 141, 144, 147, 150, 174, 174, 174, 153, 156, 159, 162, 165, 168, 171], 123) := by decide +kernel
theorem dX7_wordOf_124 : decode cX7_wordOf 124 = .ok (.ldc 91, 2) := by decide +kernel
theorem dX7_wordOf_126 : decode cX7_wordOf 126 = .ok (.areturn, 1) := by decide +kernel
theorem dX7_wordOf_127 : decode cX7_wordOf 127 = .ok (.ldc 93, 2) := by decide +kernel
theorem dX7_wordOf_129 : decode cX7_wordOf 129 = .ok (.areturn, 1) := by decide +kernel
theorem dX7_wordOf_130 : decode cX7_wordOf 130 = .ok (.ldc 95, 2) := by decide +kernel
theorem dX7_wordOf_132 : decode cX7_wordOf 132 = .ok (.areturn, 1) := by decide +kernel
theorem dX7_wordOf_133 : decode cX7_wordOf 133 = .ok (.ldc 97, 2) := by decide +kernel
theorem dX7_wordOf_135 : decode cX7_wordOf 135 = .ok (.areturn, 1) := by decide +kernel
theorem dX7_wordOf_136 : decode cX7_wordOf 136 = .ok (.ldc 99, 2) := by decide +kernel
theorem dX7_wordOf_138 : decode cX7_wordOf 138 = .ok (.areturn, 1) := by decide +kernel
theorem dX7_wordOf_139 : decode cX7_wordOf 139 = .ok (.ldc 95, 2) := by decide +kernel
theorem dX7_wordOf_141 : decode cX7_wordOf 141 = .ok (.areturn, 1) := by decide +kernel
theorem dX7_wordOf_142 : decode cX7_wordOf 142 = .ok (.ldc 101, 2) := by decide +kernel
theorem dX7_wordOf_144 : decode cX7_wordOf 144 = .ok (.areturn, 1) := by decide +kernel
theorem dX7_wordOf_145 : decode cX7_wordOf 145 = .ok (.ldc 103, 2) := by decide +kernel
theorem dX7_wordOf_147 : decode cX7_wordOf 147 = .ok (.areturn, 1) := by decide +kernel
theorem dX7_wordOf_148 : decode cX7_wordOf 148 = .ok (.ldc 105, 2) := by decide +kernel
theorem dX7_wordOf_150 : decode cX7_wordOf 150 = .ok (.areturn, 1) := by decide +kernel
theorem dX7_wordOf_151 : decode cX7_wordOf 151 = .ok (.ldc 107, 2) := by decide +kernel
theorem dX7_wordOf_153 : decode cX7_wordOf 153 = .ok (.areturn, 1) := by decide +kernel
theorem dX7_wordOf_154 : decode cX7_wordOf 154 = .ok (.ldc 109, 2) := by decide +kernel
theorem dX7_wordOf_156 : decode cX7_wordOf 156 = .ok (.areturn, 1) := by decide +kernel
theorem dX7_wordOf_157 : decode cX7_wordOf 157 = .ok (.ldc 111, 2) := by decide +kernel
theorem dX7_wordOf_159 : decode cX7_wordOf 159 = .ok (.areturn, 1) := by decide +kernel
theorem dX7_wordOf_160 : decode cX7_wordOf 160 = .ok (.ldc 113, 2) := by decide +kernel
theorem dX7_wordOf_162 : decode cX7_wordOf 162 = .ok (.areturn, 1) := by decide +kernel
theorem dX7_wordOf_163 : decode cX7_wordOf 163 = .ok (.ldc 115, 2) := by decide +kernel
theorem dX7_wordOf_165 : decode cX7_wordOf 165 = .ok (.areturn, 1) := by decide +kernel
theorem dX7_wordOf_166 : decode cX7_wordOf 166 = .ok (.ldc 117, 2) := by decide +kernel
theorem dX7_wordOf_168 : decode cX7_wordOf 168 = .ok (.areturn, 1) := by decide +kernel
theorem dX7_wordOf_169 : decode cX7_wordOf 169 = .ok (.ldc 119, 2) := by decide +kernel
theorem dX7_wordOf_171 : decode cX7_wordOf 171 = .ok (.areturn, 1) := by decide +kernel
theorem dX7_wordOf_172 : decode cX7_wordOf 172 = .ok (.ldc 121, 2) := by decide +kernel
theorem dX7_wordOf_174 : decode cX7_wordOf 174 = .ok (.areturn, 1) := by decide +kernel
theorem dX7_wordOf_175 : decode cX7_wordOf 175 = .ok (.ldc 123, 2) := by decide +kernel
theorem dX7_wordOf_177 : decode cX7_wordOf 177 = .ok (.areturn, 1) := by decide +kernel
theorem dX7_numbersOf_0 : decode cX7_numbersOf 0 = .ok (.iload_n 0, 1) := by decide +kernel
theorem dX7_numbersOf_1 : decode cX7_numbersOf 1 = .ok (.tableswitch 125 0 25 #[119, 125, 119, 125, 125, 125, 125, 125, 125, 125, 121, 121, 125, 125, 125, 125, 125, 125, 125, 125, 121, 123, 123, 123, 123, 121], 119) := by decide +kernel
theorem dX7_numbersOf_120 : decode cX7_numbersOf 120 = .ok (.iconst 3, 1) := by decide +kernel
theorem dX7_numbersOf_121 : decode cX7_numbersOf 121 = .ok (.ireturn, 1) := by decide +kernel
theorem dX7_numbersOf_122 : decode cX7_numbersOf 122 = .ok (.iconst 1, 1) := by decide +kernel
theorem dX7_numbersOf_123 : decode cX7_numbersOf 123 = .ok (.ireturn, 1) := by decide +kernel
theorem dX7_numbersOf_124 : decode cX7_numbersOf 124 = .ok (.iconst 0, 1) := by decide +kernel
theorem dX7_numbersOf_125 : decode cX7_numbersOf 125 = .ok (.ireturn, 1) := by decide +kernel
theorem dX7_numbersOf_126 : decode cX7_numbersOf 126 = .ok (.iconst 2, 1) := by decide +kernel
theorem dX7_numbersOf_127 : decode cX7_numbersOf 127 = .ok (.ireturn, 1) := by decide +kernel
theorem dX7_isCouple_0 : decode cX7_isCouple 0 = .ok (.iload_n 0, 1) := by decide +kernel
theorem dX7_isCouple_1 : decode cX7_isCouple 1 = .ok (.iconst 2, 1) := by decide +kernel
theorem dX7_isCouple_2 : decode cX7_isCouple 2 = .ok (.if_icmp .eq 9, 3) := by decide +kernel
theorem dX7_isCouple_5 : decode cX7_isCouple 5 = .ok (.iload_n 0, 1) := by decide +kernel
theorem dX7_isCouple_6 : decode cX7_isCouple 6 = .ok (.bipush 26, 2) := by decide +kernel
theorem dX7_isCouple_8 : decode cX7_isCouple 8 = .ok (.if_icmp .ne 7, 3) := by decide +kernel
theorem dX7_isCouple_11 : decode cX7_isCouple 11 = .ok (.iconst 1, 1) := by decide +kernel
theorem dX7_isCouple_12 : decode cX7_isCouple 12 = .ok (.goto 4, 3) := by decide +kernel
theorem dX7_isCouple_15 : decode cX7_isCouple 15 = .ok (.iconst 0, 1) := by decide +kernel
theorem dX7_isCouple_16 : decode cX7_isCouple 16 = .ok (.ireturn, 1) := by decide +kernel
theorem dX7_formOf_0 : decode cX7_formOf 0 = .ok (.iconst 0, 1) := by decide +kernel
theorem dX7_formOf_1 : decode cX7_formOf 1 = .ok (.istore_n 2, 1) := by decide +kernel
theorem dX7_formOf_2 : decode cX7_formOf 2 = .ok (.iload_n 2, 1) := by decide +kernel
theorem dX7_formOf_3 : decode cX7_formOf 3 = .ok (.bipush 10, 2) := by decide +kernel
theorem dX7_formOf_5 : decode cX7_formOf 5 = .ok (.if_icmp .ge 32, 3) := by decide +kernel
theorem dX7_formOf_8 : decode cX7_formOf 8 = .ok (.aload_n 0, 1) := by decide +kernel
theorem dX7_formOf_9 : decode cX7_formOf 9 = .ok (.bipush 10, 2) := by decide +kernel
theorem dX7_formOf_11 : decode cX7_formOf 11 = .ok (.iload_n 1, 1) := by decide +kernel
theorem dX7_formOf_12 : decode cX7_formOf 12 = .ok (.imul, 1) := by decide +kernel
theorem dX7_formOf_13 : decode cX7_formOf 13 = .ok (.iload_n 2, 1) := by decide +kernel
theorem dX7_formOf_14 : decode cX7_formOf 14 = .ok (.iadd, 1) := by decide +kernel
theorem dX7_formOf_15 : decode cX7_formOf 15 = .ok (.invokestatic 125, 3) := by decide +kernel
theorem dX7_formOf_18 : decode cX7_formOf 18 = .ok (.invokevirtual 129, 3) := by decide +kernel
theorem dX7_formOf_21 : decode cX7_formOf 21 = .ok (.ifCond .eq 10, 3) := by decide +kernel
theorem dX7_formOf_24 : decode cX7_formOf 24 = .ok (.bipush 10, 2) := by decide +kernel
theorem dX7_formOf_26 : decode cX7_formOf 26 = .ok (.iload_n 1, 1) := by decide +kernel
theorem dX7_formOf_27 : decode cX7_formOf 27 = .ok (.imul, 1) := by decide +kernel
theorem dX7_formOf_28 : decode cX7_formOf 28 = .ok (.iload_n 2, 1) := by decide +kernel
theorem dX7_formOf_29 : decode cX7_formOf 29 = .ok (.iadd, 1) := by decide +kernel
theorem dX7_formOf_30 : decode cX7_formOf 30 = .ok (.ireturn, 1) := by decide +kernel
theorem dX7_formOf_31 : decode cX7_formOf 31 = .ok (.iinc 2 1, 3) := by decide +kernel
theorem dX7_formOf_34 : decode cX7_formOf 34 = .ok (.goto (-32), 3) := by decide +kernel
theorem dX7_formOf_37 : decode cX7_formOf 37 = .ok (.iconst (-1), 1) := by decide +kernel
theorem dX7_formOf_38 : decode cX7_formOf 38 = .ok (.ireturn, 1) := by decide +kernel
theorem dX7_spells_0 : decode cX7_spells 0 = .ok (.aload_n 1, 1) := by decide +kernel
theorem dX7_spells_1 : decode cX7_spells 1 = .ok (.invokevirtual 133, 3) := by decide +kernel
theorem dX7_spells_4 : decode cX7_spells 4 = .ok (.aload_n 0, 1) := by decide +kernel
theorem dX7_spells_5 : decode cX7_spells 5 = .ok (.getfield 19, 3) := by decide +kernel
theorem dX7_spells_8 : decode cX7_spells 8 = .ok (.aload_n 0, 1) := by decide +kernel
theorem dX7_spells_9 : decode cX7_spells 9 = .ok (.getfield 25, 3) := by decide +kernel
theorem dX7_spells_12 : decode cX7_spells 12 = .ok (.isub, 1) := by decide +kernel
theorem dX7_spells_13 : decode cX7_spells 13 = .ok (.if_icmp .eq 5, 3) := by decide +kernel
theorem dX7_spells_16 : decode cX7_spells 16 = .ok (.iconst 0, 1) := by decide +kernel
theorem dX7_spells_17 : decode cX7_spells 17 = .ok (.ireturn, 1) := by decide +kernel
theorem dX7_spells_18 : decode cX7_spells 18 = .ok (.iconst 0, 1) := by decide +kernel
theorem dX7_spells_19 : decode cX7_spells 19 = .ok (.istore_n 2, 1) := by decide +kernel
theorem dX7_spells_20 : decode cX7_spells 20 = .ok (.iload_n 2, 1) := by decide +kernel
theorem dX7_spells_21 : decode cX7_spells 21 = .ok (.aload_n 1, 1) := by decide +kernel
theorem dX7_spells_22 : decode cX7_spells 22 = .ok (.invokevirtual 133, 3) := by decide +kernel
theorem dX7_spells_25 : decode cX7_spells 25 = .ok (.if_icmp .ge 29, 3) := by decide +kernel
theorem dX7_spells_28 : decode cX7_spells 28 = .ok (.aload_n 1, 1) := by decide +kernel
theorem dX7_spells_29 : decode cX7_spells 29 = .ok (.iload_n 2, 1) := by decide +kernel
theorem dX7_spells_30 : decode cX7_spells 30 = .ok (.invokevirtual 138, 3) := by decide +kernel
theorem dX7_spells_33 : decode cX7_spells 33 = .ok (.aload_n 0, 1) := by decide +kernel
theorem dX7_spells_34 : decode cX7_spells 34 = .ok (.aload_n 0, 1) := by decide +kernel
theorem dX7_spells_35 : decode cX7_spells 35 = .ok (.getfield 25, 3) := by decide +kernel
theorem dX7_spells_38 : decode cX7_spells 38 = .ok (.iload_n 2, 1) := by decide +kernel
theorem dX7_spells_39 : decode cX7_spells 39 = .ok (.iadd, 1) := by decide +kernel
theorem dX7_spells_40 : decode cX7_spells 40 = .ok (.invokevirtual 142, 3) := by decide +kernel
theorem dX7_spells_43 : decode cX7_spells 43 = .ok (.if_icmp .eq 5, 3) := by decide +kernel
theorem dX7_spells_46 : decode cX7_spells 46 = .ok (.iconst 0, 1) := by decide +kernel
theorem dX7_spells_47 : decode cX7_spells 47 = .ok (.ireturn, 1) := by decide +kernel
theorem dX7_spells_48 : decode cX7_spells 48 = .ok (.iinc 2 1, 3) := by decide +kernel
theorem dX7_spells_51 : decode cX7_spells 51 = .ok (.goto (-31), 3) := by decide +kernel
theorem dX7_spells_54 : decode cX7_spells 54 = .ok (.iconst 1, 1) := by decide +kernel
theorem dX7_spells_55 : decode cX7_spells 55 = .ok (.ireturn, 1) := by decide +kernel
theorem dX7_signAt_0 : decode cX7_signAt 0 = .ok (.iload_n 1, 1) := by decide +kernel
theorem dX7_signAt_1 : decode cX7_signAt 1 = .ok (.ifCond .lt 33, 3) := by decide +kernel
theorem dX7_signAt_4 : decode cX7_signAt 4 = .ok (.iload_n 1, 1) := by decide +kernel
theorem dX7_signAt_5 : decode cX7_signAt 5 = .ok (.aload_n 0, 1) := by decide +kernel
theorem dX7_signAt_6 : decode cX7_signAt 6 = .ok (.getfield 15, 3) := by decide +kernel
theorem dX7_signAt_9 : decode cX7_signAt 9 = .ok (.if_icmp .ge 25, 3) := by decide +kernel
theorem dX7_signAt_12 : decode cX7_signAt 12 = .ok (.iload_n 1, 1) := by decide +kernel
theorem dX7_signAt_13 : decode cX7_signAt 13 = .ok (.aload_n 0, 1) := by decide +kernel
theorem dX7_signAt_14 : decode cX7_signAt 14 = .ok (.getfield 9, 3) := by decide +kernel
theorem dX7_signAt_17 : decode cX7_signAt 17 = .ok (.arraylength, 1) := by decide +kernel
theorem dX7_signAt_18 : decode cX7_signAt 18 = .ok (.if_icmp .ge 16, 3) := by decide +kernel
theorem dX7_signAt_21 : decode cX7_signAt 21 = .ok (.aload_n 0, 1) := by decide +kernel
theorem dX7_signAt_22 : decode cX7_signAt 22 = .ok (.getfield 9, 3) := by decide +kernel
theorem dX7_signAt_25 : decode cX7_signAt 25 = .ok (.iload_n 1, 1) := by decide +kernel
theorem dX7_signAt_26 : decode cX7_signAt 26 = .ok (.baload, 1) := by decide +kernel
theorem dX7_signAt_27 : decode cX7_signAt 27 = .ok (.sipush 255, 3) := by decide +kernel
theorem dX7_signAt_30 : decode cX7_signAt 30 = .ok (.iand, 1) := by decide +kernel
theorem dX7_signAt_31 : decode cX7_signAt 31 = .ok (.goto 4, 3) := by decide +kernel
theorem dX7_signAt_34 : decode cX7_signAt 34 = .ok (.iconst (-1), 1) := by decide +kernel
theorem dX7_signAt_35 : decode cX7_signAt 35 = .ok (.ireturn, 1) := by decide +kernel
theorem dX7_isBlank_0 : decode cX7_isBlank 0 = .ok (.iload_n 0, 1) := by decide +kernel
theorem dX7_isBlank_1 : decode cX7_isBlank 1 = .ok (.bipush 10, 2) := by decide +kernel
theorem dX7_isBlank_3 : decode cX7_isBlank 3 = .ok (.if_icmp .eq 9, 3) := by decide +kernel
theorem dX7_isBlank_6 : decode cX7_isBlank 6 = .ok (.iload_n 0, 1) := by decide +kernel
theorem dX7_isBlank_7 : decode cX7_isBlank 7 = .ok (.bipush 32, 2) := by decide +kernel
theorem dX7_isBlank_9 : decode cX7_isBlank 9 = .ok (.if_icmp .ne 7, 3) := by decide +kernel
theorem dX7_isBlank_12 : decode cX7_isBlank 12 = .ok (.iconst 1, 1) := by decide +kernel
theorem dX7_isBlank_13 : decode cX7_isBlank 13 = .ok (.goto 4, 3) := by decide +kernel
theorem dX7_isBlank_16 : decode cX7_isBlank 16 = .ok (.iconst 0, 1) := by decide +kernel
theorem dX7_isBlank_17 : decode cX7_isBlank 17 = .ok (.ireturn, 1) := by decide +kernel
theorem dX7_isLetter_0 : decode cX7_isLetter 0 = .ok (.iload_n 0, 1) := by decide +kernel
theorem dX7_isLetter_1 : decode cX7_isLetter 1 = .ok (.bipush 97, 2) := by decide +kernel
theorem dX7_isLetter_3 : decode cX7_isLetter 3 = .ok (.if_icmp .lt 13, 3) := by decide +kernel
theorem dX7_isLetter_6 : decode cX7_isLetter 6 = .ok (.iload_n 0, 1) := by decide +kernel
theorem dX7_isLetter_7 : decode cX7_isLetter 7 = .ok (.bipush 122, 2) := by decide +kernel
theorem dX7_isLetter_9 : decode cX7_isLetter 9 = .ok (.if_icmp .gt 7, 3) := by decide +kernel
theorem dX7_isLetter_12 : decode cX7_isLetter 12 = .ok (.iconst 1, 1) := by decide +kernel
theorem dX7_isLetter_13 : decode cX7_isLetter 13 = .ok (.goto 4, 3) := by decide +kernel
theorem dX7_isLetter_16 : decode cX7_isLetter 16 = .ok (.iconst 0, 1) := by decide +kernel
theorem dX7_isLetter_17 : decode cX7_isLetter 17 = .ok (.ireturn, 1) := by decide +kernel
theorem dX7_isDigit_0 : decode cX7_isDigit 0 = .ok (.iload_n 0, 1) := by decide +kernel
theorem dX7_isDigit_1 : decode cX7_isDigit 1 = .ok (.bipush 48, 2) := by decide +kernel
theorem dX7_isDigit_3 : decode cX7_isDigit 3 = .ok (.if_icmp .lt 13, 3) := by decide +kernel
theorem dX7_isDigit_6 : decode cX7_isDigit 6 = .ok (.iload_n 0, 1) := by decide +kernel
theorem dX7_isDigit_7 : decode cX7_isDigit 7 = .ok (.bipush 57, 2) := by decide +kernel
theorem dX7_isDigit_9 : decode cX7_isDigit 9 = .ok (.if_icmp .gt 7, 3) := by decide +kernel
theorem dX7_isDigit_12 : decode cX7_isDigit 12 = .ok (.iconst 1, 1) := by decide +kernel
theorem dX7_isDigit_13 : decode cX7_isDigit 13 = .ok (.goto 4, 3) := by decide +kernel
theorem dX7_isDigit_16 : decode cX7_isDigit 16 = .ok (.iconst 0, 1) := by decide +kernel
theorem dX7_isDigit_17 : decode cX7_isDigit 17 = .ok (.ireturn, 1) := by decide +kernel
theorem dX7_step_0 : decode cX7_step 0 = .ok (.aload_n 0, 1) := by decide +kernel
theorem dX7_step_1 : decode cX7_step 1 = .ok (.getfield 19, 3) := by decide +kernel
theorem dX7_step_4 : decode cX7_step 4 = .ok (.aload_n 0, 1) := by decide +kernel
theorem dX7_step_5 : decode cX7_step 5 = .ok (.getfield 15, 3) := by decide +kernel
theorem dX7_step_8 : decode cX7_step 8 = .ok (.if_icmp .ge 30, 3) := by decide +kernel
theorem dX7_step_11 : decode cX7_step 11 = .ok (.aload_n 0, 1) := by decide +kernel
theorem dX7_step_12 : decode cX7_step 12 = .ok (.aload_n 0, 1) := by decide +kernel
theorem dX7_step_13 : decode cX7_step 13 = .ok (.getfield 19, 3) := by decide +kernel
theorem dX7_step_16 : decode cX7_step 16 = .ok (.invokevirtual 142, 3) := by decide +kernel
theorem dX7_step_19 : decode cX7_step 19 = .ok (.invokestatic 145, 3) := by decide +kernel
theorem dX7_step_22 : decode cX7_step 22 = .ok (.ifCond .eq 16, 3) := by decide +kernel
theorem dX7_step_25 : decode cX7_step 25 = .ok (.aload_n 0, 1) := by decide +kernel
theorem dX7_step_26 : decode cX7_step 26 = .ok (.dup, 1) := by decide +kernel
theorem dX7_step_27 : decode cX7_step 27 = .ok (.getfield 19, 3) := by decide +kernel
theorem dX7_step_30 : decode cX7_step 30 = .ok (.iconst 1, 1) := by decide +kernel
theorem dX7_step_31 : decode cX7_step 31 = .ok (.iadd, 1) := by decide +kernel
theorem dX7_step_32 : decode cX7_step 32 = .ok (.putfield 19, 3) := by decide +kernel
theorem dX7_step_35 : decode cX7_step 35 = .ok (.goto (-35), 3) := by decide +kernel
theorem dX7_step_38 : decode cX7_step 38 = .ok (.aload_n 0, 1) := by decide +kernel
theorem dX7_step_39 : decode cX7_step 39 = .ok (.aload_n 0, 1) := by decide +kernel
theorem dX7_step_40 : decode cX7_step 40 = .ok (.getfield 19, 3) := by decide +kernel
theorem dX7_step_43 : decode cX7_step 43 = .ok (.putfield 25, 3) := by decide +kernel
theorem dX7_step_46 : decode cX7_step 46 = .ok (.aload_n 0, 1) := by decide +kernel
theorem dX7_step_47 : decode cX7_step 47 = .ok (.aload_n 0, 1) := by decide +kernel
theorem dX7_step_48 : decode cX7_step 48 = .ok (.getfield 25, 3) := by decide +kernel
theorem dX7_step_51 : decode cX7_step 51 = .ok (.invokevirtual 142, 3) := by decide +kernel
theorem dX7_step_54 : decode cX7_step 54 = .ok (.istore_n 1, 1) := by decide +kernel
theorem dX7_step_55 : decode cX7_step 55 = .ok (.iload_n 1, 1) := by decide +kernel
theorem dX7_step_56 : decode cX7_step 56 = .ok (.iconst (-1), 1) := by decide +kernel
theorem dX7_step_57 : decode cX7_step 57 = .ok (.if_icmp .ne 11, 3) := by decide +kernel
theorem dX7_step_60 : decode cX7_step 60 = .ok (.aload_n 0, 1) := by decide +kernel
theorem dX7_step_61 : decode cX7_step 61 = .ok (.iconst 0, 1) := by decide +kernel
theorem dX7_step_62 : decode cX7_step 62 = .ok (.putfield 22, 3) := by decide +kernel
theorem dX7_step_65 : decode cX7_step 65 = .ok (.goto 92, 3) := by decide +kernel
theorem dX7_step_68 : decode cX7_step 68 = .ok (.iload_n 1, 1) := by decide +kernel
theorem dX7_step_69 : decode cX7_step 69 = .ok (.invokestatic 148, 3) := by decide +kernel
theorem dX7_step_72 : decode cX7_step 72 = .ok (.ifCond .eq 46, 3) := by decide +kernel
theorem dX7_step_75 : decode cX7_step 75 = .ok (.aload_n 0, 1) := by decide +kernel
theorem dX7_step_76 : decode cX7_step 76 = .ok (.iconst 1, 1) := by decide +kernel
theorem dX7_step_77 : decode cX7_step 77 = .ok (.putfield 22, 3) := by decide +kernel
theorem dX7_step_80 : decode cX7_step 80 = .ok (.aload_n 0, 1) := by decide +kernel
theorem dX7_step_81 : decode cX7_step 81 = .ok (.getfield 19, 3) := by decide +kernel
theorem dX7_step_84 : decode cX7_step 84 = .ok (.aload_n 0, 1) := by decide +kernel
theorem dX7_step_85 : decode cX7_step 85 = .ok (.getfield 15, 3) := by decide +kernel
theorem dX7_step_88 : decode cX7_step 88 = .ok (.if_icmp .ge 69, 3) := by decide +kernel
theorem dX7_step_91 : decode cX7_step 91 = .ok (.aload_n 0, 1) := by decide +kernel
theorem dX7_step_92 : decode cX7_step 92 = .ok (.aload_n 0, 1) := by decide +kernel
theorem dX7_step_93 : decode cX7_step 93 = .ok (.getfield 19, 3) := by decide +kernel
theorem dX7_step_96 : decode cX7_step 96 = .ok (.invokevirtual 142, 3) := by decide +kernel
theorem dX7_step_99 : decode cX7_step 99 = .ok (.invokestatic 148, 3) := by decide +kernel
theorem dX7_step_102 : decode cX7_step 102 = .ok (.ifCond .eq 55, 3) := by decide +kernel
theorem dX7_step_105 : decode cX7_step 105 = .ok (.aload_n 0, 1) := by decide +kernel
theorem dX7_step_106 : decode cX7_step 106 = .ok (.dup, 1) := by decide +kernel
theorem dX7_step_107 : decode cX7_step 107 = .ok (.getfield 19, 3) := by decide +kernel
theorem dX7_step_110 : decode cX7_step 110 = .ok (.iconst 1, 1) := by decide +kernel
theorem dX7_step_111 : decode cX7_step 111 = .ok (.iadd, 1) := by decide +kernel
theorem dX7_step_112 : decode cX7_step 112 = .ok (.putfield 19, 3) := by decide +kernel
theorem dX7_step_115 : decode cX7_step 115 = .ok (.goto (-35), 3) := by decide +kernel
theorem dX7_step_118 : decode cX7_step 118 = .ok (.iload_n 1, 1) := by decide +kernel
theorem dX7_step_119 : decode cX7_step 119 = .ok (.invokestatic 151, 3) := by decide +kernel
theorem dX7_step_122 : decode cX7_step 122 = .ok (.ifCond .eq 10, 3) := by decide +kernel
theorem dX7_step_125 : decode cX7_step 125 = .ok (.aload_n 0, 1) := by decide +kernel
theorem dX7_step_126 : decode cX7_step 126 = .ok (.invokevirtual 154, 3) := by decide +kernel
theorem dX7_step_129 : decode cX7_step 129 = .ok (.goto 28, 3) := by decide +kernel
theorem dX7_step_132 : decode cX7_step 132 = .ok (.aload_n 0, 1) := by decide +kernel
theorem dX7_step_133 : decode cX7_step 133 = .ok (.iload_n 1, 1) := by decide +kernel
theorem dX7_step_134 : decode cX7_step 134 = .ok (.bipush 59, 2) := by decide +kernel
theorem dX7_step_136 : decode cX7_step 136 = .ok (.if_icmp .ne 7, 3) := by decide +kernel
theorem dX7_step_139 : decode cX7_step 139 = .ok (.iconst 3, 1) := by decide +kernel
theorem dX7_step_140 : decode cX7_step 140 = .ok (.goto 4, 3) := by decide +kernel
theorem dX7_step_143 : decode cX7_step 143 = .ok (.iconst 4, 1) := by decide +kernel
theorem dX7_step_144 : decode cX7_step 144 = .ok (.putfield 22, 3) := by decide +kernel
theorem dX7_step_147 : decode cX7_step 147 = .ok (.aload_n 0, 1) := by decide +kernel
theorem dX7_step_148 : decode cX7_step 148 = .ok (.dup, 1) := by decide +kernel
theorem dX7_step_149 : decode cX7_step 149 = .ok (.getfield 19, 3) := by decide +kernel
theorem dX7_step_152 : decode cX7_step 152 = .ok (.iconst 1, 1) := by decide +kernel
theorem dX7_step_153 : decode cX7_step 153 = .ok (.iadd, 1) := by decide +kernel
theorem dX7_step_154 : decode cX7_step 154 = .ok (.putfield 19, 3) := by decide +kernel
theorem dX7_step_157 : decode cX7_step 157 = .ok (.return_, 1) := by decide +kernel
theorem dX7_stepNumber_0 : decode cX7_stepNumber 0 = .ok (.aload_n 0, 1) := by decide +kernel
theorem dX7_stepNumber_1 : decode cX7_stepNumber 1 = .ok (.iconst 0, 1) := by decide +kernel
theorem dX7_stepNumber_2 : decode cX7_stepNumber 2 = .ok (.putfield 28, 3) := by decide +kernel
theorem dX7_stepNumber_5 : decode cX7_stepNumber 5 = .ok (.aload_n 0, 1) := by decide +kernel
theorem dX7_stepNumber_6 : decode cX7_stepNumber 6 = .ok (.getfield 19, 3) := by decide +kernel
theorem dX7_stepNumber_9 : decode cX7_stepNumber 9 = .ok (.aload_n 0, 1) := by decide +kernel
theorem dX7_stepNumber_10 : decode cX7_stepNumber 10 = .ok (.getfield 15, 3) := by decide +kernel
theorem dX7_stepNumber_13 : decode cX7_stepNumber 13 = .ok (.if_icmp .ge 66, 3) := by decide +kernel
theorem dX7_stepNumber_16 : decode cX7_stepNumber 16 = .ok (.aload_n 0, 1) := by decide +kernel
theorem dX7_stepNumber_17 : decode cX7_stepNumber 17 = .ok (.aload_n 0, 1) := by decide +kernel
theorem dX7_stepNumber_18 : decode cX7_stepNumber 18 = .ok (.getfield 19, 3) := by decide +kernel
theorem dX7_stepNumber_21 : decode cX7_stepNumber 21 = .ok (.invokevirtual 142, 3) := by decide +kernel
theorem dX7_stepNumber_24 : decode cX7_stepNumber 24 = .ok (.invokestatic 151, 3) := by decide +kernel
theorem dX7_stepNumber_27 : decode cX7_stepNumber 27 = .ok (.ifCond .eq 52, 3) := by decide +kernel
theorem dX7_stepNumber_30 : decode cX7_stepNumber 30 = .ok (.aload_n 0, 1) := by decide +kernel
theorem dX7_stepNumber_31 : decode cX7_stepNumber 31 = .ok (.getfield 19, 3) := by decide +kernel
theorem dX7_stepNumber_34 : decode cX7_stepNumber 34 = .ok (.aload_n 0, 1) := by decide +kernel
theorem dX7_stepNumber_35 : decode cX7_stepNumber 35 = .ok (.getfield 25, 3) := by decide +kernel
theorem dX7_stepNumber_38 : decode cX7_stepNumber 38 = .ok (.isub, 1) := by decide +kernel
theorem dX7_stepNumber_39 : decode cX7_stepNumber 39 = .ok (.iconst 4, 1) := by decide +kernel
theorem dX7_stepNumber_40 : decode cX7_stepNumber 40 = .ok (.if_icmp .ge 26, 3) := by decide +kernel
theorem dX7_stepNumber_43 : decode cX7_stepNumber 43 = .ok (.aload_n 0, 1) := by decide +kernel
theorem dX7_stepNumber_44 : decode cX7_stepNumber 44 = .ok (.bipush 10, 2) := by decide +kernel
theorem dX7_stepNumber_46 : decode cX7_stepNumber 46 = .ok (.aload_n 0, 1) := by decide +kernel
theorem dX7_stepNumber_47 : decode cX7_stepNumber 47 = .ok (.getfield 28, 3) := by decide +kernel
theorem dX7_stepNumber_50 : decode cX7_stepNumber 50 = .ok (.imul, 1) := by decide +kernel
theorem dX7_stepNumber_51 : decode cX7_stepNumber 51 = .ok (.aload_n 0, 1) := by decide +kernel
theorem dX7_stepNumber_52 : decode cX7_stepNumber 52 = .ok (.aload_n 0, 1) := by decide +kernel
theorem dX7_stepNumber_53 : decode cX7_stepNumber 53 = .ok (.getfield 19, 3) := by decide +kernel
theorem dX7_stepNumber_56 : decode cX7_stepNumber 56 = .ok (.invokevirtual 142, 3) := by decide +kernel
theorem dX7_stepNumber_59 : decode cX7_stepNumber 59 = .ok (.iadd, 1) := by decide +kernel
theorem dX7_stepNumber_60 : decode cX7_stepNumber 60 = .ok (.bipush 48, 2) := by decide +kernel
theorem dX7_stepNumber_62 : decode cX7_stepNumber 62 = .ok (.isub, 1) := by decide +kernel
theorem dX7_stepNumber_63 : decode cX7_stepNumber 63 = .ok (.putfield 28, 3) := by decide +kernel
theorem dX7_stepNumber_66 : decode cX7_stepNumber 66 = .ok (.aload_n 0, 1) := by decide +kernel
theorem dX7_stepNumber_67 : decode cX7_stepNumber 67 = .ok (.dup, 1) := by decide +kernel
theorem dX7_stepNumber_68 : decode cX7_stepNumber 68 = .ok (.getfield 19, 3) := by decide +kernel
theorem dX7_stepNumber_71 : decode cX7_stepNumber 71 = .ok (.iconst 1, 1) := by decide +kernel
theorem dX7_stepNumber_72 : decode cX7_stepNumber 72 = .ok (.iadd, 1) := by decide +kernel
theorem dX7_stepNumber_73 : decode cX7_stepNumber 73 = .ok (.putfield 19, 3) := by decide +kernel
theorem dX7_stepNumber_76 : decode cX7_stepNumber 76 = .ok (.goto (-71), 3) := by decide +kernel
theorem dX7_stepNumber_79 : decode cX7_stepNumber 79 = .ok (.aload_n 0, 1) := by decide +kernel
theorem dX7_stepNumber_80 : decode cX7_stepNumber 80 = .ok (.aload_n 0, 1) := by decide +kernel
theorem dX7_stepNumber_81 : decode cX7_stepNumber 81 = .ok (.getfield 19, 3) := by decide +kernel
theorem dX7_stepNumber_84 : decode cX7_stepNumber 84 = .ok (.aload_n 0, 1) := by decide +kernel
theorem dX7_stepNumber_85 : decode cX7_stepNumber 85 = .ok (.getfield 25, 3) := by decide +kernel
theorem dX7_stepNumber_88 : decode cX7_stepNumber 88 = .ok (.isub, 1) := by decide +kernel
theorem dX7_stepNumber_89 : decode cX7_stepNumber 89 = .ok (.iconst 4, 1) := by decide +kernel
theorem dX7_stepNumber_90 : decode cX7_stepNumber 90 = .ok (.if_icmp .gt 7, 3) := by decide +kernel
theorem dX7_stepNumber_93 : decode cX7_stepNumber 93 = .ok (.iconst 2, 1) := by decide +kernel
theorem dX7_stepNumber_94 : decode cX7_stepNumber 94 = .ok (.goto 4, 3) := by decide +kernel
theorem dX7_stepNumber_97 : decode cX7_stepNumber 97 = .ok (.iconst 4, 1) := by decide +kernel
theorem dX7_stepNumber_98 : decode cX7_stepNumber 98 = .ok (.putfield 22, 3) := by decide +kernel
theorem dX7_stepNumber_101 : decode cX7_stepNumber 101 = .ok (.return_, 1) := by decide +kernel
theorem dX8_init_0 : decode cX8_init 0 = .ok (.aload_n 0, 1) := by decide +kernel
theorem dX8_init_1 : decode cX8_init 1 = .ok (.invokespecial 3, 3) := by decide +kernel
theorem dX8_init_4 : decode cX8_init 4 = .ok (.aload_n 0, 1) := by decide +kernel
theorem dX8_init_5 : decode cX8_init 5 = .ok (.bipush 8, 2) := by decide +kernel
theorem dX8_init_7 : decode cX8_init 7 = .ok (.newarray .int, 2) := by decide +kernel
theorem dX8_init_9 : decode cX8_init 9 = .ok (.putfield 9, 3) := by decide +kernel
theorem dX8_init_12 : decode cX8_init 12 = .ok (.aload_n 0, 1) := by decide +kernel
theorem dX8_init_13 : decode cX8_init 13 = .ok (.bipush 8, 2) := by decide +kernel
theorem dX8_init_15 : decode cX8_init 15 = .ok (.newarray .int, 2) := by decide +kernel
theorem dX8_init_17 : decode cX8_init 17 = .ok (.putfield 15, 3) := by decide +kernel
theorem dX8_init_20 : decode cX8_init 20 = .ok (.aload_n 0, 1) := by decide +kernel
theorem dX8_init_21 : decode cX8_init 21 = .ok (.bipush 8, 2) := by decide +kernel
theorem dX8_init_23 : decode cX8_init 23 = .ok (.newarray .int, 2) := by decide +kernel
theorem dX8_init_25 : decode cX8_init 25 = .ok (.putfield 18, 3) := by decide +kernel
theorem dX8_init_28 : decode cX8_init 28 = .ok (.aload_n 0, 1) := by decide +kernel
theorem dX8_init_29 : decode cX8_init 29 = .ok (.bipush 8, 2) := by decide +kernel
theorem dX8_init_31 : decode cX8_init 31 = .ok (.newarray .int, 2) := by decide +kernel
theorem dX8_init_33 : decode cX8_init 33 = .ok (.putfield 21, 3) := by decide +kernel
theorem dX8_init_36 : decode cX8_init 36 = .ok (.return_, 1) := by decide +kernel
theorem dX8_clear_0 : decode cX8_clear 0 = .ok (.iconst 0, 1) := by decide +kernel
theorem dX8_clear_1 : decode cX8_clear 1 = .ok (.istore_n 1, 1) := by decide +kernel
theorem dX8_clear_2 : decode cX8_clear 2 = .ok (.iload_n 1, 1) := by decide +kernel
theorem dX8_clear_3 : decode cX8_clear 3 = .ok (.bipush 8, 2) := by decide +kernel
theorem dX8_clear_5 : decode cX8_clear 5 = .ok (.if_icmp .ge 37, 3) := by decide +kernel
theorem dX8_clear_8 : decode cX8_clear 8 = .ok (.aload_n 0, 1) := by decide +kernel
theorem dX8_clear_9 : decode cX8_clear 9 = .ok (.getfield 9, 3) := by decide +kernel
theorem dX8_clear_12 : decode cX8_clear 12 = .ok (.iload_n 1, 1) := by decide +kernel
theorem dX8_clear_13 : decode cX8_clear 13 = .ok (.iconst 0, 1) := by decide +kernel
theorem dX8_clear_14 : decode cX8_clear 14 = .ok (.iastore, 1) := by decide +kernel
theorem dX8_clear_15 : decode cX8_clear 15 = .ok (.aload_n 0, 1) := by decide +kernel
theorem dX8_clear_16 : decode cX8_clear 16 = .ok (.getfield 15, 3) := by decide +kernel
theorem dX8_clear_19 : decode cX8_clear 19 = .ok (.iload_n 1, 1) := by decide +kernel
theorem dX8_clear_20 : decode cX8_clear 20 = .ok (.iconst 0, 1) := by decide +kernel
theorem dX8_clear_21 : decode cX8_clear 21 = .ok (.iastore, 1) := by decide +kernel
theorem dX8_clear_22 : decode cX8_clear 22 = .ok (.aload_n 0, 1) := by decide +kernel
theorem dX8_clear_23 : decode cX8_clear 23 = .ok (.getfield 18, 3) := by decide +kernel
theorem dX8_clear_26 : decode cX8_clear 26 = .ok (.iload_n 1, 1) := by decide +kernel
theorem dX8_clear_27 : decode cX8_clear 27 = .ok (.iconst 0, 1) := by decide +kernel
theorem dX8_clear_28 : decode cX8_clear 28 = .ok (.iastore, 1) := by decide +kernel
theorem dX8_clear_29 : decode cX8_clear 29 = .ok (.aload_n 0, 1) := by decide +kernel
theorem dX8_clear_30 : decode cX8_clear 30 = .ok (.getfield 21, 3) := by decide +kernel
theorem dX8_clear_33 : decode cX8_clear 33 = .ok (.iload_n 1, 1) := by decide +kernel
theorem dX8_clear_34 : decode cX8_clear 34 = .ok (.iconst 0, 1) := by decide +kernel
theorem dX8_clear_35 : decode cX8_clear 35 = .ok (.iastore, 1) := by decide +kernel
theorem dX8_clear_36 : decode cX8_clear 36 = .ok (.iinc 1 1, 3) := by decide +kernel
theorem dX8_clear_39 : decode cX8_clear 39 = .ok (.goto (-37), 3) := by decide +kernel
theorem dX8_clear_42 : decode cX8_clear 42 = .ok (.return_, 1) := by decide +kernel
theorem dX8_add_0 : decode cX8_add 0 = .ok (.iload_n 1, 1) := by decide +kernel
theorem dX8_add_1 : decode cX8_add 1 = .ok (.ifCond .lt 56, 3) := by decide +kernel
theorem dX8_add_4 : decode cX8_add 4 = .ok (.iload_n 1, 1) := by decide +kernel
theorem dX8_add_5 : decode cX8_add 5 = .ok (.bipush 8, 2) := by decide +kernel
theorem dX8_add_7 : decode cX8_add 7 = .ok (.if_icmp .ge 50, 3) := by decide +kernel
theorem dX8_add_10 : decode cX8_add 10 = .ok (.aload_n 0, 1) := by decide +kernel
theorem dX8_add_11 : decode cX8_add 11 = .ok (.getfield 9, 3) := by decide +kernel
theorem dX8_add_14 : decode cX8_add 14 = .ok (.iload_n 1, 1) := by decide +kernel
theorem dX8_add_15 : decode cX8_add 15 = .ok (.dup2, 1) := by decide +kernel
theorem dX8_add_16 : decode cX8_add 16 = .ok (.iaload, 1) := by decide +kernel
theorem dX8_add_17 : decode cX8_add 17 = .ok (.iconst 1, 1) := by decide +kernel
theorem dX8_add_18 : decode cX8_add 18 = .ok (.iadd, 1) := by decide +kernel
theorem dX8_add_19 : decode cX8_add 19 = .ok (.iastore, 1) := by decide +kernel
theorem dX8_add_20 : decode cX8_add 20 = .ok (.aload_n 0, 1) := by decide +kernel
theorem dX8_add_21 : decode cX8_add 21 = .ok (.getfield 15, 3) := by decide +kernel
theorem dX8_add_24 : decode cX8_add 24 = .ok (.iload_n 1, 1) := by decide +kernel
theorem dX8_add_25 : decode cX8_add 25 = .ok (.dup2, 1) := by decide +kernel
theorem dX8_add_26 : decode cX8_add 26 = .ok (.iaload, 1) := by decide +kernel
theorem dX8_add_27 : decode cX8_add 27 = .ok (.iload_n 2, 1) := by decide +kernel
theorem dX8_add_28 : decode cX8_add 28 = .ok (.iload_n 3, 1) := by decide +kernel
theorem dX8_add_29 : decode cX8_add 29 = .ok (.isub, 1) := by decide +kernel
theorem dX8_add_30 : decode cX8_add 30 = .ok (.invokestatic 24, 3) := by decide +kernel
theorem dX8_add_33 : decode cX8_add 33 = .ok (.iadd, 1) := by decide +kernel
theorem dX8_add_34 : decode cX8_add 34 = .ok (.iastore, 1) := by decide +kernel
theorem dX8_add_35 : decode cX8_add 35 = .ok (.aload_n 0, 1) := by decide +kernel
theorem dX8_add_36 : decode cX8_add 36 = .ok (.getfield 18, 3) := by decide +kernel
theorem dX8_add_39 : decode cX8_add 39 = .ok (.iload_n 1, 1) := by decide +kernel
theorem dX8_add_40 : decode cX8_add 40 = .ok (.dup2, 1) := by decide +kernel
theorem dX8_add_41 : decode cX8_add 41 = .ok (.iaload, 1) := by decide +kernel
theorem dX8_add_42 : decode cX8_add 42 = .ok (.iload_n 2, 1) := by decide +kernel
theorem dX8_add_43 : decode cX8_add 43 = .ok (.iload_n 3, 1) := by decide +kernel
theorem dX8_add_44 : decode cX8_add 44 = .ok (.isub, 1) := by decide +kernel
theorem dX8_add_45 : decode cX8_add 45 = .ok (.iadd, 1) := by decide +kernel
theorem dX8_add_46 : decode cX8_add 46 = .ok (.iastore, 1) := by decide +kernel
theorem dX8_add_47 : decode cX8_add 47 = .ok (.aload_n 0, 1) := by decide +kernel
theorem dX8_add_48 : decode cX8_add 48 = .ok (.getfield 21, 3) := by decide +kernel
theorem dX8_add_51 : decode cX8_add 51 = .ok (.iload_n 1, 1) := by decide +kernel
theorem dX8_add_52 : decode cX8_add 52 = .ok (.dup2, 1) := by decide +kernel
theorem dX8_add_53 : decode cX8_add 53 = .ok (.iaload, 1) := by decide +kernel
theorem dX8_add_54 : decode cX8_add 54 = .ok (.iload_n 2, 1) := by decide +kernel
theorem dX8_add_55 : decode cX8_add 55 = .ok (.iadd, 1) := by decide +kernel
theorem dX8_add_56 : decode cX8_add 56 = .ok (.iastore, 1) := by decide +kernel
theorem dX8_add_57 : decode cX8_add 57 = .ok (.return_, 1) := by decide +kernel
theorem dX8_pointsOf_0 : decode cX8_pointsOf 0 = .ok (.aload_n 0, 1) := by decide +kernel
theorem dX8_pointsOf_1 : decode cX8_pointsOf 1 = .ok (.getfield 15, 3) := by decide +kernel
theorem dX8_pointsOf_4 : decode cX8_pointsOf 4 = .ok (.iload_n 1, 1) := by decide +kernel
theorem dX8_pointsOf_5 : decode cX8_pointsOf 5 = .ok (.invokestatic 28, 3) := by decide +kernel
theorem dX8_pointsOf_8 : decode cX8_pointsOf 8 = .ok (.ireturn, 1) := by decide +kernel
theorem dX8_sideAt_0 : decode cX8_sideAt 0 = .ok (.iconst 0, 1) := by decide +kernel
theorem dX8_sideAt_1 : decode cX8_sideAt 1 = .ok (.istore_n 2, 1) := by decide +kernel
theorem dX8_sideAt_2 : decode cX8_sideAt 2 = .ok (.iload_n 2, 1) := by decide +kernel
theorem dX8_sideAt_3 : decode cX8_sideAt 3 = .ok (.bipush 8, 2) := by decide +kernel
theorem dX8_sideAt_5 : decode cX8_sideAt 5 = .ok (.if_icmp .ge 29, 3) := by decide +kernel
theorem dX8_sideAt_8 : decode cX8_sideAt 8 = .ok (.aload_n 0, 1) := by decide +kernel
theorem dX8_sideAt_9 : decode cX8_sideAt 9 = .ok (.getfield 9, 3) := by decide +kernel
theorem dX8_sideAt_12 : decode cX8_sideAt 12 = .ok (.iload_n 2, 1) := by decide +kernel
theorem dX8_sideAt_13 : decode cX8_sideAt 13 = .ok (.iaload, 1) := by decide +kernel
theorem dX8_sideAt_14 : decode cX8_sideAt 14 = .ok (.ifCond .le 14, 3) := by decide +kernel
theorem dX8_sideAt_17 : decode cX8_sideAt 17 = .ok (.aload_n 0, 1) := by decide +kernel
theorem dX8_sideAt_18 : decode cX8_sideAt 18 = .ok (.iload_n 2, 1) := by decide +kernel
theorem dX8_sideAt_19 : decode cX8_sideAt 19 = .ok (.invokevirtual 32, 3) := by decide +kernel
theorem dX8_sideAt_22 : decode cX8_sideAt 22 = .ok (.iload_n 1, 1) := by decide +kernel
theorem dX8_sideAt_23 : decode cX8_sideAt 23 = .ok (.if_icmp .ne 5, 3) := by decide +kernel
theorem dX8_sideAt_26 : decode cX8_sideAt 26 = .ok (.iload_n 2, 1) := by decide +kernel
theorem dX8_sideAt_27 : decode cX8_sideAt 27 = .ok (.ireturn, 1) := by decide +kernel
theorem dX8_sideAt_28 : decode cX8_sideAt 28 = .ok (.iinc 2 1, 3) := by decide +kernel
theorem dX8_sideAt_31 : decode cX8_sideAt 31 = .ok (.goto (-29), 3) := by decide +kernel
theorem dX8_sideAt_34 : decode cX8_sideAt 34 = .ok (.iconst (-1), 1) := by decide +kernel
theorem dX8_sideAt_35 : decode cX8_sideAt 35 = .ok (.ireturn, 1) := by decide +kernel
theorem dX8_placeOf_0 : decode cX8_placeOf 0 = .ok (.iconst 0, 1) := by decide +kernel
theorem dX8_placeOf_1 : decode cX8_placeOf 1 = .ok (.istore_n 2, 1) := by decide +kernel
theorem dX8_placeOf_2 : decode cX8_placeOf 2 = .ok (.iconst 0, 1) := by decide +kernel
theorem dX8_placeOf_3 : decode cX8_placeOf 3 = .ok (.istore_n 3, 1) := by decide +kernel
theorem dX8_placeOf_4 : decode cX8_placeOf 4 = .ok (.iload_n 3, 1) := by decide +kernel
theorem dX8_placeOf_5 : decode cX8_placeOf 5 = .ok (.bipush 8, 2) := by decide +kernel
theorem dX8_placeOf_7 : decode cX8_placeOf 7 = .ok (.if_icmp .ge 32, 3) := by decide +kernel
theorem dX8_placeOf_10 : decode cX8_placeOf 10 = .ok (.aload_n 0, 1) := by decide +kernel
theorem dX8_placeOf_11 : decode cX8_placeOf 11 = .ok (.getfield 9, 3) := by decide +kernel
theorem dX8_placeOf_14 : decode cX8_placeOf 14 = .ok (.iload_n 3, 1) := by decide +kernel
theorem dX8_placeOf_15 : decode cX8_placeOf 15 = .ok (.invokestatic 28, 3) := by decide +kernel
theorem dX8_placeOf_18 : decode cX8_placeOf 18 = .ok (.ifCond .le 15, 3) := by decide +kernel
theorem dX8_placeOf_21 : decode cX8_placeOf 21 = .ok (.aload_n 0, 1) := by decide +kernel
theorem dX8_placeOf_22 : decode cX8_placeOf 22 = .ok (.iload_n 3, 1) := by decide +kernel
theorem dX8_placeOf_23 : decode cX8_placeOf 23 = .ok (.iload_n 1, 1) := by decide +kernel
theorem dX8_placeOf_24 : decode cX8_placeOf 24 = .ok (.invokevirtual 35, 3) := by decide +kernel
theorem dX8_placeOf_27 : decode cX8_placeOf 27 = .ok (.ifCond .eq 6, 3) := by decide +kernel
theorem dX8_placeOf_30 : decode cX8_placeOf 30 = .ok (.iinc 2 1, 3) := by decide +kernel
theorem dX8_placeOf_33 : decode cX8_placeOf 33 = .ok (.iinc 3 1, 3) := by decide +kernel
theorem dX8_placeOf_36 : decode cX8_placeOf 36 = .ok (.goto (-32), 3) := by decide +kernel
theorem dX8_placeOf_39 : decode cX8_placeOf 39 = .ok (.iload_n 2, 1) := by decide +kernel
theorem dX8_placeOf_40 : decode cX8_placeOf 40 = .ok (.ireturn, 1) := by decide +kernel
theorem dX8_isAhead_0 : decode cX8_isAhead 0 = .ok (.aload_n 0, 1) := by decide +kernel
theorem dX8_isAhead_1 : decode cX8_isAhead 1 = .ok (.getfield 15, 3) := by decide +kernel
theorem dX8_isAhead_4 : decode cX8_isAhead 4 = .ok (.iload_n 1, 1) := by decide +kernel
theorem dX8_isAhead_5 : decode cX8_isAhead 5 = .ok (.invokestatic 28, 3) := by decide +kernel
theorem dX8_isAhead_8 : decode cX8_isAhead 8 = .ok (.aload_n 0, 1) := by decide +kernel
theorem dX8_isAhead_9 : decode cX8_isAhead 9 = .ok (.getfield 15, 3) := by decide +kernel
theorem dX8_isAhead_12 : decode cX8_isAhead 12 = .ok (.iload_n 2, 1) := by decide +kernel
theorem dX8_isAhead_13 : decode cX8_isAhead 13 = .ok (.invokestatic 28, 3) := by decide +kernel
theorem dX8_isAhead_16 : decode cX8_isAhead 16 = .ok (.if_icmp .eq 28, 3) := by decide +kernel
theorem dX8_isAhead_19 : decode cX8_isAhead 19 = .ok (.aload_n 0, 1) := by decide +kernel
theorem dX8_isAhead_20 : decode cX8_isAhead 20 = .ok (.getfield 15, 3) := by decide +kernel
theorem dX8_isAhead_23 : decode cX8_isAhead 23 = .ok (.iload_n 1, 1) := by decide +kernel
theorem dX8_isAhead_24 : decode cX8_isAhead 24 = .ok (.invokestatic 28, 3) := by decide +kernel
theorem dX8_isAhead_27 : decode cX8_isAhead 27 = .ok (.aload_n 0, 1) := by decide +kernel
theorem dX8_isAhead_28 : decode cX8_isAhead 28 = .ok (.getfield 15, 3) := by decide +kernel
theorem dX8_isAhead_31 : decode cX8_isAhead 31 = .ok (.iload_n 2, 1) := by decide +kernel
theorem dX8_isAhead_32 : decode cX8_isAhead 32 = .ok (.invokestatic 28, 3) := by decide +kernel
theorem dX8_isAhead_35 : decode cX8_isAhead 35 = .ok (.if_icmp .le 7, 3) := by decide +kernel
theorem dX8_isAhead_38 : decode cX8_isAhead 38 = .ok (.iconst 1, 1) := by decide +kernel
theorem dX8_isAhead_39 : decode cX8_isAhead 39 = .ok (.goto 4, 3) := by decide +kernel
theorem dX8_isAhead_42 : decode cX8_isAhead 42 = .ok (.iconst 0, 1) := by decide +kernel
theorem dX8_isAhead_43 : decode cX8_isAhead 43 = .ok (.ireturn, 1) := by decide +kernel
theorem dX8_isAhead_44 : decode cX8_isAhead 44 = .ok (.aload_n 0, 1) := by decide +kernel
theorem dX8_isAhead_45 : decode cX8_isAhead 45 = .ok (.getfield 18, 3) := by decide +kernel
theorem dX8_isAhead_48 : decode cX8_isAhead 48 = .ok (.iload_n 1, 1) := by decide +kernel
theorem dX8_isAhead_49 : decode cX8_isAhead 49 = .ok (.invokestatic 28, 3) := by decide +kernel
theorem dX8_isAhead_52 : decode cX8_isAhead 52 = .ok (.aload_n 0, 1) := by decide +kernel
theorem dX8_isAhead_53 : decode cX8_isAhead 53 = .ok (.getfield 18, 3) := by decide +kernel
theorem dX8_isAhead_56 : decode cX8_isAhead 56 = .ok (.iload_n 2, 1) := by decide +kernel
theorem dX8_isAhead_57 : decode cX8_isAhead 57 = .ok (.invokestatic 28, 3) := by decide +kernel
theorem dX8_isAhead_60 : decode cX8_isAhead 60 = .ok (.if_icmp .eq 28, 3) := by decide +kernel
theorem dX8_isAhead_63 : decode cX8_isAhead 63 = .ok (.aload_n 0, 1) := by decide +kernel
theorem dX8_isAhead_64 : decode cX8_isAhead 64 = .ok (.getfield 18, 3) := by decide +kernel
theorem dX8_isAhead_67 : decode cX8_isAhead 67 = .ok (.iload_n 1, 1) := by decide +kernel
theorem dX8_isAhead_68 : decode cX8_isAhead 68 = .ok (.invokestatic 28, 3) := by decide +kernel
theorem dX8_isAhead_71 : decode cX8_isAhead 71 = .ok (.aload_n 0, 1) := by decide +kernel
theorem dX8_isAhead_72 : decode cX8_isAhead 72 = .ok (.getfield 18, 3) := by decide +kernel
theorem dX8_isAhead_75 : decode cX8_isAhead 75 = .ok (.iload_n 2, 1) := by decide +kernel
theorem dX8_isAhead_76 : decode cX8_isAhead 76 = .ok (.invokestatic 28, 3) := by decide +kernel
theorem dX8_isAhead_79 : decode cX8_isAhead 79 = .ok (.if_icmp .le 7, 3) := by decide +kernel
theorem dX8_isAhead_82 : decode cX8_isAhead 82 = .ok (.iconst 1, 1) := by decide +kernel
theorem dX8_isAhead_83 : decode cX8_isAhead 83 = .ok (.goto 4, 3) := by decide +kernel
theorem dX8_isAhead_86 : decode cX8_isAhead 86 = .ok (.iconst 0, 1) := by decide +kernel
theorem dX8_isAhead_87 : decode cX8_isAhead 87 = .ok (.ireturn, 1) := by decide +kernel
theorem dX8_isAhead_88 : decode cX8_isAhead 88 = .ok (.aload_n 0, 1) := by decide +kernel
theorem dX8_isAhead_89 : decode cX8_isAhead 89 = .ok (.getfield 21, 3) := by decide +kernel
theorem dX8_isAhead_92 : decode cX8_isAhead 92 = .ok (.iload_n 1, 1) := by decide +kernel
theorem dX8_isAhead_93 : decode cX8_isAhead 93 = .ok (.invokestatic 28, 3) := by decide +kernel
theorem dX8_isAhead_96 : decode cX8_isAhead 96 = .ok (.aload_n 0, 1) := by decide +kernel
theorem dX8_isAhead_97 : decode cX8_isAhead 97 = .ok (.getfield 21, 3) := by decide +kernel
theorem dX8_isAhead_100 : decode cX8_isAhead 100 = .ok (.iload_n 2, 1) := by decide +kernel
theorem dX8_isAhead_101 : decode cX8_isAhead 101 = .ok (.invokestatic 28, 3) := by decide +kernel
theorem dX8_isAhead_104 : decode cX8_isAhead 104 = .ok (.if_icmp .eq 28, 3) := by decide +kernel
theorem dX8_isAhead_107 : decode cX8_isAhead 107 = .ok (.aload_n 0, 1) := by decide +kernel
theorem dX8_isAhead_108 : decode cX8_isAhead 108 = .ok (.getfield 21, 3) := by decide +kernel
theorem dX8_isAhead_111 : decode cX8_isAhead 111 = .ok (.iload_n 1, 1) := by decide +kernel
theorem dX8_isAhead_112 : decode cX8_isAhead 112 = .ok (.invokestatic 28, 3) := by decide +kernel
theorem dX8_isAhead_115 : decode cX8_isAhead 115 = .ok (.aload_n 0, 1) := by decide +kernel
theorem dX8_isAhead_116 : decode cX8_isAhead 116 = .ok (.getfield 21, 3) := by decide +kernel
theorem dX8_isAhead_119 : decode cX8_isAhead 119 = .ok (.iload_n 2, 1) := by decide +kernel
theorem dX8_isAhead_120 : decode cX8_isAhead 120 = .ok (.invokestatic 28, 3) := by decide +kernel
theorem dX8_isAhead_123 : decode cX8_isAhead 123 = .ok (.if_icmp .le 7, 3) := by decide +kernel
theorem dX8_isAhead_126 : decode cX8_isAhead 126 = .ok (.iconst 1, 1) := by decide +kernel
theorem dX8_isAhead_127 : decode cX8_isAhead 127 = .ok (.goto 4, 3) := by decide +kernel
theorem dX8_isAhead_130 : decode cX8_isAhead 130 = .ok (.iconst 0, 1) := by decide +kernel
theorem dX8_isAhead_131 : decode cX8_isAhead 131 = .ok (.ireturn, 1) := by decide +kernel
theorem dX8_isAhead_132 : decode cX8_isAhead 132 = .ok (.iload_n 1, 1) := by decide +kernel
theorem dX8_isAhead_133 : decode cX8_isAhead 133 = .ok (.iload_n 2, 1) := by decide +kernel
theorem dX8_isAhead_134 : decode cX8_isAhead 134 = .ok (.if_icmp .ge 7, 3) := by decide +kernel
theorem dX8_isAhead_137 : decode cX8_isAhead 137 = .ok (.iconst 1, 1) := by decide +kernel
theorem dX8_isAhead_138 : decode cX8_isAhead 138 = .ok (.goto 4, 3) := by decide +kernel
theorem dX8_isAhead_141 : decode cX8_isAhead 141 = .ok (.iconst 0, 1) := by decide +kernel
theorem dX8_isAhead_142 : decode cX8_isAhead 142 = .ok (.ireturn, 1) := by decide +kernel
theorem dX9_init_0 : decode cX9_init 0 = .ok (.aload_n 0, 1) := by decide +kernel
theorem dX9_init_1 : decode cX9_init 1 = .ok (.invokespecial 3, 3) := by decide +kernel
theorem dX9_init_4 : decode cX9_init 4 = .ok (.aload_n 0, 1) := by decide +kernel
theorem dX9_init_5 : decode cX9_init 5 = .ok (.iconst 3, 1) := by decide +kernel
theorem dX9_init_6 : decode cX9_init 6 = .ok (.anewarray 9, 3) := by decide +kernel
theorem dX9_init_9 : decode cX9_init 9 = .ok (.putfield 11, 3) := by decide +kernel
theorem dX9_init_12 : decode cX9_init 12 = .ok (.aload_n 0, 1) := by decide +kernel
theorem dX9_init_13 : decode cX9_init 13 = .ok (.iconst 3, 1) := by decide +kernel
theorem dX9_init_14 : decode cX9_init 14 = .ok (.anewarray 17, 3) := by decide +kernel
theorem dX9_init_17 : decode cX9_init 17 = .ok (.putfield 19, 3) := by decide +kernel
theorem dX9_init_20 : decode cX9_init 20 = .ok (.aload_n 0, 1) := by decide +kernel
theorem dX9_init_21 : decode cX9_init 21 = .ok (.iconst 3, 1) := by decide +kernel
theorem dX9_init_22 : decode cX9_init 22 = .ok (.anewarray 23, 3) := by decide +kernel
theorem dX9_init_25 : decode cX9_init 25 = .ok (.putfield 25, 3) := by decide +kernel
theorem dX9_init_28 : decode cX9_init 28 = .ok (.aload_n 0, 1) := by decide +kernel
theorem dX9_init_29 : decode cX9_init 29 = .ok (.iconst 4, 1) := by decide +kernel
theorem dX9_init_30 : decode cX9_init 30 = .ok (.newarray .int, 2) := by decide +kernel
theorem dX9_init_32 : decode cX9_init 32 = .ok (.putfield 29, 3) := by decide +kernel
theorem dX9_init_35 : decode cX9_init 35 = .ok (.aload_n 0, 1) := by decide +kernel
theorem dX9_init_36 : decode cX9_init 36 = .ok (.sipush 800, 3) := by decide +kernel
theorem dX9_init_39 : decode cX9_init 39 = .ok (.newarray .int, 2) := by decide +kernel
theorem dX9_init_41 : decode cX9_init 41 = .ok (.putfield 33, 3) := by decide +kernel
theorem dX9_init_44 : decode cX9_init 44 = .ok (.aload_n 0, 1) := by decide +kernel
theorem dX9_init_45 : decode cX9_init 45 = .ok (.bipush 16, 2) := by decide +kernel
theorem dX9_init_47 : decode cX9_init 47 = .ok (.newarray .int, 2) := by decide +kernel
theorem dX9_init_49 : decode cX9_init 49 = .ok (.putfield 36, 3) := by decide +kernel
theorem dX9_init_52 : decode cX9_init 52 = .ok (.aload_n 0, 1) := by decide +kernel
theorem dX9_init_53 : decode cX9_init 53 = .ok (.bipush 16, 2) := by decide +kernel
theorem dX9_init_55 : decode cX9_init 55 = .ok (.newarray .int, 2) := by decide +kernel
theorem dX9_init_57 : decode cX9_init 57 = .ok (.putfield 39, 3) := by decide +kernel
theorem dX9_init_60 : decode cX9_init 60 = .ok (.aload_n 0, 1) := by decide +kernel
theorem dX9_init_61 : decode cX9_init 61 = .ok (.sipush 500, 3) := by decide +kernel
theorem dX9_init_64 : decode cX9_init 64 = .ok (.newarray .byte, 2) := by decide +kernel
theorem dX9_init_66 : decode cX9_init 66 = .ok (.putfield 42, 3) := by decide +kernel
theorem dX9_init_69 : decode cX9_init 69 = .ok (.aload_n 0, 1) := by decide +kernel
theorem dX9_init_70 : decode cX9_init 70 = .ok (.iconst 0, 1) := by decide +kernel
theorem dX9_init_71 : decode cX9_init 71 = .ok (.putfield 46, 3) := by decide +kernel
theorem dX9_init_74 : decode cX9_init 74 = .ok (.aload_n 0, 1) := by decide +kernel
theorem dX9_init_75 : decode cX9_init 75 = .ok (.iconst 0, 1) := by decide +kernel
theorem dX9_init_76 : decode cX9_init 76 = .ok (.putfield 50, 3) := by decide +kernel
theorem dX9_init_79 : decode cX9_init 79 = .ok (.aload_n 0, 1) := by decide +kernel
theorem dX9_init_80 : decode cX9_init 80 = .ok (.iconst (-1), 1) := by decide +kernel
theorem dX9_init_81 : decode cX9_init 81 = .ok (.putfield 53, 3) := by decide +kernel
theorem dX9_init_84 : decode cX9_init 84 = .ok (.return_, 1) := by decide +kernel
theorem dX9_howMany_0 : decode cX9_howMany 0 = .ok (.aload_n 0, 1) := by decide +kernel
theorem dX9_howMany_1 : decode cX9_howMany 1 = .ok (.getfield 29, 3) := by decide +kernel
theorem dX9_howMany_4 : decode cX9_howMany 4 = .ok (.iload_n 1, 1) := by decide +kernel
theorem dX9_howMany_5 : decode cX9_howMany 5 = .ok (.invokestatic 56, 3) := by decide +kernel
theorem dX9_howMany_8 : decode cX9_howMany 8 = .ok (.ireturn, 1) := by decide +kernel
theorem dX9_addBytes_0 : decode cX9_addBytes 0 = .ok (.bipush 24, 2) := by decide +kernel
theorem dX9_addBytes_2 : decode cX9_addBytes 2 = .ok (.istore_n 2, 1) := by decide +kernel
theorem dX9_addBytes_3 : decode cX9_addBytes 3 = .ok (.iload_n 2, 1) := by decide +kernel
theorem dX9_addBytes_4 : decode cX9_addBytes 4 = .ok (.ifCond .lt 44, 3) := by decide +kernel
theorem dX9_addBytes_7 : decode cX9_addBytes 7 = .ok (.aload_n 0, 1) := by decide +kernel
theorem dX9_addBytes_8 : decode cX9_addBytes 8 = .ok (.getfield 46, 3) := by decide +kernel
theorem dX9_addBytes_11 : decode cX9_addBytes 11 = .ok (.aload_n 0, 1) := by decide +kernel
theorem dX9_addBytes_12 : decode cX9_addBytes 12 = .ok (.getfield 42, 3) := by decide +kernel
theorem dX9_addBytes_15 : decode cX9_addBytes 15 = .ok (.arraylength, 1) := by decide +kernel
theorem dX9_addBytes_16 : decode cX9_addBytes 16 = .ok (.if_icmp .ge 32, 3) := by decide +kernel
theorem dX9_addBytes_19 : decode cX9_addBytes 19 = .ok (.aload_n 0, 1) := by decide +kernel
theorem dX9_addBytes_20 : decode cX9_addBytes 20 = .ok (.getfield 42, 3) := by decide +kernel
theorem dX9_addBytes_23 : decode cX9_addBytes 23 = .ok (.aload_n 0, 1) := by decide +kernel
theorem dX9_addBytes_24 : decode cX9_addBytes 24 = .ok (.getfield 46, 3) := by decide +kernel
theorem dX9_addBytes_27 : decode cX9_addBytes 27 = .ok (.iload_n 1, 1) := by decide +kernel
theorem dX9_addBytes_28 : decode cX9_addBytes 28 = .ok (.iload_n 2, 1) := by decide +kernel
theorem dX9_addBytes_29 : decode cX9_addBytes 29 = .ok (.iushr, 1) := by decide +kernel
theorem dX9_addBytes_30 : decode cX9_addBytes 30 = .ok (.i2b, 1) := by decide +kernel
theorem dX9_addBytes_31 : decode cX9_addBytes 31 = .ok (.bastore, 1) := by decide +kernel
theorem dX9_addBytes_32 : decode cX9_addBytes 32 = .ok (.aload_n 0, 1) := by decide +kernel
theorem dX9_addBytes_33 : decode cX9_addBytes 33 = .ok (.dup, 1) := by decide +kernel
theorem dX9_addBytes_34 : decode cX9_addBytes 34 = .ok (.getfield 46, 3) := by decide +kernel
theorem dX9_addBytes_37 : decode cX9_addBytes 37 = .ok (.iconst 1, 1) := by decide +kernel
theorem dX9_addBytes_38 : decode cX9_addBytes 38 = .ok (.iadd, 1) := by decide +kernel
theorem dX9_addBytes_39 : decode cX9_addBytes 39 = .ok (.putfield 46, 3) := by decide +kernel
theorem dX9_addBytes_42 : decode cX9_addBytes 42 = .ok (.iinc 2 (-8), 3) := by decide +kernel
theorem dX9_addBytes_45 : decode cX9_addBytes 45 = .ok (.goto (-42), 3) := by decide +kernel
theorem dX9_addBytes_48 : decode cX9_addBytes 48 = .ok (.return_, 1) := by decide +kernel
theorem dX9_slotOf_0 : decode cX9_slotOf 0 = .ok (.iload_n 1, 1) := by decide +kernel
theorem dX9_slotOf_1 : decode cX9_slotOf 1 = .ok (.ifCond .lt 8, 3) := by decide +kernel
theorem dX9_slotOf_4 : decode cX9_slotOf 4 = .ok (.iload_n 1, 1) := by decide +kernel
theorem dX9_slotOf_5 : decode cX9_slotOf 5 = .ok (.iconst 2, 1) := by decide +kernel
theorem dX9_slotOf_6 : decode cX9_slotOf 6 = .ok (.if_icmp .le 5, 3) := by decide +kernel
theorem dX9_slotOf_9 : decode cX9_slotOf 9 = .ok (.iconst (-1), 1) := by decide +kernel
theorem dX9_slotOf_10 : decode cX9_slotOf 10 = .ok (.ireturn, 1) := by decide +kernel
theorem dX9_slotOf_11 : decode cX9_slotOf 11 = .ok (.aload_n 0, 1) := by decide +kernel
theorem dX9_slotOf_12 : decode cX9_slotOf 12 = .ok (.iload_n 1, 1) := by decide +kernel
theorem dX9_slotOf_13 : decode cX9_slotOf 13 = .ok (.invokevirtual 60, 3) := by decide +kernel
theorem dX9_slotOf_16 : decode cX9_slotOf 16 = .ok (.istore_n 3, 1) := by decide +kernel
theorem dX9_slotOf_17 : decode cX9_slotOf 17 = .ok (.iload_n 2, 1) := by decide +kernel
theorem dX9_slotOf_18 : decode cX9_slotOf 18 = .ok (.iconst (-1), 1) := by decide +kernel
theorem dX9_slotOf_19 : decode cX9_slotOf 19 = .ok (.if_icmp .ne 14, 3) := by decide +kernel
theorem dX9_slotOf_22 : decode cX9_slotOf 22 = .ok (.iload_n 3, 1) := by decide +kernel
theorem dX9_slotOf_23 : decode cX9_slotOf 23 = .ok (.iconst 3, 1) := by decide +kernel
theorem dX9_slotOf_24 : decode cX9_slotOf 24 = .ok (.if_icmp .ge 7, 3) := by decide +kernel
theorem dX9_slotOf_27 : decode cX9_slotOf 27 = .ok (.iload_n 3, 1) := by decide +kernel
theorem dX9_slotOf_28 : decode cX9_slotOf 28 = .ok (.goto 4, 3) := by decide +kernel
theorem dX9_slotOf_31 : decode cX9_slotOf 31 = .ok (.iconst (-1), 1) := by decide +kernel
theorem dX9_slotOf_32 : decode cX9_slotOf 32 = .ok (.ireturn, 1) := by decide +kernel
theorem dX9_slotOf_33 : decode cX9_slotOf 33 = .ok (.iload_n 2, 1) := by decide +kernel
theorem dX9_slotOf_34 : decode cX9_slotOf 34 = .ok (.ifCond .lt 12, 3) := by decide +kernel
theorem dX9_slotOf_37 : decode cX9_slotOf 37 = .ok (.iload_n 2, 1) := by decide +kernel
theorem dX9_slotOf_38 : decode cX9_slotOf 38 = .ok (.iload_n 3, 1) := by decide +kernel
theorem dX9_slotOf_39 : decode cX9_slotOf 39 = .ok (.if_icmp .ge 7, 3) := by decide +kernel
theorem dX9_slotOf_42 : decode cX9_slotOf 42 = .ok (.iload_n 2, 1) := by decide +kernel
theorem dX9_slotOf_43 : decode cX9_slotOf 43 = .ok (.goto 4, 3) := by decide +kernel
theorem dX9_slotOf_46 : decode cX9_slotOf 46 = .ok (.iconst (-1), 1) := by decide +kernel
theorem dX9_slotOf_47 : decode cX9_slotOf 47 = .ok (.ireturn, 1) := by decide +kernel
theorem dX9_grow_0 : decode cX9_grow 0 = .ok (.aload_n 0, 1) := by decide +kernel
theorem dX9_grow_1 : decode cX9_grow 1 = .ok (.getfield 29, 3) := by decide +kernel
theorem dX9_grow_4 : decode cX9_grow 4 = .ok (.iload_n 1, 1) := by decide +kernel
theorem dX9_grow_5 : decode cX9_grow 5 = .ok (.aload_n 0, 1) := by decide +kernel
theorem dX9_grow_6 : decode cX9_grow 6 = .ok (.iload_n 1, 1) := by decide +kernel
theorem dX9_grow_7 : decode cX9_grow 7 = .ok (.invokevirtual 60, 3) := by decide +kernel
theorem dX9_grow_10 : decode cX9_grow 10 = .ok (.iload_n 2, 1) := by decide +kernel
theorem dX9_grow_11 : decode cX9_grow 11 = .ok (.iconst 1, 1) := by decide +kernel
theorem dX9_grow_12 : decode cX9_grow 12 = .ok (.iadd, 1) := by decide +kernel
theorem dX9_grow_13 : decode cX9_grow 13 = .ok (.invokestatic 64, 3) := by decide +kernel
theorem dX9_grow_16 : decode cX9_grow 16 = .ok (.invokestatic 70, 3) := by decide +kernel
theorem dX9_grow_19 : decode cX9_grow 19 = .ok (.return_, 1) := by decide +kernel
theorem dX9_putLeague_0 : decode cX9_putLeague 0 = .ok (.iload_n 1, 1) := by decide +kernel
theorem dX9_putLeague_1 : decode cX9_putLeague 1 = .ok (.ifCond .lt 25, 3) := by decide +kernel
theorem dX9_putLeague_4 : decode cX9_putLeague 4 = .ok (.iload_n 1, 1) := by decide +kernel
theorem dX9_putLeague_5 : decode cX9_putLeague 5 = .ok (.aload_n 0, 1) := by decide +kernel
theorem dX9_putLeague_6 : decode cX9_putLeague 6 = .ok (.getfield 11, 3) := by decide +kernel
theorem dX9_putLeague_9 : decode cX9_putLeague 9 = .ok (.arraylength, 1) := by decide +kernel
theorem dX9_putLeague_10 : decode cX9_putLeague 10 = .ok (.if_icmp .ge 16, 3) := by decide +kernel
theorem dX9_putLeague_13 : decode cX9_putLeague 13 = .ok (.aload_n 0, 1) := by decide +kernel
theorem dX9_putLeague_14 : decode cX9_putLeague 14 = .ok (.getfield 11, 3) := by decide +kernel
theorem dX9_putLeague_17 : decode cX9_putLeague 17 = .ok (.iload_n 1, 1) := by decide +kernel
theorem dX9_putLeague_18 : decode cX9_putLeague 18 = .ok (.aload_n 2, 1) := by decide +kernel
theorem dX9_putLeague_19 : decode cX9_putLeague 19 = .ok (.aastore, 1) := by decide +kernel
theorem dX9_putLeague_20 : decode cX9_putLeague 20 = .ok (.aload_n 0, 1) := by decide +kernel
theorem dX9_putLeague_21 : decode cX9_putLeague 21 = .ok (.iconst 0, 1) := by decide +kernel
theorem dX9_putLeague_22 : decode cX9_putLeague 22 = .ok (.iload_n 1, 1) := by decide +kernel
theorem dX9_putLeague_23 : decode cX9_putLeague 23 = .ok (.invokevirtual 74, 3) := by decide +kernel
theorem dX9_putLeague_26 : decode cX9_putLeague 26 = .ok (.return_, 1) := by decide +kernel
theorem dX9_putLaw_0 : decode cX9_putLaw 0 = .ok (.iload_n 1, 1) := by decide +kernel
theorem dX9_putLaw_1 : decode cX9_putLaw 1 = .ok (.ifCond .lt 25, 3) := by decide +kernel
theorem dX9_putLaw_4 : decode cX9_putLaw 4 = .ok (.iload_n 1, 1) := by decide +kernel
theorem dX9_putLaw_5 : decode cX9_putLaw 5 = .ok (.aload_n 0, 1) := by decide +kernel
theorem dX9_putLaw_6 : decode cX9_putLaw 6 = .ok (.getfield 19, 3) := by decide +kernel
theorem dX9_putLaw_9 : decode cX9_putLaw 9 = .ok (.arraylength, 1) := by decide +kernel
theorem dX9_putLaw_10 : decode cX9_putLaw 10 = .ok (.if_icmp .ge 16, 3) := by decide +kernel
theorem dX9_putLaw_13 : decode cX9_putLaw 13 = .ok (.aload_n 0, 1) := by decide +kernel
theorem dX9_putLaw_14 : decode cX9_putLaw 14 = .ok (.getfield 19, 3) := by decide +kernel
theorem dX9_putLaw_17 : decode cX9_putLaw 17 = .ok (.iload_n 1, 1) := by decide +kernel
theorem dX9_putLaw_18 : decode cX9_putLaw 18 = .ok (.aload_n 2, 1) := by decide +kernel
theorem dX9_putLaw_19 : decode cX9_putLaw 19 = .ok (.aastore, 1) := by decide +kernel
theorem dX9_putLaw_20 : decode cX9_putLaw 20 = .ok (.aload_n 0, 1) := by decide +kernel
theorem dX9_putLaw_21 : decode cX9_putLaw 21 = .ok (.iconst 1, 1) := by decide +kernel
theorem dX9_putLaw_22 : decode cX9_putLaw 22 = .ok (.iload_n 1, 1) := by decide +kernel
theorem dX9_putLaw_23 : decode cX9_putLaw 23 = .ok (.invokevirtual 74, 3) := by decide +kernel
theorem dX9_putLaw_26 : decode cX9_putLaw 26 = .ok (.return_, 1) := by decide +kernel
theorem dX9_putPlan_0 : decode cX9_putPlan 0 = .ok (.iload_n 1, 1) := by decide +kernel
theorem dX9_putPlan_1 : decode cX9_putPlan 1 = .ok (.ifCond .lt 25, 3) := by decide +kernel
theorem dX9_putPlan_4 : decode cX9_putPlan 4 = .ok (.iload_n 1, 1) := by decide +kernel
theorem dX9_putPlan_5 : decode cX9_putPlan 5 = .ok (.aload_n 0, 1) := by decide +kernel
theorem dX9_putPlan_6 : decode cX9_putPlan 6 = .ok (.getfield 25, 3) := by decide +kernel
theorem dX9_putPlan_9 : decode cX9_putPlan 9 = .ok (.arraylength, 1) := by decide +kernel
theorem dX9_putPlan_10 : decode cX9_putPlan 10 = .ok (.if_icmp .ge 16, 3) := by decide +kernel
theorem dX9_putPlan_13 : decode cX9_putPlan 13 = .ok (.aload_n 0, 1) := by decide +kernel
theorem dX9_putPlan_14 : decode cX9_putPlan 14 = .ok (.getfield 25, 3) := by decide +kernel
theorem dX9_putPlan_17 : decode cX9_putPlan 17 = .ok (.iload_n 1, 1) := by decide +kernel
theorem dX9_putPlan_18 : decode cX9_putPlan 18 = .ok (.aload_n 2, 1) := by decide +kernel
theorem dX9_putPlan_19 : decode cX9_putPlan 19 = .ok (.aastore, 1) := by decide +kernel
theorem dX9_putPlan_20 : decode cX9_putPlan 20 = .ok (.aload_n 0, 1) := by decide +kernel
theorem dX9_putPlan_21 : decode cX9_putPlan 21 = .ok (.iconst 2, 1) := by decide +kernel
theorem dX9_putPlan_22 : decode cX9_putPlan 22 = .ok (.iload_n 1, 1) := by decide +kernel
theorem dX9_putPlan_23 : decode cX9_putPlan 23 = .ok (.invokevirtual 74, 3) := by decide +kernel
theorem dX9_putPlan_26 : decode cX9_putPlan 26 = .ok (.return_, 1) := by decide +kernel
theorem dX9_leagueAt_0 : decode cX9_leagueAt 0 = .ok (.iload_n 1, 1) := by decide +kernel
theorem dX9_leagueAt_1 : decode cX9_leagueAt 1 = .ok (.ifCond .lt 21, 3) := by decide +kernel
theorem dX9_leagueAt_4 : decode cX9_leagueAt 4 = .ok (.iload_n 1, 1) := by decide +kernel
theorem dX9_leagueAt_5 : decode cX9_leagueAt 5 = .ok (.aload_n 0, 1) := by decide +kernel
theorem dX9_leagueAt_6 : decode cX9_leagueAt 6 = .ok (.getfield 11, 3) := by decide +kernel
theorem dX9_leagueAt_9 : decode cX9_leagueAt 9 = .ok (.arraylength, 1) := by decide +kernel
theorem dX9_leagueAt_10 : decode cX9_leagueAt 10 = .ok (.if_icmp .ge 12, 3) := by decide +kernel
theorem dX9_leagueAt_13 : decode cX9_leagueAt 13 = .ok (.aload_n 0, 1) := by decide +kernel
theorem dX9_leagueAt_14 : decode cX9_leagueAt 14 = .ok (.getfield 11, 3) := by decide +kernel
theorem dX9_leagueAt_17 : decode cX9_leagueAt 17 = .ok (.iload_n 1, 1) := by decide +kernel
theorem dX9_leagueAt_18 : decode cX9_leagueAt 18 = .ok (.aaload, 1) := by decide +kernel
theorem dX9_leagueAt_19 : decode cX9_leagueAt 19 = .ok (.goto 4, 3) := by decide +kernel
theorem dX9_leagueAt_22 : decode cX9_leagueAt 22 = .ok (.aconst_null, 1) := by decide +kernel
theorem dX9_leagueAt_23 : decode cX9_leagueAt 23 = .ok (.areturn, 1) := by decide +kernel
theorem dX9_lawAt_0 : decode cX9_lawAt 0 = .ok (.iload_n 1, 1) := by decide +kernel
theorem dX9_lawAt_1 : decode cX9_lawAt 1 = .ok (.ifCond .lt 21, 3) := by decide +kernel
theorem dX9_lawAt_4 : decode cX9_lawAt 4 = .ok (.iload_n 1, 1) := by decide +kernel
theorem dX9_lawAt_5 : decode cX9_lawAt 5 = .ok (.aload_n 0, 1) := by decide +kernel
theorem dX9_lawAt_6 : decode cX9_lawAt 6 = .ok (.getfield 19, 3) := by decide +kernel
theorem dX9_lawAt_9 : decode cX9_lawAt 9 = .ok (.arraylength, 1) := by decide +kernel
theorem dX9_lawAt_10 : decode cX9_lawAt 10 = .ok (.if_icmp .ge 12, 3) := by decide +kernel
theorem dX9_lawAt_13 : decode cX9_lawAt 13 = .ok (.aload_n 0, 1) := by decide +kernel
theorem dX9_lawAt_14 : decode cX9_lawAt 14 = .ok (.getfield 19, 3) := by decide +kernel
theorem dX9_lawAt_17 : decode cX9_lawAt 17 = .ok (.iload_n 1, 1) := by decide +kernel
theorem dX9_lawAt_18 : decode cX9_lawAt 18 = .ok (.aaload, 1) := by decide +kernel
theorem dX9_lawAt_19 : decode cX9_lawAt 19 = .ok (.goto 4, 3) := by decide +kernel
theorem dX9_lawAt_22 : decode cX9_lawAt 22 = .ok (.aconst_null, 1) := by decide +kernel
theorem dX9_lawAt_23 : decode cX9_lawAt 23 = .ok (.areturn, 1) := by decide +kernel
theorem dX9_planAt_0 : decode cX9_planAt 0 = .ok (.iload_n 1, 1) := by decide +kernel
theorem dX9_planAt_1 : decode cX9_planAt 1 = .ok (.ifCond .lt 21, 3) := by decide +kernel
theorem dX9_planAt_4 : decode cX9_planAt 4 = .ok (.iload_n 1, 1) := by decide +kernel
theorem dX9_planAt_5 : decode cX9_planAt 5 = .ok (.aload_n 0, 1) := by decide +kernel
theorem dX9_planAt_6 : decode cX9_planAt 6 = .ok (.getfield 25, 3) := by decide +kernel
theorem dX9_planAt_9 : decode cX9_planAt 9 = .ok (.arraylength, 1) := by decide +kernel
theorem dX9_planAt_10 : decode cX9_planAt 10 = .ok (.if_icmp .ge 12, 3) := by decide +kernel
theorem dX9_planAt_13 : decode cX9_planAt 13 = .ok (.aload_n 0, 1) := by decide +kernel
theorem dX9_planAt_14 : decode cX9_planAt 14 = .ok (.getfield 25, 3) := by decide +kernel
theorem dX9_planAt_17 : decode cX9_planAt 17 = .ok (.iload_n 1, 1) := by decide +kernel
theorem dX9_planAt_18 : decode cX9_planAt 18 = .ok (.aaload, 1) := by decide +kernel
theorem dX9_planAt_19 : decode cX9_planAt 19 = .ok (.goto 4, 3) := by decide +kernel
theorem dX9_planAt_22 : decode cX9_planAt 22 = .ok (.aconst_null, 1) := by decide +kernel
theorem dX9_planAt_23 : decode cX9_planAt 23 = .ok (.areturn, 1) := by decide +kernel
theorem dX9_newNote_0 : decode cX9_newNote 0 = .ok (.aload_n 0, 1) := by decide +kernel
theorem dX9_newNote_1 : decode cX9_newNote 1 = .ok (.iconst 3, 1) := by decide +kernel
theorem dX9_newNote_2 : decode cX9_newNote 2 = .ok (.invokevirtual 60, 3) := by decide +kernel
theorem dX9_newNote_5 : decode cX9_newNote 5 = .ok (.istore_n 1, 1) := by decide +kernel
theorem dX9_newNote_6 : decode cX9_newNote 6 = .ok (.aload_n 0, 1) := by decide +kernel
theorem dX9_newNote_7 : decode cX9_newNote 7 = .ok (.getfield 29, 3) := by decide +kernel
theorem dX9_newNote_10 : decode cX9_newNote 10 = .ok (.iconst 3, 1) := by decide +kernel
theorem dX9_newNote_11 : decode cX9_newNote 11 = .ok (.iload_n 1, 1) := by decide +kernel
theorem dX9_newNote_12 : decode cX9_newNote 12 = .ok (.iconst 1, 1) := by decide +kernel
theorem dX9_newNote_13 : decode cX9_newNote 13 = .ok (.iadd, 1) := by decide +kernel
theorem dX9_newNote_14 : decode cX9_newNote 14 = .ok (.invokestatic 70, 3) := by decide +kernel
theorem dX9_newNote_17 : decode cX9_newNote 17 = .ok (.iload_n 1, 1) := by decide +kernel
theorem dX9_newNote_18 : decode cX9_newNote 18 = .ok (.ireturn, 1) := by decide +kernel
theorem dX9_setNote_0 : decode cX9_setNote 0 = .ok (.aload_n 0, 1) := by decide +kernel
theorem dX9_setNote_1 : decode cX9_setNote 1 = .ok (.getfield 33, 3) := by decide +kernel
theorem dX9_setNote_4 : decode cX9_setNote 4 = .ok (.bipush 10, 2) := by decide +kernel
theorem dX9_setNote_6 : decode cX9_setNote 6 = .ok (.iload_n 1, 1) := by decide +kernel
theorem dX9_setNote_7 : decode cX9_setNote 7 = .ok (.imul, 1) := by decide +kernel
theorem dX9_setNote_8 : decode cX9_setNote 8 = .ok (.iload_n 2, 1) := by decide +kernel
theorem dX9_setNote_9 : decode cX9_setNote 9 = .ok (.iadd, 1) := by decide +kernel
theorem dX9_setNote_10 : decode cX9_setNote 10 = .ok (.iload_n 3, 1) := by decide +kernel
theorem dX9_setNote_11 : decode cX9_setNote 11 = .ok (.invokestatic 70, 3) := by decide +kernel
theorem dX9_setNote_14 : decode cX9_setNote 14 = .ok (.return_, 1) := by decide +kernel
theorem dX9_noteOf_0 : decode cX9_noteOf 0 = .ok (.aload_n 0, 1) := by decide +kernel
theorem dX9_noteOf_1 : decode cX9_noteOf 1 = .ok (.getfield 33, 3) := by decide +kernel
theorem dX9_noteOf_4 : decode cX9_noteOf 4 = .ok (.bipush 10, 2) := by decide +kernel
theorem dX9_noteOf_6 : decode cX9_noteOf 6 = .ok (.iload_n 1, 1) := by decide +kernel
theorem dX9_noteOf_7 : decode cX9_noteOf 7 = .ok (.imul, 1) := by decide +kernel
theorem dX9_noteOf_8 : decode cX9_noteOf 8 = .ok (.iload_n 2, 1) := by decide +kernel
theorem dX9_noteOf_9 : decode cX9_noteOf 9 = .ok (.iadd, 1) := by decide +kernel
theorem dX9_noteOf_10 : decode cX9_noteOf 10 = .ok (.invokestatic 56, 3) := by decide +kernel
theorem dX9_noteOf_13 : decode cX9_noteOf 13 = .ok (.ireturn, 1) := by decide +kernel
theorem dX9_filmOf_0 : decode cX9_filmOf 0 = .ok (.iconst 2, 1) := by decide +kernel
theorem dX9_filmOf_1 : decode cX9_filmOf 1 = .ok (.iload_n 1, 1) := by decide +kernel
theorem dX9_filmOf_2 : decode cX9_filmOf 2 = .ok (.imul, 1) := by decide +kernel
theorem dX9_filmOf_3 : decode cX9_filmOf 3 = .ok (.iload_n 2, 1) := by decide +kernel
theorem dX9_filmOf_4 : decode cX9_filmOf 4 = .ok (.ifCond .eq 7, 3) := by decide +kernel
theorem dX9_filmOf_7 : decode cX9_filmOf 7 = .ok (.iconst 1, 1) := by decide +kernel
theorem dX9_filmOf_8 : decode cX9_filmOf 8 = .ok (.goto 4, 3) := by decide +kernel
theorem dX9_filmOf_11 : decode cX9_filmOf 11 = .ok (.iconst 0, 1) := by decide +kernel
theorem dX9_filmOf_12 : decode cX9_filmOf 12 = .ok (.iadd, 1) := by decide +kernel
theorem dX9_filmOf_13 : decode cX9_filmOf 13 = .ok (.ireturn, 1) := by decide +kernel
theorem dX9_setFilms_0 : decode cX9_setFilms 0 = .ok (.aload_n 0, 1) := by decide +kernel
theorem dX9_setFilms_1 : decode cX9_setFilms 1 = .ok (.getfield 36, 3) := by decide +kernel
theorem dX9_setFilms_4 : decode cX9_setFilms 4 = .ok (.aload_n 0, 1) := by decide +kernel
theorem dX9_setFilms_5 : decode cX9_setFilms 5 = .ok (.iload_n 1, 1) := by decide +kernel
theorem dX9_setFilms_6 : decode cX9_setFilms 6 = .ok (.iload_n 2, 1) := by decide +kernel
theorem dX9_setFilms_7 : decode cX9_setFilms 7 = .ok (.invokevirtual 78, 3) := by decide +kernel
theorem dX9_setFilms_10 : decode cX9_setFilms 10 = .ok (.iload_n 3, 1) := by decide +kernel
theorem dX9_setFilms_11 : decode cX9_setFilms 11 = .ok (.invokestatic 70, 3) := by decide +kernel
theorem dX9_setFilms_14 : decode cX9_setFilms 14 = .ok (.aload_n 0, 1) := by decide +kernel
theorem dX9_setFilms_15 : decode cX9_setFilms 15 = .ok (.getfield 39, 3) := by decide +kernel
theorem dX9_setFilms_18 : decode cX9_setFilms 18 = .ok (.aload_n 0, 1) := by decide +kernel
theorem dX9_setFilms_19 : decode cX9_setFilms 19 = .ok (.iload_n 1, 1) := by decide +kernel
theorem dX9_setFilms_20 : decode cX9_setFilms 20 = .ok (.iload_n 2, 1) := by decide +kernel
theorem dX9_setFilms_21 : decode cX9_setFilms 21 = .ok (.invokevirtual 78, 3) := by decide +kernel
theorem dX9_setFilms_24 : decode cX9_setFilms 24 = .ok (.iload 4, 2) := by decide +kernel
theorem dX9_setFilms_26 : decode cX9_setFilms 26 = .ok (.invokestatic 70, 3) := by decide +kernel
theorem dX9_setFilms_29 : decode cX9_setFilms 29 = .ok (.return_, 1) := by decide +kernel
theorem dX9_shownBy_0 : decode cX9_shownBy 0 = .ok (.aload_n 0, 1) := by decide +kernel
theorem dX9_shownBy_1 : decode cX9_shownBy 1 = .ok (.getfield 36, 3) := by decide +kernel
theorem dX9_shownBy_4 : decode cX9_shownBy 4 = .ok (.aload_n 0, 1) := by decide +kernel
theorem dX9_shownBy_5 : decode cX9_shownBy 5 = .ok (.iload_n 1, 1) := by decide +kernel
theorem dX9_shownBy_6 : decode cX9_shownBy 6 = .ok (.iload_n 2, 1) := by decide +kernel
theorem dX9_shownBy_7 : decode cX9_shownBy 7 = .ok (.invokevirtual 78, 3) := by decide +kernel
theorem dX9_shownBy_10 : decode cX9_shownBy 10 = .ok (.invokestatic 56, 3) := by decide +kernel
theorem dX9_shownBy_13 : decode cX9_shownBy 13 = .ok (.ireturn, 1) := by decide +kernel
theorem dX9_gaveBy_0 : decode cX9_gaveBy 0 = .ok (.aload_n 0, 1) := by decide +kernel
theorem dX9_gaveBy_1 : decode cX9_gaveBy 1 = .ok (.getfield 39, 3) := by decide +kernel
theorem dX9_gaveBy_4 : decode cX9_gaveBy 4 = .ok (.aload_n 0, 1) := by decide +kernel
theorem dX9_gaveBy_5 : decode cX9_gaveBy 5 = .ok (.iload_n 1, 1) := by decide +kernel
theorem dX9_gaveBy_6 : decode cX9_gaveBy 6 = .ok (.iload_n 2, 1) := by decide +kernel
theorem dX9_gaveBy_7 : decode cX9_gaveBy 7 = .ok (.invokevirtual 78, 3) := by decide +kernel
theorem dX9_gaveBy_10 : decode cX9_gaveBy 10 = .ok (.invokestatic 56, 3) := by decide +kernel
theorem dX9_gaveBy_13 : decode cX9_gaveBy 13 = .ok (.ireturn, 1) := by decide +kernel
theorem dX9_become_0 : decode cX9_become 0 = .ok (.iconst 0, 1) := by decide +kernel
theorem dX9_become_1 : decode cX9_become 1 = .ok (.istore_n 2, 1) := by decide +kernel
theorem dX9_become_2 : decode cX9_become 2 = .ok (.iload_n 2, 1) := by decide +kernel
theorem dX9_become_3 : decode cX9_become 3 = .ok (.iconst 3, 1) := by decide +kernel
theorem dX9_become_4 : decode cX9_become 4 = .ok (.if_icmp .ge 45, 3) := by decide +kernel
theorem dX9_become_7 : decode cX9_become 7 = .ok (.aload_n 0, 1) := by decide +kernel
theorem dX9_become_8 : decode cX9_become 8 = .ok (.getfield 11, 3) := by decide +kernel
theorem dX9_become_11 : decode cX9_become 11 = .ok (.iload_n 2, 1) := by decide +kernel
theorem dX9_become_12 : decode cX9_become 12 = .ok (.aload_n 1, 1) := by decide +kernel
theorem dX9_become_13 : decode cX9_become 13 = .ok (.getfield 11, 3) := by decide +kernel
theorem dX9_become_16 : decode cX9_become 16 = .ok (.iload_n 2, 1) := by decide +kernel
theorem dX9_become_17 : decode cX9_become 17 = .ok (.aaload, 1) := by decide +kernel
theorem dX9_become_18 : decode cX9_become 18 = .ok (.aastore, 1) := by decide +kernel
theorem dX9_become_19 : decode cX9_become 19 = .ok (.aload_n 0, 1) := by decide +kernel
theorem dX9_become_20 : decode cX9_become 20 = .ok (.getfield 19, 3) := by decide +kernel
theorem dX9_become_23 : decode cX9_become 23 = .ok (.iload_n 2, 1) := by decide +kernel
theorem dX9_become_24 : decode cX9_become 24 = .ok (.aload_n 1, 1) := by decide +kernel
theorem dX9_become_25 : decode cX9_become 25 = .ok (.getfield 19, 3) := by decide +kernel
theorem dX9_become_28 : decode cX9_become 28 = .ok (.iload_n 2, 1) := by decide +kernel
theorem dX9_become_29 : decode cX9_become 29 = .ok (.aaload, 1) := by decide +kernel
theorem dX9_become_30 : decode cX9_become 30 = .ok (.aastore, 1) := by decide +kernel
theorem dX9_become_31 : decode cX9_become 31 = .ok (.aload_n 0, 1) := by decide +kernel
theorem dX9_become_32 : decode cX9_become 32 = .ok (.getfield 25, 3) := by decide +kernel
theorem dX9_become_35 : decode cX9_become 35 = .ok (.iload_n 2, 1) := by decide +kernel
theorem dX9_become_36 : decode cX9_become 36 = .ok (.aload_n 1, 1) := by decide +kernel
theorem dX9_become_37 : decode cX9_become 37 = .ok (.getfield 25, 3) := by decide +kernel
theorem dX9_become_40 : decode cX9_become 40 = .ok (.iload_n 2, 1) := by decide +kernel
theorem dX9_become_41 : decode cX9_become 41 = .ok (.aaload, 1) := by decide +kernel
theorem dX9_become_42 : decode cX9_become 42 = .ok (.aastore, 1) := by decide +kernel
theorem dX9_become_43 : decode cX9_become 43 = .ok (.iinc 2 1, 3) := by decide +kernel
theorem dX9_become_46 : decode cX9_become 46 = .ok (.goto (-44), 3) := by decide +kernel
theorem dX9_become_49 : decode cX9_become 49 = .ok (.aload_n 1, 1) := by decide +kernel
theorem dX9_become_50 : decode cX9_become 50 = .ok (.getfield 29, 3) := by decide +kernel
theorem dX9_become_53 : decode cX9_become 53 = .ok (.iconst 0, 1) := by decide +kernel
theorem dX9_become_54 : decode cX9_become 54 = .ok (.aload_n 0, 1) := by decide +kernel
theorem dX9_become_55 : decode cX9_become 55 = .ok (.getfield 29, 3) := by decide +kernel
theorem dX9_become_58 : decode cX9_become 58 = .ok (.iconst 0, 1) := by decide +kernel
theorem dX9_become_59 : decode cX9_become 59 = .ok (.aload_n 0, 1) := by decide +kernel
theorem dX9_become_60 : decode cX9_become 60 = .ok (.getfield 29, 3) := by decide +kernel
theorem dX9_become_63 : decode cX9_become 63 = .ok (.arraylength, 1) := by decide +kernel
theorem dX9_become_64 : decode cX9_become 64 = .ok (.invokestatic 82, 3) := by decide +kernel
theorem dX9_become_67 : decode cX9_become 67 = .ok (.aload_n 1, 1) := by decide +kernel
theorem dX9_become_68 : decode cX9_become 68 = .ok (.getfield 33, 3) := by decide +kernel
theorem dX9_become_71 : decode cX9_become 71 = .ok (.iconst 0, 1) := by decide +kernel
theorem dX9_become_72 : decode cX9_become 72 = .ok (.aload_n 0, 1) := by decide +kernel
theorem dX9_become_73 : decode cX9_become 73 = .ok (.getfield 33, 3) := by decide +kernel
theorem dX9_become_76 : decode cX9_become 76 = .ok (.iconst 0, 1) := by decide +kernel
theorem dX9_become_77 : decode cX9_become 77 = .ok (.aload_n 0, 1) := by decide +kernel
theorem dX9_become_78 : decode cX9_become 78 = .ok (.getfield 33, 3) := by decide +kernel
theorem dX9_become_81 : decode cX9_become 81 = .ok (.arraylength, 1) := by decide +kernel
theorem dX9_become_82 : decode cX9_become 82 = .ok (.invokestatic 82, 3) := by decide +kernel
theorem dX9_become_85 : decode cX9_become 85 = .ok (.aload_n 1, 1) := by decide +kernel
theorem dX9_become_86 : decode cX9_become 86 = .ok (.getfield 36, 3) := by decide +kernel
theorem dX9_become_89 : decode cX9_become 89 = .ok (.iconst 0, 1) := by decide +kernel
theorem dX9_become_90 : decode cX9_become 90 = .ok (.aload_n 0, 1) := by decide +kernel
theorem dX9_become_91 : decode cX9_become 91 = .ok (.getfield 36, 3) := by decide +kernel
theorem dX9_become_94 : decode cX9_become 94 = .ok (.iconst 0, 1) := by decide +kernel
theorem dX9_become_95 : decode cX9_become 95 = .ok (.aload_n 0, 1) := by decide +kernel
theorem dX9_become_96 : decode cX9_become 96 = .ok (.getfield 36, 3) := by decide +kernel
theorem dX9_become_99 : decode cX9_become 99 = .ok (.arraylength, 1) := by decide +kernel
theorem dX9_become_100 : decode cX9_become 100 = .ok (.invokestatic 82, 3) := by decide +kernel
theorem dX9_become_103 : decode cX9_become 103 = .ok (.aload_n 1, 1) := by decide +kernel
theorem dX9_become_104 : decode cX9_become 104 = .ok (.getfield 39, 3) := by decide +kernel
theorem dX9_become_107 : decode cX9_become 107 = .ok (.iconst 0, 1) := by decide +kernel
theorem dX9_become_108 : decode cX9_become 108 = .ok (.aload_n 0, 1) := by decide +kernel
theorem dX9_become_109 : decode cX9_become 109 = .ok (.getfield 39, 3) := by decide +kernel
theorem dX9_become_112 : decode cX9_become 112 = .ok (.iconst 0, 1) := by decide +kernel
theorem dX9_become_113 : decode cX9_become 113 = .ok (.aload_n 0, 1) := by decide +kernel
theorem dX9_become_114 : decode cX9_become 114 = .ok (.getfield 39, 3) := by decide +kernel
theorem dX9_become_117 : decode cX9_become 117 = .ok (.arraylength, 1) := by decide +kernel
theorem dX9_become_118 : decode cX9_become 118 = .ok (.invokestatic 82, 3) := by decide +kernel
theorem dX9_become_121 : decode cX9_become 121 = .ok (.aload_n 1, 1) := by decide +kernel
theorem dX9_become_122 : decode cX9_become 122 = .ok (.getfield 42, 3) := by decide +kernel
theorem dX9_become_125 : decode cX9_become 125 = .ok (.iconst 0, 1) := by decide +kernel
theorem dX9_become_126 : decode cX9_become 126 = .ok (.aload_n 0, 1) := by decide +kernel
theorem dX9_become_127 : decode cX9_become 127 = .ok (.getfield 42, 3) := by decide +kernel
theorem dX9_become_130 : decode cX9_become 130 = .ok (.iconst 0, 1) := by decide +kernel
theorem dX9_become_131 : decode cX9_become 131 = .ok (.aload_n 0, 1) := by decide +kernel
theorem dX9_become_132 : decode cX9_become 132 = .ok (.getfield 42, 3) := by decide +kernel
theorem dX9_become_135 : decode cX9_become 135 = .ok (.arraylength, 1) := by decide +kernel
theorem dX9_become_136 : decode cX9_become 136 = .ok (.invokestatic 82, 3) := by decide +kernel
theorem dX9_become_139 : decode cX9_become 139 = .ok (.aload_n 0, 1) := by decide +kernel
theorem dX9_become_140 : decode cX9_become 140 = .ok (.aload_n 1, 1) := by decide +kernel
theorem dX9_become_141 : decode cX9_become 141 = .ok (.getfield 46, 3) := by decide +kernel
theorem dX9_become_144 : decode cX9_become 144 = .ok (.putfield 46, 3) := by decide +kernel
theorem dX9_become_147 : decode cX9_become 147 = .ok (.aload_n 0, 1) := by decide +kernel
theorem dX9_become_148 : decode cX9_become 148 = .ok (.aload_n 1, 1) := by decide +kernel
theorem dX9_become_149 : decode cX9_become 149 = .ok (.getfield 50, 3) := by decide +kernel
theorem dX9_become_152 : decode cX9_become 152 = .ok (.putfield 50, 3) := by decide +kernel
theorem dX9_become_155 : decode cX9_become 155 = .ok (.aload_n 0, 1) := by decide +kernel
theorem dX9_become_156 : decode cX9_become 156 = .ok (.aload_n 1, 1) := by decide +kernel
theorem dX9_become_157 : decode cX9_become 157 = .ok (.getfield 53, 3) := by decide +kernel
theorem dX9_become_160 : decode cX9_become 160 = .ok (.putfield 53, 3) := by decide +kernel
theorem dX9_become_163 : decode cX9_become 163 = .ok (.return_, 1) := by decide +kernel
