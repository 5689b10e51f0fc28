theorem dX12_match_145 : decode cX12_match 145 = .ok (.iaload, 1) := by decide +kernel
theorem dX12_match_146 : decode cX12_match 146 = .ok (.iastore, 1) := by decide +kernel
theorem dX12_match_147 : decode cX12_match 147 = .ok (.iinc 7 1, 3) := by decide +kernel
theorem dX12_match_150 : decode cX12_match 150 = .ok (.goto (-24), 3) := by decide +kernel
theorem dX12_match_153 : decode cX12_match 153 = .ok (.aload_n 0, 1) := by decide +kernel
theorem dX12_match_154 : decode cX12_match 154 = .ok (.iload_n 2, 1) := by decide +kernel
theorem dX12_match_155 : decode cX12_match 155 = .ok (.invokevirtual 206, 3) := by decide +kernel
theorem dX12_match_158 : decode cX12_match 158 = .ok (.istore 5, 2) := by decide +kernel
theorem dX12_match_160 : decode cX12_match 160 = .ok (.goto (-121), 3) := by decide +kernel
theorem dX12_match_163 : decode cX12_match 163 = .ok (.aload_n 0, 1) := by decide +kernel
theorem dX12_match_164 : decode cX12_match 164 = .ok (.iconst 1, 1) := by decide +kernel
theorem dX12_match_165 : decode cX12_match 165 = .ok (.putfield 209, 3) := by decide +kernel
theorem dX12_match_168 : decode cX12_match 168 = .ok (.iload 4, 2) := by decide +kernel
theorem dX12_match_170 : decode cX12_match 170 = .ok (.ireturn, 1) := by decide +kernel
theorem dX12_matched_0 : decode cX12_matched 0 = .ok (.aload_n 0, 1) := by decide +kernel
theorem dX12_matched_1 : decode cX12_matched 1 = .ok (.getfield 209, 3) := by decide +kernel
theorem dX12_matched_4 : decode cX12_matched 4 = .ok (.ifCond .eq 20, 3) := by decide +kernel
theorem dX12_matched_7 : decode cX12_matched 7 = .ok (.aload_n 0, 1) := by decide +kernel
theorem dX12_matched_8 : decode cX12_matched 8 = .ok (.iload_n 1, 1) := by decide +kernel
theorem dX12_matched_9 : decode cX12_matched 9 = .ok (.invokevirtual 99, 3) := by decide +kernel
theorem dX12_matched_12 : decode cX12_matched 12 = .ok (.ifCond .eq 12, 3) := by decide +kernel
theorem dX12_matched_15 : decode cX12_matched 15 = .ok (.aload_n 0, 1) := by decide +kernel
theorem dX12_matched_16 : decode cX12_matched 16 = .ok (.getfield 74, 3) := by decide +kernel
theorem dX12_matched_19 : decode cX12_matched 19 = .ok (.iload_n 1, 1) := by decide +kernel
theorem dX12_matched_20 : decode cX12_matched 20 = .ok (.iaload, 1) := by decide +kernel
theorem dX12_matched_21 : decode cX12_matched 21 = .ok (.goto 4, 3) := by decide +kernel
theorem dX12_matched_24 : decode cX12_matched 24 = .ok (.iconst (-1), 1) := by decide +kernel
theorem dX12_matched_25 : decode cX12_matched 25 = .ok (.ireturn, 1) := by decide +kernel
theorem dX12_price_0 : decode cX12_price 0 = .ok (.aload_n 0, 1) := by decide +kernel
theorem dX12_price_1 : decode cX12_price 1 = .ok (.getfield 209, 3) := by decide +kernel
theorem dX12_price_4 : decode cX12_price 4 = .ok (.ifCond .eq 10, 3) := by decide +kernel
theorem dX12_price_7 : decode cX12_price 7 = .ok (.aload_n 0, 1) := by decide +kernel
theorem dX12_price_8 : decode cX12_price 8 = .ok (.getfield 203, 3) := by decide +kernel
theorem dX12_price_11 : decode cX12_price 11 = .ok (.goto 4, 3) := by decide +kernel
theorem dX12_price_14 : decode cX12_price 14 = .ok (.iconst (-1), 1) := by decide +kernel
theorem dX12_price_15 : decode cX12_price 15 = .ok (.ireturn, 1) := by decide +kernel
theorem dX12_lightOfGlaze_0 : decode cX12_lightOfGlaze 0 = .ok (.iconst 0, 1) := by decide +kernel
theorem dX12_lightOfGlaze_1 : decode cX12_lightOfGlaze 1 = .ok (.istore_n 3, 1) := by decide +kernel
theorem dX12_lightOfGlaze_2 : decode cX12_lightOfGlaze 2 = .ok (.iload_n 3, 1) := by decide +kernel
theorem dX12_lightOfGlaze_3 : decode cX12_lightOfGlaze 3 = .ok (.bipush 8, 2) := by decide +kernel
theorem dX12_lightOfGlaze_5 : decode cX12_lightOfGlaze 5 = .ok (.if_icmp .ge 95, 3) := by decide +kernel
theorem dX12_lightOfGlaze_8 : decode cX12_lightOfGlaze 8 = .ok (.iload_n 2, 1) := by decide +kernel
theorem dX12_lightOfGlaze_9 : decode cX12_lightOfGlaze 9 = .ok (.istore 4, 2) := by decide +kernel
theorem dX12_lightOfGlaze_11 : decode cX12_lightOfGlaze 11 = .ok (.iconst 0, 1) := by decide +kernel
theorem dX12_lightOfGlaze_12 : decode cX12_lightOfGlaze 12 = .ok (.istore 5, 2) := by decide +kernel
theorem dX12_lightOfGlaze_14 : decode cX12_lightOfGlaze 14 = .ok (.iload 5, 2) := by decide +kernel
theorem dX12_lightOfGlaze_16 : decode cX12_lightOfGlaze 16 = .ok (.iload_n 1, 1) := by decide +kernel
theorem dX12_lightOfGlaze_17 : decode cX12_lightOfGlaze 17 = .ok (.if_icmp .ge 69, 3) := by decide +kernel
theorem dX12_lightOfGlaze_20 : decode cX12_lightOfGlaze 20 = .ok (.aload_n 0, 1) := by decide +kernel
theorem dX12_lightOfGlaze_21 : decode cX12_lightOfGlaze 21 = .ok (.getfield 13, 3) := by decide +kernel
theorem dX12_lightOfGlaze_24 : decode cX12_lightOfGlaze 24 = .ok (.bipush 8, 2) := by decide +kernel
theorem dX12_lightOfGlaze_26 : decode cX12_lightOfGlaze 26 = .ok (.aload_n 0, 1) := by decide +kernel
theorem dX12_lightOfGlaze_27 : decode cX12_lightOfGlaze 27 = .ok (.getfield 83, 3) := by decide +kernel
theorem dX12_lightOfGlaze_30 : decode cX12_lightOfGlaze 30 = .ok (.iload 5, 2) := by decide +kernel
theorem dX12_lightOfGlaze_32 : decode cX12_lightOfGlaze 32 = .ok (.iaload, 1) := by decide +kernel
theorem dX12_lightOfGlaze_33 : decode cX12_lightOfGlaze 33 = .ok (.iconst 3, 1) := by decide +kernel
theorem dX12_lightOfGlaze_34 : decode cX12_lightOfGlaze 34 = .ok (.idiv, 1) := by decide +kernel
theorem dX12_lightOfGlaze_35 : decode cX12_lightOfGlaze 35 = .ok (.imul, 1) := by decide +kernel
theorem dX12_lightOfGlaze_36 : decode cX12_lightOfGlaze 36 = .ok (.iload_n 3, 1) := by decide +kernel
theorem dX12_lightOfGlaze_37 : decode cX12_lightOfGlaze 37 = .ok (.iadd, 1) := by decide +kernel
theorem dX12_lightOfGlaze_38 : decode cX12_lightOfGlaze 38 = .ok (.iaload, 1) := by decide +kernel
theorem dX12_lightOfGlaze_39 : decode cX12_lightOfGlaze 39 = .ok (.i2l, 1) := by decide +kernel
theorem dX12_lightOfGlaze_40 : decode cX12_lightOfGlaze 40 = .ok (.aload_n 0, 1) := by decide +kernel
theorem dX12_lightOfGlaze_41 : decode cX12_lightOfGlaze 41 = .ok (.getfield 17, 3) := by decide +kernel
theorem dX12_lightOfGlaze_44 : decode cX12_lightOfGlaze 44 = .ok (.bipush 8, 2) := by decide +kernel
theorem dX12_lightOfGlaze_46 : decode cX12_lightOfGlaze 46 = .ok (.aload_n 0, 1) := by decide +kernel
theorem dX12_lightOfGlaze_47 : decode cX12_lightOfGlaze 47 = .ok (.getfield 83, 3) := by decide +kernel
theorem dX12_lightOfGlaze_50 : decode cX12_lightOfGlaze 50 = .ok (.iload 5, 2) := by decide +kernel
theorem dX12_lightOfGlaze_52 : decode cX12_lightOfGlaze 52 = .ok (.iaload, 1) := by decide +kernel
theorem dX12_lightOfGlaze_53 : decode cX12_lightOfGlaze 53 = .ok (.iconst 3, 1) := by decide +kernel
theorem dX12_lightOfGlaze_54 : decode cX12_lightOfGlaze 54 = .ok (.idiv, 1) := by decide +kernel
theorem dX12_lightOfGlaze_55 : decode cX12_lightOfGlaze 55 = .ok (.imul, 1) := by decide +kernel
theorem dX12_lightOfGlaze_56 : decode cX12_lightOfGlaze 56 = .ok (.iload_n 3, 1) := by decide +kernel
theorem dX12_lightOfGlaze_57 : decode cX12_lightOfGlaze 57 = .ok (.iadd, 1) := by decide +kernel
theorem dX12_lightOfGlaze_58 : decode cX12_lightOfGlaze 58 = .ok (.iaload, 1) := by decide +kernel
theorem dX12_lightOfGlaze_59 : decode cX12_lightOfGlaze 59 = .ok (.i2l, 1) := by decide +kernel
theorem dX12_lightOfGlaze_60 : decode cX12_lightOfGlaze 60 = .ok (.getstatic 213, 3) := by decide +kernel
theorem dX12_lightOfGlaze_63 : decode cX12_lightOfGlaze 63 = .ok (.aload_n 0, 1) := by decide +kernel
theorem dX12_lightOfGlaze_64 : decode cX12_lightOfGlaze 64 = .ok (.getfield 83, 3) := by decide +kernel
theorem dX12_lightOfGlaze_67 : decode cX12_lightOfGlaze 67 = .ok (.iload 5, 2) := by decide +kernel
theorem dX12_lightOfGlaze_69 : decode cX12_lightOfGlaze 69 = .ok (.iaload, 1) := by decide +kernel
theorem dX12_lightOfGlaze_70 : decode cX12_lightOfGlaze 70 = .ok (.iconst 3, 1) := by decide +kernel
theorem dX12_lightOfGlaze_71 : decode cX12_lightOfGlaze 71 = .ok (.irem, 1) := by decide +kernel
theorem dX12_lightOfGlaze_72 : decode cX12_lightOfGlaze 72 = .ok (.iaload, 1) := by decide +kernel
theorem dX12_lightOfGlaze_73 : decode cX12_lightOfGlaze 73 = .ok (.iload 4, 2) := by decide +kernel
theorem dX12_lightOfGlaze_75 : decode cX12_lightOfGlaze 75 = .ok (.invokestatic 169, 3) := by decide +kernel
theorem dX12_lightOfGlaze_78 : decode cX12_lightOfGlaze 78 = .ok (.istore 4, 2) := by decide +kernel
theorem dX12_lightOfGlaze_80 : decode cX12_lightOfGlaze 80 = .ok (.iinc 5 1, 3) := by decide +kernel
theorem dX12_lightOfGlaze_83 : decode cX12_lightOfGlaze 83 = .ok (.goto (-69), 3) := by decide +kernel
theorem dX12_lightOfGlaze_86 : decode cX12_lightOfGlaze 86 = .ok (.aload_n 0, 1) := by decide +kernel
theorem dX12_lightOfGlaze_87 : decode cX12_lightOfGlaze 87 = .ok (.getfield 41, 3) := by decide +kernel
theorem dX12_lightOfGlaze_90 : decode cX12_lightOfGlaze 90 = .ok (.iload_n 3, 1) := by decide +kernel
theorem dX12_lightOfGlaze_91 : decode cX12_lightOfGlaze 91 = .ok (.iload 4, 2) := by decide +kernel
theorem dX12_lightOfGlaze_93 : decode cX12_lightOfGlaze 93 = .ok (.iastore, 1) := by decide +kernel
theorem dX12_lightOfGlaze_94 : decode cX12_lightOfGlaze 94 = .ok (.iinc 3 1, 3) := by decide +kernel
theorem dX12_lightOfGlaze_97 : decode cX12_lightOfGlaze 97 = .ok (.goto (-95), 3) := by decide +kernel
theorem dX12_lightOfGlaze_100 : decode cX12_lightOfGlaze 100 = .ok (.return_, 1) := by decide +kernel
theorem dX12_isGlaze_0 : decode cX12_isGlaze 0 = .ok (.aload_n 0, 1) := by decide +kernel
theorem dX12_isGlaze_1 : decode cX12_isGlaze 1 = .ok (.getfield 83, 3) := by decide +kernel
theorem dX12_isGlaze_4 : decode cX12_isGlaze 4 = .ok (.iload_n 1, 1) := by decide +kernel
theorem dX12_isGlaze_5 : decode cX12_isGlaze 5 = .ok (.iaload, 1) := by decide +kernel
theorem dX12_isGlaze_6 : decode cX12_isGlaze 6 = .ok (.iconst 3, 1) := by decide +kernel
theorem dX12_isGlaze_7 : decode cX12_isGlaze 7 = .ok (.idiv, 1) := by decide +kernel
theorem dX12_isGlaze_8 : decode cX12_isGlaze 8 = .ok (.istore_n 3, 1) := by decide +kernel
theorem dX12_isGlaze_9 : decode cX12_isGlaze 9 = .ok (.iload_n 2, 1) := by decide +kernel
theorem dX12_isGlaze_10 : decode cX12_isGlaze 10 = .ok (.iload_n 3, 1) := by decide +kernel
theorem dX12_isGlaze_11 : decode cX12_isGlaze 11 = .ok (.ishr, 1) := by decide +kernel
theorem dX12_isGlaze_12 : decode cX12_isGlaze 12 = .ok (.iconst 1, 1) := by decide +kernel
theorem dX12_isGlaze_13 : decode cX12_isGlaze 13 = .ok (.iand, 1) := by decide +kernel
theorem dX12_isGlaze_14 : decode cX12_isGlaze 14 = .ok (.ifCond .ne 5, 3) := by decide +kernel
theorem dX12_isGlaze_17 : decode cX12_isGlaze 17 = .ok (.iconst 0, 1) := by decide +kernel
theorem dX12_isGlaze_18 : decode cX12_isGlaze 18 = .ok (.ireturn, 1) := by decide +kernel
theorem dX12_isGlaze_19 : decode cX12_isGlaze 19 = .ok (.iconst 0, 1) := by decide +kernel
theorem dX12_isGlaze_20 : decode cX12_isGlaze 20 = .ok (.istore 4, 2) := by decide +kernel
theorem dX12_isGlaze_22 : decode cX12_isGlaze 22 = .ok (.iload 4, 2) := by decide +kernel
theorem dX12_isGlaze_24 : decode cX12_isGlaze 24 = .ok (.iload_n 1, 1) := by decide +kernel
theorem dX12_isGlaze_25 : decode cX12_isGlaze 25 = .ok (.if_icmp .ge 24, 3) := by decide +kernel
theorem dX12_isGlaze_28 : decode cX12_isGlaze 28 = .ok (.aload_n 0, 1) := by decide +kernel
theorem dX12_isGlaze_29 : decode cX12_isGlaze 29 = .ok (.getfield 83, 3) := by decide +kernel
theorem dX12_isGlaze_32 : decode cX12_isGlaze 32 = .ok (.iload 4, 2) := by decide +kernel
theorem dX12_isGlaze_34 : decode cX12_isGlaze 34 = .ok (.iaload, 1) := by decide +kernel
theorem dX12_isGlaze_35 : decode cX12_isGlaze 35 = .ok (.iconst 3, 1) := by decide +kernel
theorem dX12_isGlaze_36 : decode cX12_isGlaze 36 = .ok (.idiv, 1) := by decide +kernel
theorem dX12_isGlaze_37 : decode cX12_isGlaze 37 = .ok (.iload_n 3, 1) := by decide +kernel
theorem dX12_isGlaze_38 : decode cX12_isGlaze 38 = .ok (.if_icmp .ne 5, 3) := by decide +kernel
theorem dX12_isGlaze_41 : decode cX12_isGlaze 41 = .ok (.iconst 0, 1) := by decide +kernel
theorem dX12_isGlaze_42 : decode cX12_isGlaze 42 = .ok (.ireturn, 1) := by decide +kernel
theorem dX12_isGlaze_43 : decode cX12_isGlaze 43 = .ok (.iinc 4 1, 3) := by decide +kernel
theorem dX12_isGlaze_46 : decode cX12_isGlaze 46 = .ok (.goto (-24), 3) := by decide +kernel
theorem dX12_isGlaze_49 : decode cX12_isGlaze 49 = .ok (.iconst 1, 1) := by decide +kernel
theorem dX12_isGlaze_50 : decode cX12_isGlaze 50 = .ok (.ireturn, 1) := by decide +kernel
theorem dX12_glaze_0 : decode cX12_glaze 0 = .ok (.iload_n 1, 1) := by decide +kernel
theorem dX12_glaze_1 : decode cX12_glaze 1 = .ok (.invokestatic 114, 3) := by decide +kernel
theorem dX12_glaze_4 : decode cX12_glaze 4 = .ok (.ifCond .eq 22, 3) := by decide +kernel
theorem dX12_glaze_7 : decode cX12_glaze 7 = .ok (.aload_n 0, 1) := by decide +kernel
theorem dX12_glaze_8 : decode cX12_glaze 8 = .ok (.iload_n 2, 1) := by decide +kernel
theorem dX12_glaze_9 : decode cX12_glaze 9 = .ok (.invokevirtual 187, 3) := by decide +kernel
theorem dX12_glaze_12 : decode cX12_glaze 12 = .ok (.ifCond .eq 14, 3) := by decide +kernel
theorem dX12_glaze_15 : decode cX12_glaze 15 = .ok (.iload_n 3, 1) := by decide +kernel
theorem dX12_glaze_16 : decode cX12_glaze 16 = .ok (.iconst 0, 1) := by decide +kernel
theorem dX12_glaze_17 : decode cX12_glaze 17 = .ok (.sipush 10000, 3) := by decide +kernel
theorem dX12_glaze_20 : decode cX12_glaze 20 = .ok (.invokestatic 95, 3) := by decide +kernel
theorem dX12_glaze_23 : decode cX12_glaze 23 = .ok (.ifCond .ne 5, 3) := by decide +kernel
theorem dX12_glaze_26 : decode cX12_glaze 26 = .ok (.iconst (-1), 1) := by decide +kernel
theorem dX12_glaze_27 : decode cX12_glaze 27 = .ok (.ireturn, 1) := by decide +kernel
theorem dX12_glaze_28 : decode cX12_glaze 28 = .ok (.aload_n 0, 1) := by decide +kernel
theorem dX12_glaze_29 : decode cX12_glaze 29 = .ok (.iconst 0, 1) := by decide +kernel
theorem dX12_glaze_30 : decode cX12_glaze 30 = .ok (.iload_n 3, 1) := by decide +kernel
theorem dX12_glaze_31 : decode cX12_glaze 31 = .ok (.invokevirtual 216, 3) := by decide +kernel
theorem dX12_glaze_34 : decode cX12_glaze 34 = .ok (.aload_n 0, 1) := by decide +kernel
theorem dX12_glaze_35 : decode cX12_glaze 35 = .ok (.aload_n 0, 1) := by decide +kernel
theorem dX12_glaze_36 : decode cX12_glaze 36 = .ok (.getfield 68, 3) := by decide +kernel
theorem dX12_glaze_39 : decode cX12_glaze 39 = .ok (.iconst 0, 1) := by decide +kernel
theorem dX12_glaze_40 : decode cX12_glaze 40 = .ok (.iaload, 1) := by decide +kernel
theorem dX12_glaze_41 : decode cX12_glaze 41 = .ok (.aload_n 0, 1) := by decide +kernel
theorem dX12_glaze_42 : decode cX12_glaze 42 = .ok (.getfield 68, 3) := by decide +kernel
theorem dX12_glaze_45 : decode cX12_glaze 45 = .ok (.iconst 1, 1) := by decide +kernel
theorem dX12_glaze_46 : decode cX12_glaze 46 = .ok (.iaload, 1) := by decide +kernel
theorem dX12_glaze_47 : decode cX12_glaze 47 = .ok (.aload_n 0, 1) := by decide +kernel
theorem dX12_glaze_48 : decode cX12_glaze 48 = .ok (.getfield 68, 3) := by decide +kernel
theorem dX12_glaze_51 : decode cX12_glaze 51 = .ok (.iconst 2, 1) := by decide +kernel
theorem dX12_glaze_52 : decode cX12_glaze 52 = .ok (.iaload, 1) := by decide +kernel
theorem dX12_glaze_53 : decode cX12_glaze 53 = .ok (.iload_n 1, 1) := by decide +kernel
theorem dX12_glaze_54 : decode cX12_glaze 54 = .ok (.invokevirtual 183, 3) := by decide +kernel
theorem dX12_glaze_57 : decode cX12_glaze 57 = .ok (.istore 4, 2) := by decide +kernel
theorem dX12_glaze_59 : decode cX12_glaze 59 = .ok (.aload_n 0, 1) := by decide +kernel
theorem dX12_glaze_60 : decode cX12_glaze 60 = .ok (.iconst 0, 1) := by decide +kernel
theorem dX12_glaze_61 : decode cX12_glaze 61 = .ok (.putfield 77, 3) := by decide +kernel
theorem dX12_glaze_64 : decode cX12_glaze 64 = .ok (.iconst 1, 1) := by decide +kernel
theorem dX12_glaze_65 : decode cX12_glaze 65 = .ok (.istore 5, 2) := by decide +kernel
theorem dX12_glaze_67 : decode cX12_glaze 67 = .ok (.iload 5, 2) := by decide +kernel
theorem dX12_glaze_69 : decode cX12_glaze 69 = .ok (.iconst 3, 1) := by decide +kernel
theorem dX12_glaze_70 : decode cX12_glaze 70 = .ok (.if_icmp .gt 197, 3) := by decide +kernel
theorem dX12_glaze_73 : decode cX12_glaze 73 = .ok (.iconst 0, 1) := by decide +kernel
theorem dX12_glaze_74 : decode cX12_glaze 74 = .ok (.istore 6, 2) := by decide +kernel
theorem dX12_glaze_76 : decode cX12_glaze 76 = .ok (.aload_n 0, 1) := by decide +kernel
theorem dX12_glaze_77 : decode cX12_glaze 77 = .ok (.getfield 83, 3) := by decide +kernel
theorem dX12_glaze_80 : decode cX12_glaze 80 = .ok (.iconst 0, 1) := by decide +kernel
theorem dX12_glaze_81 : decode cX12_glaze 81 = .ok (.iconst (-1), 1) := by decide +kernel
theorem dX12_glaze_82 : decode cX12_glaze 82 = .ok (.iastore, 1) := by decide +kernel
theorem dX12_glaze_83 : decode cX12_glaze 83 = .ok (.iload 6, 2) := by decide +kernel
theorem dX12_glaze_85 : decode cX12_glaze 85 = .ok (.ifCond .lt 176, 3) := by decide +kernel
theorem dX12_glaze_88 : decode cX12_glaze 88 = .ok (.aload_n 0, 1) := by decide +kernel
theorem dX12_glaze_89 : decode cX12_glaze 89 = .ok (.getfield 83, 3) := by decide +kernel
theorem dX12_glaze_92 : decode cX12_glaze 92 = .ok (.iload 6, 2) := by decide +kernel
theorem dX12_glaze_94 : decode cX12_glaze 94 = .ok (.dup2, 1) := by decide +kernel
theorem dX12_glaze_95 : decode cX12_glaze 95 = .ok (.iaload, 1) := by decide +kernel
theorem dX12_glaze_96 : decode cX12_glaze 96 = .ok (.iconst 1, 1) := by decide +kernel
theorem dX12_glaze_97 : decode cX12_glaze 97 = .ok (.iadd, 1) := by decide +kernel
theorem dX12_glaze_98 : decode cX12_glaze 98 = .ok (.iastore, 1) := by decide +kernel
theorem dX12_glaze_99 : decode cX12_glaze 99 = .ok (.aload_n 0, 1) := by decide +kernel
theorem dX12_glaze_100 : decode cX12_glaze 100 = .ok (.getfield 83, 3) := by decide +kernel
theorem dX12_glaze_103 : decode cX12_glaze 103 = .ok (.iload 6, 2) := by decide +kernel
theorem dX12_glaze_105 : decode cX12_glaze 105 = .ok (.iaload, 1) := by decide +kernel
theorem dX12_glaze_106 : decode cX12_glaze 106 = .ok (.iconst 3, 1) := by decide +kernel
theorem dX12_glaze_107 : decode cX12_glaze 107 = .ok (.aload_n 0, 1) := by decide +kernel
theorem dX12_glaze_108 : decode cX12_glaze 108 = .ok (.getfield 92, 3) := by decide +kernel
theorem dX12_glaze_111 : decode cX12_glaze 111 = .ok (.imul, 1) := by decide +kernel
theorem dX12_glaze_112 : decode cX12_glaze 112 = .ok (.if_icmp .ne 9, 3) := by decide +kernel
theorem dX12_glaze_115 : decode cX12_glaze 115 = .ok (.iinc 6 (-1), 3) := by decide +kernel
theorem dX12_glaze_118 : decode cX12_glaze 118 = .ok (.goto (-35), 3) := by decide +kernel
theorem dX12_glaze_121 : decode cX12_glaze 121 = .ok (.aload_n 0, 1) := by decide +kernel
theorem dX12_glaze_122 : decode cX12_glaze 122 = .ok (.iload 6, 2) := by decide +kernel
theorem dX12_glaze_124 : decode cX12_glaze 124 = .ok (.iload_n 2, 1) := by decide +kernel
theorem dX12_glaze_125 : decode cX12_glaze 125 = .ok (.invokevirtual 219, 3) := by decide +kernel
theorem dX12_glaze_128 : decode cX12_glaze 128 = .ok (.ifCond .ne 6, 3) := by decide +kernel
theorem dX12_glaze_131 : decode cX12_glaze 131 = .ok (.goto (-48), 3) := by decide +kernel
theorem dX12_glaze_134 : decode cX12_glaze 134 = .ok (.iload 6, 2) := by decide +kernel
theorem dX12_glaze_136 : decode cX12_glaze 136 = .ok (.iload 5, 2) := by decide +kernel
theorem dX12_glaze_138 : decode cX12_glaze 138 = .ok (.iconst 1, 1) := by decide +kernel
theorem dX12_glaze_139 : decode cX12_glaze 139 = .ok (.isub, 1) := by decide +kernel
theorem dX12_glaze_140 : decode cX12_glaze 140 = .ok (.if_icmp .ge 17, 3) := by decide +kernel
theorem dX12_glaze_143 : decode cX12_glaze 143 = .ok (.iinc 6 1, 3) := by decide +kernel
theorem dX12_glaze_146 : decode cX12_glaze 146 = .ok (.aload_n 0, 1) := by decide +kernel
theorem dX12_glaze_147 : decode cX12_glaze 147 = .ok (.getfield 83, 3) := by decide +kernel
theorem dX12_glaze_150 : decode cX12_glaze 150 = .ok (.iload 6, 2) := by decide +kernel
theorem dX12_glaze_152 : decode cX12_glaze 152 = .ok (.iconst (-1), 1) := by decide +kernel
theorem dX12_glaze_153 : decode cX12_glaze 153 = .ok (.iastore, 1) := by decide +kernel
theorem dX12_glaze_154 : decode cX12_glaze 154 = .ok (.goto (-71), 3) := by decide +kernel
theorem dX12_glaze_157 : decode cX12_glaze 157 = .ok (.aload_n 0, 1) := by decide +kernel
theorem dX12_glaze_158 : decode cX12_glaze 158 = .ok (.iload 5, 2) := by decide +kernel
theorem dX12_glaze_160 : decode cX12_glaze 160 = .ok (.iload_n 3, 1) := by decide +kernel
theorem dX12_glaze_161 : decode cX12_glaze 161 = .ok (.invokevirtual 216, 3) := by decide +kernel
theorem dX12_glaze_164 : decode cX12_glaze 164 = .ok (.aload_n 0, 1) := by decide +kernel
theorem dX12_glaze_165 : decode cX12_glaze 165 = .ok (.aload_n 0, 1) := by decide +kernel
theorem dX12_glaze_166 : decode cX12_glaze 166 = .ok (.getfield 68, 3) := by decide +kernel
theorem dX12_glaze_169 : decode cX12_glaze 169 = .ok (.iconst 0, 1) := by decide +kernel
theorem dX12_glaze_170 : decode cX12_glaze 170 = .ok (.iaload, 1) := by decide +kernel
theorem dX12_glaze_171 : decode cX12_glaze 171 = .ok (.aload_n 0, 1) := by decide +kernel
theorem dX12_glaze_172 : decode cX12_glaze 172 = .ok (.getfield 68, 3) := by decide +kernel
theorem dX12_glaze_175 : decode cX12_glaze 175 = .ok (.iconst 1, 1) := by decide +kernel
theorem dX12_glaze_176 : decode cX12_glaze 176 = .ok (.iaload, 1) := by decide +kernel
theorem dX12_glaze_177 : decode cX12_glaze 177 = .ok (.aload_n 0, 1) := by decide +kernel
theorem dX12_glaze_178 : decode cX12_glaze 178 = .ok (.getfield 68, 3) := by decide +kernel
theorem dX12_glaze_181 : decode cX12_glaze 181 = .ok (.iconst 2, 1) := by decide +kernel
theorem dX12_glaze_182 : decode cX12_glaze 182 = .ok (.iaload, 1) := by decide +kernel
theorem dX12_glaze_183 : decode cX12_glaze 183 = .ok (.iload_n 1, 1) := by decide +kernel
theorem dX12_glaze_184 : decode cX12_glaze 184 = .ok (.invokevirtual 183, 3) := by decide +kernel
theorem dX12_glaze_187 : decode cX12_glaze 187 = .ok (.istore 7, 2) := by decide +kernel
theorem dX12_glaze_189 : decode cX12_glaze 189 = .ok (.iload 7, 2) := by decide +kernel
theorem dX12_glaze_191 : decode cX12_glaze 191 = .ok (.iload 4, 2) := by decide +kernel
theorem dX12_glaze_193 : decode cX12_glaze 193 = .ok (.if_icmp .lt 6, 3) := by decide +kernel
theorem dX12_glaze_196 : decode cX12_glaze 196 = .ok (.goto (-113), 3) := by decide +kernel
theorem dX12_glaze_199 : decode cX12_glaze 199 = .ok (.iload 7, 2) := by decide +kernel
theorem dX12_glaze_201 : decode cX12_glaze 201 = .ok (.istore 4, 2) := by decide +kernel
theorem dX12_glaze_203 : decode cX12_glaze 203 = .ok (.aload_n 0, 1) := by decide +kernel
theorem dX12_glaze_204 : decode cX12_glaze 204 = .ok (.iload 5, 2) := by decide +kernel
theorem dX12_glaze_206 : decode cX12_glaze 206 = .ok (.putfield 77, 3) := by decide +kernel
theorem dX12_glaze_209 : decode cX12_glaze 209 = .ok (.iconst 0, 1) := by decide +kernel
theorem dX12_glaze_210 : decode cX12_glaze 210 = .ok (.istore 8, 2) := by decide +kernel
theorem dX12_glaze_212 : decode cX12_glaze 212 = .ok (.iload 8, 2) := by decide +kernel
theorem dX12_glaze_214 : decode cX12_glaze 214 = .ok (.iload 5, 2) := by decide +kernel
theorem dX12_glaze_216 : decode cX12_glaze 216 = .ok (.if_icmp .ge 42, 3) := by decide +kernel
theorem dX12_glaze_219 : decode cX12_glaze 219 = .ok (.aload_n 0, 1) := by decide +kernel
theorem dX12_glaze_220 : decode cX12_glaze 220 = .ok (.getfield 80, 3) := by decide +kernel
theorem dX12_glaze_223 : decode cX12_glaze 223 = .ok (.iload 8, 2) := by decide +kernel
theorem dX12_glaze_225 : decode cX12_glaze 225 = .ok (.bipush 10, 2) := by decide +kernel
theorem dX12_glaze_227 : decode cX12_glaze 227 = .ok (.aload_n 0, 1) := by decide +kernel
theorem dX12_glaze_228 : decode cX12_glaze 228 = .ok (.getfield 83, 3) := by decide +kernel
theorem dX12_glaze_231 : decode cX12_glaze 231 = .ok (.iload 8, 2) := by decide +kernel
theorem dX12_glaze_233 : decode cX12_glaze 233 = .ok (.iaload, 1) := by decide +kernel
theorem dX12_glaze_234 : decode cX12_glaze 234 = .ok (.iconst 3, 1) := by decide +kernel
theorem dX12_glaze_235 : decode cX12_glaze 235 = .ok (.idiv, 1) := by decide +kernel
theorem dX12_glaze_236 : decode cX12_glaze 236 = .ok (.imul, 1) := by decide +kernel
theorem dX12_glaze_237 : decode cX12_glaze 237 = .ok (.getstatic 213, 3) := by decide +kernel
theorem dX12_glaze_240 : decode cX12_glaze 240 = .ok (.aload_n 0, 1) := by decide +kernel
theorem dX12_glaze_241 : decode cX12_glaze 241 = .ok (.getfield 83, 3) := by decide +kernel
theorem dX12_glaze_244 : decode cX12_glaze 244 = .ok (.iload 8, 2) := by decide +kernel
theorem dX12_glaze_246 : decode cX12_glaze 246 = .ok (.iaload, 1) := by decide +kernel
theorem dX12_glaze_247 : decode cX12_glaze 247 = .ok (.iconst 3, 1) := by decide +kernel
theorem dX12_glaze_248 : decode cX12_glaze 248 = .ok (.irem, 1) := by decide +kernel
theorem dX12_glaze_249 : decode cX12_glaze 249 = .ok (.iaload, 1) := by decide +kernel
theorem dX12_glaze_250 : decode cX12_glaze 250 = .ok (.iadd, 1) := by decide +kernel
theorem dX12_glaze_251 : decode cX12_glaze 251 = .ok (.iastore, 1) := by decide +kernel
theorem dX12_glaze_252 : decode cX12_glaze 252 = .ok (.iinc 8 1, 3) := by decide +kernel
theorem dX12_glaze_255 : decode cX12_glaze 255 = .ok (.goto (-43), 3) := by decide +kernel
theorem dX12_glaze_258 : decode cX12_glaze 258 = .ok (.goto (-175), 3) := by decide +kernel
theorem dX12_glaze_261 : decode cX12_glaze 261 = .ok (.iinc 5 1, 3) := by decide +kernel
theorem dX12_glaze_264 : decode cX12_glaze 264 = .ok (.goto (-197), 3) := by decide +kernel
theorem dX12_glaze_267 : decode cX12_glaze 267 = .ok (.iload 4, 2) := by decide +kernel
theorem dX12_glaze_269 : decode cX12_glaze 269 = .ok (.ireturn, 1) := by decide +kernel
theorem dX12_glazed_0 : decode cX12_glazed 0 = .ok (.iload_n 1, 1) := by decide +kernel
theorem dX12_glazed_1 : decode cX12_glazed 1 = .ok (.iconst 0, 1) := by decide +kernel
theorem dX12_glazed_2 : decode cX12_glazed 2 = .ok (.aload_n 0, 1) := by decide +kernel
theorem dX12_glazed_3 : decode cX12_glazed 3 = .ok (.getfield 77, 3) := by decide +kernel
theorem dX12_glazed_6 : decode cX12_glazed 6 = .ok (.iconst 1, 1) := by decide +kernel
theorem dX12_glazed_7 : decode cX12_glazed 7 = .ok (.isub, 1) := by decide +kernel
theorem dX12_glazed_8 : decode cX12_glazed 8 = .ok (.invokestatic 95, 3) := by decide +kernel
theorem dX12_glazed_11 : decode cX12_glazed 11 = .ok (.ifCond .eq 12, 3) := by decide +kernel
theorem dX12_glazed_14 : decode cX12_glazed 14 = .ok (.aload_n 0, 1) := by decide +kernel
theorem dX12_glazed_15 : decode cX12_glazed 15 = .ok (.getfield 80, 3) := by decide +kernel
theorem dX12_glazed_18 : decode cX12_glazed 18 = .ok (.iload_n 1, 1) := by decide +kernel
theorem dX12_glazed_19 : decode cX12_glazed 19 = .ok (.iaload, 1) := by decide +kernel
theorem dX12_glazed_20 : decode cX12_glazed 20 = .ok (.goto 4, 3) := by decide +kernel
theorem dX12_glazed_23 : decode cX12_glazed 23 = .ok (.iconst (-1), 1) := by decide +kernel
theorem dX12_glazed_24 : decode cX12_glazed 24 = .ok (.ireturn, 1) := by decide +kernel
theorem dX12_keep_0 : decode cX12_keep 0 = .ok (.aload_n 0, 1) := by decide +kernel
theorem dX12_keep_1 : decode cX12_keep 1 = .ok (.getfield 223, 3) := by decide +kernel
theorem dX12_keep_4 : decode cX12_keep 4 = .ok (.bipush 6, 2) := by decide +kernel
theorem dX12_keep_6 : decode cX12_keep 6 = .ok (.if_icmp .ne 6, 3) := by decide +kernel
theorem dX12_keep_9 : decode cX12_keep 9 = .ok (.bipush (-3), 2) := by decide +kernel
theorem dX12_keep_11 : decode cX12_keep 11 = .ok (.ireturn, 1) := by decide +kernel
theorem dX12_keep_12 : decode cX12_keep 12 = .ok (.iconst 0, 1) := by decide +kernel
theorem dX12_keep_13 : decode cX12_keep 13 = .ok (.istore_n 1, 1) := by decide +kernel
theorem dX12_keep_14 : decode cX12_keep 14 = .ok (.iload_n 1, 1) := by decide +kernel
theorem dX12_keep_15 : decode cX12_keep 15 = .ok (.iconst 3, 1) := by decide +kernel
theorem dX12_keep_16 : decode cX12_keep 16 = .ok (.if_icmp .ge 28, 3) := by decide +kernel
theorem dX12_keep_19 : decode cX12_keep 19 = .ok (.aload_n 0, 1) := by decide +kernel
theorem dX12_keep_20 : decode cX12_keep 20 = .ok (.getfield 86, 3) := by decide +kernel
theorem dX12_keep_23 : decode cX12_keep 23 = .ok (.iconst 3, 1) := by decide +kernel
theorem dX12_keep_24 : decode cX12_keep 24 = .ok (.aload_n 0, 1) := by decide +kernel
theorem dX12_keep_25 : decode cX12_keep 25 = .ok (.getfield 223, 3) := by decide +kernel
theorem dX12_keep_28 : decode cX12_keep 28 = .ok (.imul, 1) := by decide +kernel
theorem dX12_keep_29 : decode cX12_keep 29 = .ok (.iload_n 1, 1) := by decide +kernel
theorem dX12_keep_30 : decode cX12_keep 30 = .ok (.iadd, 1) := by decide +kernel
theorem dX12_keep_31 : decode cX12_keep 31 = .ok (.aload_n 0, 1) := by decide +kernel
theorem dX12_keep_32 : decode cX12_keep 32 = .ok (.getfield 68, 3) := by decide +kernel
theorem dX12_keep_35 : decode cX12_keep 35 = .ok (.iload_n 1, 1) := by decide +kernel
theorem dX12_keep_36 : decode cX12_keep 36 = .ok (.iaload, 1) := by decide +kernel
theorem dX12_keep_37 : decode cX12_keep 37 = .ok (.iastore, 1) := by decide +kernel
theorem dX12_keep_38 : decode cX12_keep 38 = .ok (.iinc 1 1, 3) := by decide +kernel
theorem dX12_keep_41 : decode cX12_keep 41 = .ok (.goto (-27), 3) := by decide +kernel
theorem dX12_keep_44 : decode cX12_keep 44 = .ok (.aload_n 0, 1) := by decide +kernel
theorem dX12_keep_45 : decode cX12_keep 45 = .ok (.dup, 1) := by decide +kernel
theorem dX12_keep_46 : decode cX12_keep 46 = .ok (.getfield 223, 3) := by decide +kernel
theorem dX12_keep_49 : decode cX12_keep 49 = .ok (.iconst 1, 1) := by decide +kernel
theorem dX12_keep_50 : decode cX12_keep 50 = .ok (.iadd, 1) := by decide +kernel
theorem dX12_keep_51 : decode cX12_keep 51 = .ok (.putfield 223, 3) := by decide +kernel
theorem dX12_keep_54 : decode cX12_keep 54 = .ok (.aload_n 0, 1) := by decide +kernel
theorem dX12_keep_55 : decode cX12_keep 55 = .ok (.getfield 223, 3) := by decide +kernel
theorem dX12_keep_58 : decode cX12_keep 58 = .ok (.ireturn, 1) := by decide +kernel
theorem dX12_clear_0 : decode cX12_clear 0 = .ok (.aload_n 0, 1) := by decide +kernel
theorem dX12_clear_1 : decode cX12_clear 1 = .ok (.getfield 223, 3) := by decide +kernel
theorem dX12_clear_4 : decode cX12_clear 4 = .ok (.istore_n 1, 1) := by decide +kernel
theorem dX12_clear_5 : decode cX12_clear 5 = .ok (.aload_n 0, 1) := by decide +kernel
theorem dX12_clear_6 : decode cX12_clear 6 = .ok (.iconst 0, 1) := by decide +kernel
theorem dX12_clear_7 : decode cX12_clear 7 = .ok (.putfield 223, 3) := by decide +kernel
theorem dX12_clear_10 : decode cX12_clear 10 = .ok (.iload_n 1, 1) := by decide +kernel
theorem dX12_clear_11 : decode cX12_clear 11 = .ok (.ireturn, 1) := by decide +kernel
theorem dX12_fewest_0 : decode cX12_fewest 0 = .ok (.iload_n 1, 1) := by decide +kernel
theorem dX12_fewest_1 : decode cX12_fewest 1 = .ok (.invokestatic 114, 3) := by decide +kernel
theorem dX12_fewest_4 : decode cX12_fewest 4 = .ok (.ifCond .eq 24, 3) := by decide +kernel
theorem dX12_fewest_7 : decode cX12_fewest 7 = .ok (.iload_n 2, 1) := by decide +kernel
theorem dX12_fewest_8 : decode cX12_fewest 8 = .ok (.iconst 1, 1) := by decide +kernel
theorem dX12_fewest_9 : decode cX12_fewest 9 = .ok (.bipush 6, 2) := by decide +kernel
theorem dX12_fewest_11 : decode cX12_fewest 11 = .ok (.invokestatic 95, 3) := by decide +kernel
theorem dX12_fewest_14 : decode cX12_fewest 14 = .ok (.ifCond .eq 14, 3) := by decide +kernel
theorem dX12_fewest_17 : decode cX12_fewest 17 = .ok (.iload_n 3, 1) := by decide +kernel
theorem dX12_fewest_18 : decode cX12_fewest 18 = .ok (.iconst 0, 1) := by decide +kernel
theorem dX12_fewest_19 : decode cX12_fewest 19 = .ok (.sipush 30000, 3) := by decide +kernel
theorem dX12_fewest_22 : decode cX12_fewest 22 = .ok (.invokestatic 95, 3) := by decide +kernel
theorem dX12_fewest_25 : decode cX12_fewest 25 = .ok (.ifCond .ne 5, 3) := by decide +kernel
theorem dX12_fewest_28 : decode cX12_fewest 28 = .ok (.iconst (-1), 1) := by decide +kernel
theorem dX12_fewest_29 : decode cX12_fewest 29 = .ok (.ireturn, 1) := by decide +kernel
theorem dX12_fewest_30 : decode cX12_fewest 30 = .ok (.aload_n 0, 1) := by decide +kernel
theorem dX12_fewest_31 : decode cX12_fewest 31 = .ok (.getfield 223, 3) := by decide +kernel
theorem dX12_fewest_34 : decode cX12_fewest 34 = .ok (.ifCond .eq 10, 3) := by decide +kernel
theorem dX12_fewest_37 : decode cX12_fewest 37 = .ok (.aload_n 0, 1) := by decide +kernel
theorem dX12_fewest_38 : decode cX12_fewest 38 = .ok (.getfield 92, 3) := by decide +kernel
theorem dX12_fewest_41 : decode cX12_fewest 41 = .ok (.ifCond .ne 6, 3) := by decide +kernel
theorem dX12_fewest_44 : decode cX12_fewest 44 = .ok (.bipush (-2), 2) := by decide +kernel
theorem dX12_fewest_46 : decode cX12_fewest 46 = .ok (.ireturn, 1) := by decide +kernel
theorem dX12_fewest_47 : decode cX12_fewest 47 = .ok (.iconst 1, 1) := by decide +kernel
theorem dX12_fewest_48 : decode cX12_fewest 48 = .ok (.aload_n 0, 1) := by decide +kernel
theorem dX12_fewest_49 : decode cX12_fewest 49 = .ok (.getfield 92, 3) := by decide +kernel
theorem dX12_fewest_52 : decode cX12_fewest 52 = .ok (.ishl, 1) := by decide +kernel
theorem dX12_fewest_53 : decode cX12_fewest 53 = .ok (.iconst 1, 1) := by decide +kernel
theorem dX12_fewest_54 : decode cX12_fewest 54 = .ok (.isub, 1) := by decide +kernel
theorem dX12_fewest_55 : decode cX12_fewest 55 = .ok (.istore 4, 2) := by decide +kernel
theorem dX12_fewest_57 : decode cX12_fewest 57 = .ok (.iconst 0, 1) := by decide +kernel
theorem dX12_fewest_58 : decode cX12_fewest 58 = .ok (.istore 5, 2) := by decide +kernel
theorem dX12_fewest_60 : decode cX12_fewest 60 = .ok (.iload 5, 2) := by decide +kernel
theorem dX12_fewest_62 : decode cX12_fewest 62 = .ok (.iload 4, 2) := by decide +kernel
theorem dX12_fewest_64 : decode cX12_fewest 64 = .ok (.if_icmp .gt 17, 3) := by decide +kernel
theorem dX12_fewest_67 : decode cX12_fewest 67 = .ok (.aload_n 0, 1) := by decide +kernel
theorem dX12_fewest_68 : decode cX12_fewest 68 = .ok (.getfield 89, 3) := by decide +kernel
theorem dX12_fewest_71 : decode cX12_fewest 71 = .ok (.iload 5, 2) := by decide +kernel
theorem dX12_fewest_73 : decode cX12_fewest 73 = .ok (.iconst 0, 1) := by decide +kernel
theorem dX12_fewest_74 : decode cX12_fewest 74 = .ok (.iastore, 1) := by decide +kernel
theorem dX12_fewest_75 : decode cX12_fewest 75 = .ok (.iinc 5 1, 3) := by decide +kernel
theorem dX12_fewest_78 : decode cX12_fewest 78 = .ok (.goto (-18), 3) := by decide +kernel
theorem dX12_fewest_81 : decode cX12_fewest 81 = .ok (.aload_n 0, 1) := by decide +kernel
theorem dX12_fewest_82 : decode cX12_fewest 82 = .ok (.iload 4, 2) := by decide +kernel
theorem dX12_fewest_84 : decode cX12_fewest 84 = .ok (.iload_n 2, 1) := by decide +kernel
theorem dX12_fewest_85 : decode cX12_fewest 85 = .ok (.invokevirtual 190, 3) := by decide +kernel
theorem dX12_fewest_88 : decode cX12_fewest 88 = .ok (.iconst 1, 1) := by decide +kernel
theorem dX12_fewest_89 : decode cX12_fewest 89 = .ok (.istore 5, 2) := by decide +kernel
theorem dX12_fewest_91 : decode cX12_fewest 91 = .ok (.iload 5, 2) := by decide +kernel
theorem dX12_fewest_93 : decode cX12_fewest 93 = .ok (.ifCond .eq 142, 3) := by decide +kernel
theorem dX12_fewest_96 : decode cX12_fewest 96 = .ok (.aload_n 0, 1) := by decide +kernel
theorem dX12_fewest_97 : decode cX12_fewest 97 = .ok (.invokevirtual 193, 3) := by decide +kernel
theorem dX12_fewest_100 : decode cX12_fewest 100 = .ok (.iconst 4, 1) := by decide +kernel
theorem dX12_fewest_101 : decode cX12_fewest 101 = .ok (.if_icmp .gt 123, 3) := by decide +kernel
theorem dX12_fewest_104 : decode cX12_fewest 104 = .ok (.aload_n 0, 1) := by decide +kernel
theorem dX12_fewest_105 : decode cX12_fewest 105 = .ok (.invokevirtual 197, 3) := by decide +kernel
theorem dX12_fewest_108 : decode cX12_fewest 108 = .ok (.iconst 0, 1) := by decide +kernel
theorem dX12_fewest_109 : decode cX12_fewest 109 = .ok (.istore 6, 2) := by decide +kernel
theorem dX12_fewest_111 : decode cX12_fewest 111 = .ok (.iconst 0, 1) := by decide +kernel
theorem dX12_fewest_112 : decode cX12_fewest 112 = .ok (.istore 7, 2) := by decide +kernel
theorem dX12_fewest_114 : decode cX12_fewest 114 = .ok (.iload 7, 2) := by decide +kernel
theorem dX12_fewest_116 : decode cX12_fewest 116 = .ok (.aload_n 0, 1) := by decide +kernel
theorem dX12_fewest_117 : decode cX12_fewest 117 = .ok (.getfield 92, 3) := by decide +kernel
theorem dX12_fewest_120 : decode cX12_fewest 120 = .ok (.if_icmp .ge 32, 3) := by decide +kernel
theorem dX12_fewest_123 : decode cX12_fewest 123 = .ok (.iload 6, 2) := by decide +kernel
theorem dX12_fewest_125 : decode cX12_fewest 125 = .ok (.aload_n 0, 1) := by decide +kernel
theorem dX12_fewest_126 : decode cX12_fewest 126 = .ok (.getfield 71, 3) := by decide +kernel
theorem dX12_fewest_129 : decode cX12_fewest 129 = .ok (.iload 7, 2) := by decide +kernel
theorem dX12_fewest_131 : decode cX12_fewest 131 = .ok (.iaload, 1) := by decide +kernel
theorem dX12_fewest_132 : decode cX12_fewest 132 = .ok (.ifCond .le 10, 3) := by decide +kernel
theorem dX12_fewest_135 : decode cX12_fewest 135 = .ok (.iconst 1, 1) := by decide +kernel
theorem dX12_fewest_136 : decode cX12_fewest 136 = .ok (.iload 7, 2) := by decide +kernel
theorem dX12_fewest_138 : decode cX12_fewest 138 = .ok (.ishl, 1) := by decide +kernel
theorem dX12_fewest_139 : decode cX12_fewest 139 = .ok (.goto 4, 3) := by decide +kernel
theorem dX12_fewest_142 : decode cX12_fewest 142 = .ok (.iconst 0, 1) := by decide +kernel
theorem dX12_fewest_143 : decode cX12_fewest 143 = .ok (.ior, 1) := by decide +kernel
theorem dX12_fewest_144 : decode cX12_fewest 144 = .ok (.istore 6, 2) := by decide +kernel
theorem dX12_fewest_146 : decode cX12_fewest 146 = .ok (.iinc 7 1, 3) := by decide +kernel
theorem dX12_fewest_149 : decode cX12_fewest 149 = .ok (.goto (-35), 3) := by decide +kernel
theorem dX12_fewest_152 : decode cX12_fewest 152 = .ok (.iconst 0, 1) := by decide +kernel
theorem dX12_fewest_153 : decode cX12_fewest 153 = .ok (.istore 7, 2) := by decide +kernel
theorem dX12_fewest_155 : decode cX12_fewest 155 = .ok (.iload 7, 2) := by decide +kernel
theorem dX12_fewest_157 : decode cX12_fewest 157 = .ok (.aload_n 0, 1) := by decide +kernel
theorem dX12_fewest_158 : decode cX12_fewest 158 = .ok (.getfield 223, 3) := by decide +kernel
theorem dX12_fewest_161 : decode cX12_fewest 161 = .ok (.if_icmp .ge 63, 3) := by decide +kernel
theorem dX12_fewest_164 : decode cX12_fewest 164 = .ok (.aload_n 0, 1) := by decide +kernel
theorem dX12_fewest_165 : decode cX12_fewest 165 = .ok (.aload_n 0, 1) := by decide +kernel
theorem dX12_fewest_166 : decode cX12_fewest 166 = .ok (.getfield 86, 3) := by decide +kernel
theorem dX12_fewest_169 : decode cX12_fewest 169 = .ok (.iconst 3, 1) := by decide +kernel
theorem dX12_fewest_170 : decode cX12_fewest 170 = .ok (.iload 7, 2) := by decide +kernel
theorem dX12_fewest_172 : decode cX12_fewest 172 = .ok (.imul, 1) := by decide +kernel
theorem dX12_fewest_173 : decode cX12_fewest 173 = .ok (.iaload, 1) := by decide +kernel
theorem dX12_fewest_174 : decode cX12_fewest 174 = .ok (.aload_n 0, 1) := by decide +kernel
theorem dX12_fewest_175 : decode cX12_fewest 175 = .ok (.getfield 86, 3) := by decide +kernel
theorem dX12_fewest_178 : decode cX12_fewest 178 = .ok (.iconst 3, 1) := by decide +kernel
theorem dX12_fewest_179 : decode cX12_fewest 179 = .ok (.iload 7, 2) := by decide +kernel
theorem dX12_fewest_181 : decode cX12_fewest 181 = .ok (.imul, 1) := by decide +kernel
theorem dX12_fewest_182 : decode cX12_fewest 182 = .ok (.iconst 1, 1) := by decide +kernel
theorem dX12_fewest_183 : decode cX12_fewest 183 = .ok (.iadd, 1) := by decide +kernel
theorem dX12_fewest_184 : decode cX12_fewest 184 = .ok (.iaload, 1) := by decide +kernel
theorem dX12_fewest_185 : decode cX12_fewest 185 = .ok (.aload_n 0, 1) := by decide +kernel
theorem dX12_fewest_186 : decode cX12_fewest 186 = .ok (.getfield 86, 3) := by decide +kernel
theorem dX12_fewest_189 : decode cX12_fewest 189 = .ok (.iconst 3, 1) := by decide +kernel
theorem dX12_fewest_190 : decode cX12_fewest 190 = .ok (.iload 7, 2) := by decide +kernel
theorem dX12_fewest_192 : decode cX12_fewest 192 = .ok (.imul, 1) := by decide +kernel
theorem dX12_fewest_193 : decode cX12_fewest 193 = .ok (.iconst 2, 1) := by decide +kernel
theorem dX12_fewest_194 : decode cX12_fewest 194 = .ok (.iadd, 1) := by decide +kernel
theorem dX12_fewest_195 : decode cX12_fewest 195 = .ok (.iaload, 1) := by decide +kernel
theorem dX12_fewest_196 : decode cX12_fewest 196 = .ok (.iload_n 1, 1) := by decide +kernel
theorem dX12_fewest_197 : decode cX12_fewest 197 = .ok (.invokevirtual 183, 3) := by decide +kernel
theorem dX12_fewest_200 : decode cX12_fewest 200 = .ok (.iload_n 3, 1) := by decide +kernel
theorem dX12_fewest_201 : decode cX12_fewest 201 = .ok (.if_icmp .gt 17, 3) := by decide +kernel
theorem dX12_fewest_204 : decode cX12_fewest 204 = .ok (.aload_n 0, 1) := by decide +kernel
theorem dX12_fewest_205 : decode cX12_fewest 205 = .ok (.getfield 89, 3) := by decide +kernel
theorem dX12_fewest_208 : decode cX12_fewest 208 = .ok (.iload 6, 2) := by decide +kernel
theorem dX12_fewest_210 : decode cX12_fewest 210 = .ok (.dup2, 1) := by decide +kernel
theorem dX12_fewest_211 : decode cX12_fewest 211 = .ok (.iaload, 1) := by decide +kernel
theorem dX12_fewest_212 : decode cX12_fewest 212 = .ok (.iconst 1, 1) := by decide +kernel
theorem dX12_fewest_213 : decode cX12_fewest 213 = .ok (.iload 7, 2) := by decide +kernel
theorem dX12_fewest_215 : decode cX12_fewest 215 = .ok (.ishl, 1) := by decide +kernel
theorem dX12_fewest_216 : decode cX12_fewest 216 = .ok (.ior, 1) := by decide +kernel
theorem dX12_fewest_217 : decode cX12_fewest 217 = .ok (.iastore, 1) := by decide +kernel
theorem dX12_fewest_218 : decode cX12_fewest 218 = .ok (.iinc 7 1, 3) := by decide +kernel
theorem dX12_fewest_221 : decode cX12_fewest 221 = .ok (.goto (-66), 3) := by decide +kernel
theorem dX12_fewest_224 : decode cX12_fewest 224 = .ok (.aload_n 0, 1) := by decide +kernel
theorem dX12_fewest_225 : decode cX12_fewest 225 = .ok (.iload 4, 2) := by decide +kernel
theorem dX12_fewest_227 : decode cX12_fewest 227 = .ok (.invokevirtual 206, 3) := by decide +kernel
theorem dX12_fewest_230 : decode cX12_fewest 230 = .ok (.istore 5, 2) := by decide +kernel
theorem dX12_fewest_232 : decode cX12_fewest 232 = .ok (.goto (-141), 3) := by decide +kernel
theorem dX12_fewest_235 : decode cX12_fewest 235 = .ok (.iconst (-1), 1) := by decide +kernel
theorem dX12_fewest_236 : decode cX12_fewest 236 = .ok (.istore 6, 2) := by decide +kernel
theorem dX12_fewest_238 : decode cX12_fewest 238 = .ok (.iconst 0, 1) := by decide +kernel
theorem dX12_fewest_239 : decode cX12_fewest 239 = .ok (.istore 7, 2) := by decide +kernel
theorem dX12_fewest_241 : decode cX12_fewest 241 = .ok (.iconst 1, 1) := by decide +kernel
theorem dX12_fewest_242 : decode cX12_fewest 242 = .ok (.istore 8, 2) := by decide +kernel
theorem dX12_fewest_244 : decode cX12_fewest 244 = .ok (.iload 8, 2) := by decide +kernel
theorem dX12_fewest_246 : decode cX12_fewest 246 = .ok (.iload 4, 2) := by decide +kernel
theorem dX12_fewest_248 : decode cX12_fewest 248 = .ok (.if_icmp .gt 111, 3) := by decide +kernel
theorem dX12_fewest_251 : decode cX12_fewest 251 = .ok (.iconst 0, 1) := by decide +kernel
theorem dX12_fewest_252 : decode cX12_fewest 252 = .ok (.istore 9, 2) := by decide +kernel
theorem dX12_fewest_254 : decode cX12_fewest 254 = .ok (.iconst 0, 1) := by decide +kernel
theorem dX12_fewest_255 : decode cX12_fewest 255 = .ok (.istore 10, 2) := by decide +kernel
theorem dX12_fewest_257 : decode cX12_fewest 257 = .ok (.iload 10, 2) := by decide +kernel
theorem dX12_fewest_259 : decode cX12_fewest 259 = .ok (.aload_n 0, 1) := by decide +kernel
theorem dX12_fewest_260 : decode cX12_fewest 260 = .ok (.getfield 92, 3) := by decide +kernel
theorem dX12_fewest_263 : decode cX12_fewest 263 = .ok (.if_icmp .ge 49, 3) := by decide +kernel
theorem dX12_fewest_266 : decode cX12_fewest 266 = .ok (.iload 8, 2) := by decide +kernel
theorem dX12_fewest_268 : decode cX12_fewest 268 = .ok (.iload 10, 2) := by decide +kernel
theorem dX12_fewest_270 : decode cX12_fewest 270 = .ok (.ishr, 1) := by decide +kernel
theorem dX12_fewest_271 : decode cX12_fewest 271 = .ok (.iconst 1, 1) := by decide +kernel
theorem dX12_fewest_272 : decode cX12_fewest 272 = .ok (.iand, 1) := by decide +kernel
theorem dX12_fewest_273 : decode cX12_fewest 273 = .ok (.ifCond .ne 6, 3) := by decide +kernel
theorem dX12_fewest_276 : decode cX12_fewest 276 = .ok (.goto 30, 3) := by decide +kernel
theorem dX12_fewest_279 : decode cX12_fewest 279 = .ok (.iinc 9 1, 3) := by decide +kernel
theorem dX12_fewest_282 : decode cX12_fewest 282 = .ok (.aload_n 0, 1) := by decide +kernel
theorem dX12_fewest_283 : decode cX12_fewest 283 = .ok (.getfield 89, 3) := by decide +kernel
theorem dX12_fewest_286 : decode cX12_fewest 286 = .ok (.iload 8, 2) := by decide +kernel
theorem dX12_fewest_288 : decode cX12_fewest 288 = .ok (.dup2, 1) := by decide +kernel
theorem dX12_fewest_289 : decode cX12_fewest 289 = .ok (.iaload, 1) := by decide +kernel
theorem dX12_fewest_290 : decode cX12_fewest 290 = .ok (.aload_n 0, 1) := by decide +kernel
theorem dX12_fewest_291 : decode cX12_fewest 291 = .ok (.getfield 89, 3) := by decide +kernel
theorem dX12_fewest_294 : decode cX12_fewest 294 = .ok (.iload 8, 2) := by decide +kernel
theorem dX12_fewest_296 : decode cX12_fewest 296 = .ok (.iconst 1, 1) := by decide +kernel
theorem dX12_fewest_297 : decode cX12_fewest 297 = .ok (.iload 10, 2) := by decide +kernel
theorem dX12_fewest_299 : decode cX12_fewest 299 = .ok (.ishl, 1) := by decide +kernel
theorem dX12_fewest_300 : decode cX12_fewest 300 = .ok (.iconst (-1), 1) := by decide +kernel
theorem dX12_fewest_301 : decode cX12_fewest 301 = .ok (.ixor, 1) := by decide +kernel
theorem dX12_fewest_302 : decode cX12_fewest 302 = .ok (.iand, 1) := by decide +kernel
theorem dX12_fewest_303 : decode cX12_fewest 303 = .ok (.iaload, 1) := by decide +kernel
theorem dX12_fewest_304 : decode cX12_fewest 304 = .ok (.ior, 1) := by decide +kernel
theorem dX12_fewest_305 : decode cX12_fewest 305 = .ok (.iastore, 1) := by decide +kernel
theorem dX12_fewest_306 : decode cX12_fewest 306 = .ok (.iinc 10 1, 3) := by decide +kernel
theorem dX12_fewest_309 : decode cX12_fewest 309 = .ok (.goto (-52), 3) := by decide +kernel
theorem dX12_fewest_312 : decode cX12_fewest 312 = .ok (.aload_n 0, 1) := by decide +kernel
theorem dX12_fewest_313 : decode cX12_fewest 313 = .ok (.getfield 89, 3) := by decide +kernel
theorem dX12_fewest_316 : decode cX12_fewest 316 = .ok (.iload 8, 2) := by decide +kernel
theorem dX12_fewest_318 : decode cX12_fewest 318 = .ok (.iaload, 1) := by decide +kernel
theorem dX12_fewest_319 : decode cX12_fewest 319 = .ok (.iconst 1, 1) := by decide +kernel
theorem dX12_fewest_320 : decode cX12_fewest 320 = .ok (.aload_n 0, 1) := by decide +kernel
theorem dX12_fewest_321 : decode cX12_fewest 321 = .ok (.getfield 223, 3) := by decide +kernel
theorem dX12_fewest_324 : decode cX12_fewest 324 = .ok (.ishl, 1) := by decide +kernel
theorem dX12_fewest_325 : decode cX12_fewest 325 = .ok (.iconst 1, 1) := by decide +kernel
theorem dX12_fewest_326 : decode cX12_fewest 326 = .ok (.isub, 1) := by decide +kernel
theorem dX12_fewest_327 : decode cX12_fewest 327 = .ok (.if_icmp .ne 26, 3) := by decide +kernel
theorem dX12_fewest_330 : decode cX12_fewest 330 = .ok (.iload 6, 2) := by decide +kernel
theorem dX12_fewest_332 : decode cX12_fewest 332 = .ok (.ifCond .lt 13, 3) := by decide +kernel
theorem dX12_fewest_335 : decode cX12_fewest 335 = .ok (.iload 9, 2) := by decide +kernel
theorem dX12_fewest_337 : decode cX12_fewest 337 = .ok (.iload 7, 2) := by decide +kernel
theorem dX12_fewest_339 : decode cX12_fewest 339 = .ok (.if_icmp .lt 6, 3) := by decide +kernel
theorem dX12_fewest_342 : decode cX12_fewest 342 = .ok (.goto 11, 3) := by decide +kernel
theorem dX12_fewest_345 : decode cX12_fewest 345 = .ok (.iload 8, 2) := by decide +kernel
theorem dX12_fewest_347 : decode cX12_fewest 347 = .ok (.istore 6, 2) := by decide +kernel
theorem dX12_fewest_349 : decode cX12_fewest 349 = .ok (.iload 9, 2) := by decide +kernel
theorem dX12_fewest_351 : decode cX12_fewest 351 = .ok (.istore 7, 2) := by decide +kernel
theorem dX12_fewest_353 : decode cX12_fewest 353 = .ok (.iinc 8 1, 3) := by decide +kernel
theorem dX12_fewest_356 : decode cX12_fewest 356 = .ok (.goto (-112), 3) := by decide +kernel
theorem dX12_fewest_359 : decode cX12_fewest 359 = .ok (.iload 6, 2) := by decide +kernel
theorem dX12_fewest_361 : decode cX12_fewest 361 = .ok (.ifCond .ge 8, 3) := by decide +kernel
theorem dX12_fewest_364 : decode cX12_fewest 364 = .ok (.bipush (-2), 2) := by decide +kernel
theorem dX12_fewest_366 : decode cX12_fewest 366 = .ok (.goto 5, 3) := by decide +kernel
theorem dX12_fewest_369 : decode cX12_fewest 369 = .ok (.iload 6, 2) := by decide +kernel
theorem dX12_fewest_371 : decode cX12_fewest 371 = .ok (.ireturn, 1) := by decide +kernel
theorem dX12_count_0 : decode cX12_count 0 = .ok (.iconst 0, 1) := by decide +kernel
theorem dX12_count_1 : decode cX12_count 1 = .ok (.istore_n 2, 1) := by decide +kernel
theorem dX12_count_2 : decode cX12_count 2 = .ok (.iload_n 1, 1) := by decide +kernel
theorem dX12_count_3 : decode cX12_count 3 = .ok (.tableswitch 184 0 7 #[45, 50, 55, 60, 84, 109, 134, 159], 45) := by decide +kernel
theorem dX12_count_48 : decode cX12_count 48 = .ok (.aload_n 0, 1) := by decide +kernel
theorem dX12_count_49 : decode cX12_count 49 = .ok (.getfield 92, 3) := by decide +kernel
theorem dX12_count_52 : decode cX12_count 52 = .ok (.ireturn, 1) := by decide +kernel
theorem dX12_count_53 : decode cX12_count 53 = .ok (.aload_n 0, 1) := by decide +kernel
theorem dX12_count_54 : decode cX12_count 54 = .ok (.getfield 120, 3) := by decide +kernel
theorem dX12_count_57 : decode cX12_count 57 = .ok (.ireturn, 1) := by decide +kernel
theorem dX12_count_58 : decode cX12_count 58 = .ok (.aload_n 0, 1) := by decide +kernel
theorem dX12_count_59 : decode cX12_count 59 = .ok (.getfield 223, 3) := by decide +kernel
theorem dX12_count_62 : decode cX12_count 62 = .ok (.ireturn, 1) := by decide +kernel
theorem dX12_count_63 : decode cX12_count 63 = .ok (.iconst 0, 1) := by decide +kernel
theorem dX12_count_64 : decode cX12_count 64 = .ok (.istore_n 3, 1) := by decide +kernel
theorem dX12_count_65 : decode cX12_count 65 = .ok (.iload_n 3, 1) := by decide +kernel
theorem dX12_count_66 : decode cX12_count 66 = .ok (.bipush 12, 2) := by decide +kernel
theorem dX12_count_68 : decode cX12_count 68 = .ok (.if_icmp .ge 17, 3) := by decide +kernel
theorem dX12_count_71 : decode cX12_count 71 = .ok (.iload_n 2, 1) := by decide +kernel
theorem dX12_count_72 : decode cX12_count 72 = .ok (.aload_n 0, 1) := by decide +kernel
theorem dX12_count_73 : decode cX12_count 73 = .ok (.iload_n 3, 1) := by decide +kernel
theorem dX12_count_74 : decode cX12_count 74 = .ok (.invokevirtual 106, 3) := by decide +kernel
theorem dX12_count_77 : decode cX12_count 77 = .ok (.iadd, 1) := by decide +kernel
theorem dX12_count_78 : decode cX12_count 78 = .ok (.istore_n 2, 1) := by decide +kernel
theorem dX12_count_79 : decode cX12_count 79 = .ok (.iinc 3 1, 3) := by decide +kernel
theorem dX12_count_82 : decode cX12_count 82 = .ok (.goto (-17), 3) := by decide +kernel
theorem dX12_count_85 : decode cX12_count 85 = .ok (.iload_n 2, 1) := by decide +kernel
theorem dX12_count_86 : decode cX12_count 86 = .ok (.ireturn, 1) := by decide +kernel
theorem dX12_count_87 : decode cX12_count 87 = .ok (.iconst 0, 1) := by decide +kernel
theorem dX12_count_88 : decode cX12_count 88 = .ok (.istore_n 3, 1) := by decide +kernel
theorem dX12_count_89 : decode cX12_count 89 = .ok (.iload_n 3, 1) := by decide +kernel
theorem dX12_count_90 : decode cX12_count 90 = .ok (.bipush 12, 2) := by decide +kernel
theorem dX12_count_92 : decode cX12_count 92 = .ok (.if_icmp .ge 18, 3) := by decide +kernel
theorem dX12_count_95 : decode cX12_count 95 = .ok (.iload_n 2, 1) := by decide +kernel
theorem dX12_count_96 : decode cX12_count 96 = .ok (.aload_n 0, 1) := by decide +kernel
theorem dX12_count_97 : decode cX12_count 97 = .ok (.getfield 29, 3) := by decide +kernel
theorem dX12_count_100 : decode cX12_count 100 = .ok (.iload_n 3, 1) := by decide +kernel
theorem dX12_count_101 : decode cX12_count 101 = .ok (.iaload, 1) := by decide +kernel
theorem dX12_count_102 : decode cX12_count 102 = .ok (.iadd, 1) := by decide +kernel
theorem dX12_count_103 : decode cX12_count 103 = .ok (.istore_n 2, 1) := by decide +kernel
theorem dX12_count_104 : decode cX12_count 104 = .ok (.iinc 3 1, 3) := by decide +kernel
theorem dX12_count_107 : decode cX12_count 107 = .ok (.goto (-18), 3) := by decide +kernel
theorem dX12_count_110 : decode cX12_count 110 = .ok (.iload_n 2, 1) := by decide +kernel
theorem dX12_count_111 : decode cX12_count 111 = .ok (.ireturn, 1) := by decide +kernel
theorem dX12_count_112 : decode cX12_count 112 = .ok (.iconst 0, 1) := by decide +kernel
theorem dX12_count_113 : decode cX12_count 113 = .ok (.istore_n 3, 1) := by decide +kernel
theorem dX12_count_114 : decode cX12_count 114 = .ok (.iload_n 3, 1) := by decide +kernel
theorem dX12_count_115 : decode cX12_count 115 = .ok (.bipush 12, 2) := by decide +kernel
theorem dX12_count_117 : decode cX12_count 117 = .ok (.if_icmp .ge 18, 3) := by decide +kernel
theorem dX12_count_120 : decode cX12_count 120 = .ok (.iload_n 2, 1) := by decide +kernel
theorem dX12_count_121 : decode cX12_count 121 = .ok (.aload_n 0, 1) := by decide +kernel
theorem dX12_count_122 : decode cX12_count 122 = .ok (.getfield 32, 3) := by decide +kernel
theorem dX12_count_125 : decode cX12_count 125 = .ok (.iload_n 3, 1) := by decide +kernel
theorem dX12_count_126 : decode cX12_count 126 = .ok (.iaload, 1) := by decide +kernel
theorem dX12_count_127 : decode cX12_count 127 = .ok (.iadd, 1) := by decide +kernel
theorem dX12_count_128 : decode cX12_count 128 = .ok (.istore_n 2, 1) := by decide +kernel
theorem dX12_count_129 : decode cX12_count 129 = .ok (.iinc 3 1, 3) := by decide +kernel
theorem dX12_count_132 : decode cX12_count 132 = .ok (.goto (-18), 3) := by decide +kernel
theorem dX12_count_135 : decode cX12_count 135 = .ok (.iload_n 2, 1) := by decide +kernel
theorem dX12_count_136 : decode cX12_count 136 = .ok (.ireturn, 1) := by decide +kernel
theorem dX12_count_137 : decode cX12_count 137 = .ok (.iconst 0, 1) := by decide +kernel
theorem dX12_count_138 : decode cX12_count 138 = .ok (.istore_n 3, 1) := by decide +kernel
theorem dX12_count_139 : decode cX12_count 139 = .ok (.iload_n 3, 1) := by decide +kernel
theorem dX12_count_140 : decode cX12_count 140 = .ok (.bipush 12, 2) := by decide +kernel
theorem dX12_count_142 : decode cX12_count 142 = .ok (.if_icmp .ge 18, 3) := by decide +kernel
theorem dX12_count_145 : decode cX12_count 145 = .ok (.iload_n 2, 1) := by decide +kernel
theorem dX12_count_146 : decode cX12_count 146 = .ok (.aload_n 0, 1) := by decide +kernel
theorem dX12_count_147 : decode cX12_count 147 = .ok (.getfield 26, 3) := by decide +kernel
theorem dX12_count_150 : decode cX12_count 150 = .ok (.iload_n 3, 1) := by decide +kernel
theorem dX12_count_151 : decode cX12_count 151 = .ok (.iaload, 1) := by decide +kernel
theorem dX12_count_152 : decode cX12_count 152 = .ok (.iadd, 1) := by decide +kernel
theorem dX12_count_153 : decode cX12_count 153 = .ok (.istore_n 2, 1) := by decide +kernel
theorem dX12_count_154 : decode cX12_count 154 = .ok (.iinc 3 1, 3) := by decide +kernel
theorem dX12_count_157 : decode cX12_count 157 = .ok (.goto (-18), 3) := by decide +kernel
theorem dX12_count_160 : decode cX12_count 160 = .ok (.iload_n 2, 1) := by decide +kernel
theorem dX12_count_161 : decode cX12_count 161 = .ok (.ireturn, 1) := by decide +kernel
theorem dX12_count_162 : decode cX12_count 162 = .ok (.iconst 0, 1) := by decide +kernel
theorem dX12_count_163 : decode cX12_count 163 = .ok (.istore_n 3, 1) := by decide +kernel
theorem dX12_count_164 : decode cX12_count 164 = .ok (.iload_n 3, 1) := by decide +kernel
theorem dX12_count_165 : decode cX12_count 165 = .ok (.bipush 10, 2) := by decide +kernel
theorem dX12_count_167 : decode cX12_count 167 = .ok (.if_icmp .ge 18, 3) := by decide +kernel
theorem dX12_count_170 : decode cX12_count 170 = .ok (.iload_n 2, 1) := by decide +kernel
theorem dX12_count_171 : decode cX12_count 171 = .ok (.aload_n 0, 1) := by decide +kernel
theorem dX12_count_172 : decode cX12_count 172 = .ok (.getfield 56, 3) := by decide +kernel
theorem dX12_count_175 : decode cX12_count 175 = .ok (.iload_n 3, 1) := by decide +kernel
theorem dX12_count_176 : decode cX12_count 176 = .ok (.iaload, 1) := by decide +kernel
theorem dX12_count_177 : decode cX12_count 177 = .ok (.iadd, 1) := by decide +kernel
theorem dX12_count_178 : decode cX12_count 178 = .ok (.istore_n 2, 1) := by decide +kernel
theorem dX12_count_179 : decode cX12_count 179 = .ok (.iinc 3 1, 3) := by decide +kernel
theorem dX12_count_182 : decode cX12_count 182 = .ok (.goto (-18), 3) := by decide +kernel
theorem dX12_count_185 : decode cX12_count 185 = .ok (.iload_n 2, 1) := by decide +kernel
theorem dX12_count_186 : decode cX12_count 186 = .ok (.ireturn, 1) := by decide +kernel
theorem dX12_count_187 : decode cX12_count 187 = .ok (.iconst (-1), 1) := by decide +kernel
theorem dX12_count_188 : decode cX12_count 188 = .ok (.ireturn, 1) := by decide +kernel
theorem dJ6_bitCount_0f7a4_0 : decode cJ6_bitCount_0f7a4 0 = .ok (.iload_n 0, 1) := by decide +kernel
theorem dJ6_bitCount_0f7a4_1 : decode cJ6_bitCount_0f7a4 1 = .ok (.iload_n 0, 1) := by decide +kernel
theorem dJ6_bitCount_0f7a4_2 : decode cJ6_bitCount_0f7a4 2 = .ok (.iconst 1, 1) := by decide +kernel
theorem dJ6_bitCount_0f7a4_3 : decode cJ6_bitCount_0f7a4 3 = .ok (.iushr, 1) := by decide +kernel
theorem dJ6_bitCount_0f7a4_4 : decode cJ6_bitCount_0f7a4 4 = .ok (.ldc_w 265, 3) := by decide +kernel
theorem dJ6_bitCount_0f7a4_7 : decode cJ6_bitCount_0f7a4 7 = .ok (.iand, 1) := by decide +kernel
theorem dJ6_bitCount_0f7a4_8 : decode cJ6_bitCount_0f7a4 8 = .ok (.isub, 1) := by decide +kernel
theorem dJ6_bitCount_0f7a4_9 : decode cJ6_bitCount_0f7a4 9 = .ok (.istore_n 0, 1) := by decide +kernel
theorem dJ6_bitCount_0f7a4_10 : decode cJ6_bitCount_0f7a4 10 = .ok (.iload_n 0, 1) := by decide +kernel
theorem dJ6_bitCount_0f7a4_11 : decode cJ6_bitCount_0f7a4 11 = .ok (.ldc_w 266, 3) := by decide +kernel
theorem dJ6_bitCount_0f7a4_14 : decode cJ6_bitCount_0f7a4 14 = .ok (.iand, 1) := by decide +kernel
theorem dJ6_bitCount_0f7a4_15 : decode cJ6_bitCount_0f7a4 15 = .ok (.iload_n 0, 1) := by decide +kernel
theorem dJ6_bitCount_0f7a4_16 : decode cJ6_bitCount_0f7a4 16 = .ok (.iconst 2, 1) := by decide +kernel
theorem dJ6_bitCount_0f7a4_17 : decode cJ6_bitCount_0f7a4 17 = .ok (.iushr, 1) := by decide +kernel
theorem dJ6_bitCount_0f7a4_18 : decode cJ6_bitCount_0f7a4 18 = .ok (.ldc_w 266, 3) := by decide +kernel
theorem dJ6_bitCount_0f7a4_21 : decode cJ6_bitCount_0f7a4 21 = .ok (.iand, 1) := by decide +kernel
theorem dJ6_bitCount_0f7a4_22 : decode cJ6_bitCount_0f7a4 22 = .ok (.iadd, 1) := by decide +kernel
theorem dJ6_bitCount_0f7a4_23 : decode cJ6_bitCount_0f7a4 23 = .ok (.istore_n 0, 1) := by decide +kernel
theorem dJ6_bitCount_0f7a4_24 : decode cJ6_bitCount_0f7a4 24 = .ok (.iload_n 0, 1) := by decide +kernel
theorem dJ6_bitCount_0f7a4_25 : decode cJ6_bitCount_0f7a4 25 = .ok (.iload_n 0, 1) := by decide +kernel
theorem dJ6_bitCount_0f7a4_26 : decode cJ6_bitCount_0f7a4 26 = .ok (.iconst 4, 1) := by decide +kernel
theorem dJ6_bitCount_0f7a4_27 : decode cJ6_bitCount_0f7a4 27 = .ok (.iushr, 1) := by decide +kernel
theorem dJ6_bitCount_0f7a4_28 : decode cJ6_bitCount_0f7a4 28 = .ok (.iadd, 1) := by decide +kernel
theorem dJ6_bitCount_0f7a4_29 : decode cJ6_bitCount_0f7a4 29 = .ok (.ldc_w 267, 3) := by decide +kernel
theorem dJ6_bitCount_0f7a4_32 : decode cJ6_bitCount_0f7a4 32 = .ok (.iand, 1) := by decide +kernel
theorem dJ6_bitCount_0f7a4_33 : decode cJ6_bitCount_0f7a4 33 = .ok (.istore_n 0, 1) := by decide +kernel
theorem dJ6_bitCount_0f7a4_34 : decode cJ6_bitCount_0f7a4 34 = .ok (.iload_n 0, 1) := by decide +kernel
theorem dJ6_bitCount_0f7a4_35 : decode cJ6_bitCount_0f7a4 35 = .ok (.iload_n 0, 1) := by decide +kernel
theorem dJ6_bitCount_0f7a4_36 : decode cJ6_bitCount_0f7a4 36 = .ok (.bipush 8, 2) := by decide +kernel
theorem dJ6_bitCount_0f7a4_38 : decode cJ6_bitCount_0f7a4 38 = .ok (.iushr, 1) := by decide +kernel
theorem dJ6_bitCount_0f7a4_39 : decode cJ6_bitCount_0f7a4 39 = .ok (.iadd, 1) := by decide +kernel
theorem dJ6_bitCount_0f7a4_40 : decode cJ6_bitCount_0f7a4 40 = .ok (.istore_n 0, 1) := by decide +kernel
theorem dJ6_bitCount_0f7a4_41 : decode cJ6_bitCount_0f7a4 41 = .ok (.iload_n 0, 1) := by decide +kernel
theorem dJ6_bitCount_0f7a4_42 : decode cJ6_bitCount_0f7a4 42 = .ok (.iload_n 0, 1) := by decide +kernel
theorem dJ6_bitCount_0f7a4_43 : decode cJ6_bitCount_0f7a4 43 = .ok (.bipush 16, 2) := by decide +kernel
theorem dJ6_bitCount_0f7a4_45 : decode cJ6_bitCount_0f7a4 45 = .ok (.iushr, 1) := by decide +kernel
theorem dJ6_bitCount_0f7a4_46 : decode cJ6_bitCount_0f7a4 46 = .ok (.iadd, 1) := by decide +kernel
theorem dJ6_bitCount_0f7a4_47 : decode cJ6_bitCount_0f7a4 47 = .ok (.istore_n 0, 1) := by decide +kernel
theorem dJ6_bitCount_0f7a4_48 : decode cJ6_bitCount_0f7a4 48 = .ok (.iload_n 0, 1) := by decide +kernel
theorem dJ6_bitCount_0f7a4_49 : decode cJ6_bitCount_0f7a4 49 = .ok (.bipush 63, 2) := by decide +kernel
theorem dJ6_bitCount_0f7a4_51 : decode cJ6_bitCount_0f7a4 51 = .ok (.iand, 1) := by decide +kernel
theorem dJ6_bitCount_0f7a4_52 : decode cJ6_bitCount_0f7a4 52 = .ok (.ireturn, 1) := by decide +kernel
theorem dJ9_abs_0f7a4_0 : decode cJ9_abs_0f7a4 0 = .ok (.iload_n 0, 1) := by decide +kernel
theorem dJ9_abs_0f7a4_1 : decode cJ9_abs_0f7a4 1 = .ok (.ifCond .ge 8, 3) := by decide +kernel
theorem dJ9_abs_0f7a4_4 : decode cJ9_abs_0f7a4 4 = .ok (.iload_n 0, 1) := by decide +kernel
theorem dJ9_abs_0f7a4_5 : decode cJ9_abs_0f7a4 5 = .ok (.ineg, 1) := by decide +kernel
theorem dJ9_abs_0f7a4_6 : decode cJ9_abs_0f7a4 6 = .ok (.goto 4, 3) := by decide +kernel
theorem dJ9_abs_0f7a4_9 : decode cJ9_abs_0f7a4 9 = .ok (.iload_n 0, 1) := by decide +kernel
theorem dJ9_abs_0f7a4_10 : decode cJ9_abs_0f7a4 10 = .ok (.ireturn, 1) := by decide +kernel
theorem dJ9_max_7cf53_0 : decode cJ9_max_7cf53 0 = .ok (.iload_n 0, 1) := by decide +kernel
theorem dJ9_max_7cf53_1 : decode cJ9_max_7cf53 1 = .ok (.iload_n 1, 1) := by decide +kernel
theorem dJ9_max_7cf53_2 : decode cJ9_max_7cf53 2 = .ok (.if_icmp .lt 7, 3) := by decide +kernel
theorem dJ9_max_7cf53_5 : decode cJ9_max_7cf53 5 = .ok (.iload_n 0, 1) := by decide +kernel
theorem dJ9_max_7cf53_6 : decode cJ9_max_7cf53 6 = .ok (.goto 4, 3) := by decide +kernel
theorem dJ9_max_7cf53_9 : decode cJ9_max_7cf53 9 = .ok (.iload_n 1, 1) := by decide +kernel
theorem dJ9_max_7cf53_10 : decode cJ9_max_7cf53 10 = .ok (.ireturn, 1) := by decide +kernel
theorem dJ7_fill_53178_0 : decode cJ7_fill_53178 0 = .ok (.iconst 0, 1) := by decide +kernel
theorem dJ7_fill_53178_1 : decode cJ7_fill_53178 1 = .ok (.istore_n 2, 1) := by decide +kernel
theorem dJ7_fill_53178_2 : decode cJ7_fill_53178 2 = .ok (.aload_n 0, 1) := by decide +kernel
theorem dJ7_fill_53178_3 : decode cJ7_fill_53178 3 = .ok (.arraylength, 1) := by decide +kernel
theorem dJ7_fill_53178_4 : decode cJ7_fill_53178 4 = .ok (.istore_n 3, 1) := by decide +kernel
theorem dJ7_fill_53178_5 : decode cJ7_fill_53178 5 = .ok (.iload_n 2, 1) := by decide +kernel
theorem dJ7_fill_53178_6 : decode cJ7_fill_53178 6 = .ok (.iload_n 3, 1) := by decide +kernel
theorem dJ7_fill_53178_7 : decode cJ7_fill_53178 7 = .ok (.if_icmp .ge 13, 3) := by decide +kernel
theorem dJ7_fill_53178_10 : decode cJ7_fill_53178 10 = .ok (.aload_n 0, 1) := by decide +kernel
theorem dJ7_fill_53178_11 : decode cJ7_fill_53178 11 = .ok (.iload_n 2, 1) := by decide +kernel
theorem dJ7_fill_53178_12 : decode cJ7_fill_53178 12 = .ok (.iload_n 1, 1) := by decide +kernel
theorem dJ7_fill_53178_13 : decode cJ7_fill_53178 13 = .ok (.iastore, 1) := by decide +kernel
theorem dJ7_fill_53178_14 : decode cJ7_fill_53178 14 = .ok (.iinc 2 1, 3) := by decide +kernel
theorem dJ7_fill_53178_17 : decode cJ7_fill_53178 17 = .ok (.goto (-12), 3) := by decide +kernel
theorem dJ7_fill_53178_20 : decode cJ7_fill_53178 20 = .ok (.return_, 1) := by decide +kernel
theorem dL_law_0 : decode cL_law 0 = .ok (.new 7, 3) := by decide +kernel
theorem dL_law_3 : decode cL_law 3 = .ok (.dup, 1) := by decide +kernel
theorem dL_law_4 : decode cL_law 4 = .ok (.invokespecial 9, 3) := by decide +kernel
theorem dL_law_7 : decode cL_law 7 = .ok (.astore_n 1, 1) := by decide +kernel
theorem dL_law_8 : decode cL_law 8 = .ok (.new 10, 3) := by decide +kernel
theorem dL_law_11 : decode cL_law 11 = .ok (.dup, 1) := by decide +kernel
theorem dL_law_12 : decode cL_law 12 = .ok (.invokespecial 12, 3) := by decide +kernel
theorem dL_law_15 : decode cL_law 15 = .ok (.astore_n 2, 1) := by decide +kernel
theorem dL_law_16 : decode cL_law 16 = .ok (.iconst 0, 1) := by decide +kernel
theorem dL_law_17 : decode cL_law 17 = .ok (.istore_n 3, 1) := by decide +kernel
theorem dL_law_18 : decode cL_law 18 = .ok (.iload_n 3, 1) := by decide +kernel
theorem dL_law_19 : decode cL_law 19 = .ok (.aload_n 0, 1) := by decide +kernel
theorem dL_law_20 : decode cL_law 20 = .ok (.arraylength, 1) := by decide +kernel
theorem dL_law_21 : decode cL_law 21 = .ok (.iconst 5, 1) := by decide +kernel
theorem dL_law_22 : decode cL_law 22 = .ok (.isub, 1) := by decide +kernel
theorem dL_law_23 : decode cL_law 23 = .ok (.if_icmp .gt 1258, 3) := by decide +kernel
theorem dL_law_26 : decode cL_law 26 = .ok (.aload_n 0, 1) := by decide +kernel
theorem dL_law_27 : decode cL_law 27 = .ok (.iload_n 3, 1) := by decide +kernel
theorem dL_law_28 : decode cL_law 28 = .ok (.iaload, 1) := by decide +kernel
theorem dL_law_29 : decode cL_law 29 = .ok (.bipush 31, 2) := by decide +kernel
theorem dL_law_31 : decode cL_law 31 = .ok (.iand, 1) := by decide +kernel
theorem dL_law_32 : decode cL_law 32 = .ok (.tableswitch 1243 0 30 #[140, 183, 236, 269, 322, 365, 408, 431, 474, 507, 530, 563, 596, 639, 692, 725, 758, 801, 844, 887, 930, 973, 1006, 1049, 1072, 1085, 1128, 1151, 1164, 1177, 1220], 140) := by decide +kernel
theorem dL_law_172 : decode cL_law 172 = .ok (.aload_n 1, 1) := by decide +kernel
theorem dL_law_173 : decode cL_law 173 = .ok (.aload_n 0, 1) := by decide +kernel
theorem dL_law_174 : decode cL_law 174 = .ok (.iload_n 3, 1) := by decide +kernel
theorem dL_law_175 : decode cL_law 175 = .ok (.iconst 1, 1) := by decide +kernel
theorem dL_law_176 : decode cL_law 176 = .ok (.iadd, 1) := by decide +kernel
theorem dL_law_177 : decode cL_law 177 = .ok (.iaload, 1) := by decide +kernel
theorem dL_law_178 : decode cL_law 178 = .ok (.aload_n 0, 1) := by decide +kernel
theorem dL_law_179 : decode cL_law 179 = .ok (.iload_n 3, 1) := by decide +kernel
theorem dL_law_180 : decode cL_law 180 = .ok (.iconst 2, 1) := by decide +kernel
theorem dL_law_181 : decode cL_law 181 = .ok (.iadd, 1) := by decide +kernel
theorem dL_law_182 : decode cL_law 182 = .ok (.iaload, 1) := by decide +kernel
theorem dL_law_183 : decode cL_law 183 = .ok (.aload_n 0, 1) := by decide +kernel
theorem dL_law_184 : decode cL_law 184 = .ok (.iload_n 3, 1) := by decide +kernel
theorem dL_law_185 : decode cL_law 185 = .ok (.iconst 3, 1) := by decide +kernel
theorem dL_law_186 : decode cL_law 186 = .ok (.iadd, 1) := by decide +kernel
theorem dL_law_187 : decode cL_law 187 = .ok (.iaload, 1) := by decide +kernel
theorem dL_law_188 : decode cL_law 188 = .ok (.invokevirtual 13, 3) := by decide +kernel
theorem dL_law_191 : decode cL_law 191 = .ok (.aload_n 2, 1) := by decide +kernel
theorem dL_law_192 : decode cL_law 192 = .ok (.aload_n 0, 1) := by decide +kernel
theorem dL_law_193 : decode cL_law 193 = .ok (.iload_n 3, 1) := by decide +kernel
theorem dL_law_194 : decode cL_law 194 = .ok (.iconst 1, 1) := by decide +kernel
theorem dL_law_195 : decode cL_law 195 = .ok (.iadd, 1) := by decide +kernel
theorem dL_law_196 : decode cL_law 196 = .ok (.iaload, 1) := by decide +kernel
theorem dL_law_197 : decode cL_law 197 = .ok (.aload_n 0, 1) := by decide +kernel
theorem dL_law_198 : decode cL_law 198 = .ok (.iload_n 3, 1) := by decide +kernel
theorem dL_law_199 : decode cL_law 199 = .ok (.iconst 2, 1) := by decide +kernel
theorem dL_law_200 : decode cL_law 200 = .ok (.iadd, 1) := by decide +kernel
theorem dL_law_201 : decode cL_law 201 = .ok (.iaload, 1) := by decide +kernel
theorem dL_law_202 : decode cL_law 202 = .ok (.aload_n 0, 1) := by decide +kernel
theorem dL_law_203 : decode cL_law 203 = .ok (.iload_n 3, 1) := by decide +kernel
theorem dL_law_204 : decode cL_law 204 = .ok (.iconst 3, 1) := by decide +kernel
theorem dL_law_205 : decode cL_law 205 = .ok (.iadd, 1) := by decide +kernel
theorem dL_law_206 : decode cL_law 206 = .ok (.iaload, 1) := by decide +kernel
theorem dL_law_207 : decode cL_law 207 = .ok (.invokevirtual 17, 3) := by decide +kernel
theorem dL_law_210 : decode cL_law 210 = .ok (.if_icmp .eq 1065, 3) := by decide +kernel
theorem dL_law_213 : decode cL_law 213 = .ok (.iconst 0, 1) := by decide +kernel
theorem dL_law_214 : decode cL_law 214 = .ok (.ireturn, 1) := by decide +kernel
theorem dL_law_215 : decode cL_law 215 = .ok (.aload_n 1, 1) := by decide +kernel
theorem dL_law_216 : decode cL_law 216 = .ok (.aload_n 0, 1) := by decide +kernel
theorem dL_law_217 : decode cL_law 217 = .ok (.iload_n 3, 1) := by decide +kernel
theorem dL_law_218 : decode cL_law 218 = .ok (.iconst 1, 1) := by decide +kernel
theorem dL_law_219 : decode cL_law 219 = .ok (.iadd, 1) := by decide +kernel
theorem dL_law_220 : decode cL_law 220 = .ok (.iaload, 1) := by decide +kernel
theorem dL_law_221 : decode cL_law 221 = .ok (.aload_n 0, 1) := by decide +kernel
theorem dL_law_222 : decode cL_law 222 = .ok (.iload_n 3, 1) := by decide +kernel
theorem dL_law_223 : decode cL_law 223 = .ok (.iconst 2, 1) := by decide +kernel
theorem dL_law_224 : decode cL_law 224 = .ok (.iadd, 1) := by decide +kernel
theorem dL_law_225 : decode cL_law 225 = .ok (.iaload, 1) := by decide +kernel
theorem dL_law_226 : decode cL_law 226 = .ok (.aload_n 0, 1) := by decide +kernel
theorem dL_law_227 : decode cL_law 227 = .ok (.iload_n 3, 1) := by decide +kernel
theorem dL_law_228 : decode cL_law 228 = .ok (.iconst 3, 1) := by decide +kernel
theorem dL_law_229 : decode cL_law 229 = .ok (.iadd, 1) := by decide +kernel
theorem dL_law_230 : decode cL_law 230 = .ok (.iaload, 1) := by decide +kernel
theorem dL_law_231 : decode cL_law 231 = .ok (.aload_n 0, 1) := by decide +kernel
theorem dL_law_232 : decode cL_law 232 = .ok (.iload_n 3, 1) := by decide +kernel
theorem dL_law_233 : decode cL_law 233 = .ok (.iconst 4, 1) := by decide +kernel
theorem dL_law_234 : decode cL_law 234 = .ok (.iadd, 1) := by decide +kernel
theorem dL_law_235 : decode cL_law 235 = .ok (.iaload, 1) := by decide +kernel
theorem dL_law_236 : decode cL_law 236 = .ok (.invokevirtual 18, 3) := by decide +kernel
theorem dL_law_239 : decode cL_law 239 = .ok (.aload_n 2, 1) := by decide +kernel
theorem dL_law_240 : decode cL_law 240 = .ok (.aload_n 0, 1) := by decide +kernel
theorem dL_law_241 : decode cL_law 241 = .ok (.iload_n 3, 1) := by decide +kernel
theorem dL_law_242 : decode cL_law 242 = .ok (.iconst 1, 1) := by decide +kernel
theorem dL_law_243 : decode cL_law 243 = .ok (.iadd, 1) := by decide +kernel
theorem dL_law_244 : decode cL_law 244 = .ok (.iaload, 1) := by decide +kernel
theorem dL_law_245 : decode cL_law 245 = .ok (.aload_n 0, 1) := by decide +kernel
theorem dL_law_246 : decode cL_law 246 = .ok (.iload_n 3, 1) := by decide +kernel
theorem dL_law_247 : decode cL_law 247 = .ok (.iconst 2, 1) := by decide +kernel
theorem dL_law_248 : decode cL_law 248 = .ok (.iadd, 1) := by decide +kernel
theorem dL_law_249 : decode cL_law 249 = .ok (.iaload, 1) := by decide +kernel
theorem dL_law_250 : decode cL_law 250 = .ok (.aload_n 0, 1) := by decide +kernel
theorem dL_law_251 : decode cL_law 251 = .ok (.iload_n 3, 1) := by decide +kernel
theorem dL_law_252 : decode cL_law 252 = .ok (.iconst 3, 1) := by decide +kernel
theorem dL_law_253 : decode cL_law 253 = .ok (.iadd, 1) := by decide +kernel
theorem dL_law_254 : decode cL_law 254 = .ok (.iaload, 1) := by decide +kernel
theorem dL_law_255 : decode cL_law 255 = .ok (.aload_n 0, 1) := by decide +kernel
theorem dL_law_256 : decode cL_law 256 = .ok (.iload_n 3, 1) := by decide +kernel
theorem dL_law_257 : decode cL_law 257 = .ok (.iconst 4, 1) := by decide +kernel
theorem dL_law_258 : decode cL_law 258 = .ok (.iadd, 1) := by decide +kernel
theorem dL_law_259 : decode cL_law 259 = .ok (.iaload, 1) := by decide +kernel
theorem dL_law_260 : decode cL_law 260 = .ok (.invokevirtual 22, 3) := by decide +kernel
theorem dL_law_263 : decode cL_law 263 = .ok (.if_icmp .eq 1012, 3) := by decide +kernel
theorem dL_law_266 : decode cL_law 266 = .ok (.iconst 0, 1) := by decide +kernel
theorem dL_law_267 : decode cL_law 267 = .ok (.ireturn, 1) := by decide +kernel
theorem dL_law_268 : decode cL_law 268 = .ok (.aload_n 1, 1) := by decide +kernel
theorem dL_law_269 : decode cL_law 269 = .ok (.aload_n 0, 1) := by decide +kernel
theorem dL_law_270 : decode cL_law 270 = .ok (.iload_n 3, 1) := by decide +kernel
theorem dL_law_271 : decode cL_law 271 = .ok (.iconst 1, 1) := by decide +kernel
theorem dL_law_272 : decode cL_law 272 = .ok (.iadd, 1) := by decide +kernel
theorem dL_law_273 : decode cL_law 273 = .ok (.iaload, 1) := by decide +kernel
theorem dL_law_274 : decode cL_law 274 = .ok (.aload_n 0, 1) := by decide +kernel
theorem dL_law_275 : decode cL_law 275 = .ok (.iload_n 3, 1) := by decide +kernel
theorem dL_law_276 : decode cL_law 276 = .ok (.iconst 2, 1) := by decide +kernel
theorem dL_law_277 : decode cL_law 277 = .ok (.iadd, 1) := by decide +kernel
theorem dL_law_278 : decode cL_law 278 = .ok (.iaload, 1) := by decide +kernel
theorem dL_law_279 : decode cL_law 279 = .ok (.invokevirtual 23, 3) := by decide +kernel
theorem dL_law_282 : decode cL_law 282 = .ok (.aload_n 2, 1) := by decide +kernel
theorem dL_law_283 : decode cL_law 283 = .ok (.aload_n 0, 1) := by decide +kernel
theorem dL_law_284 : decode cL_law 284 = .ok (.iload_n 3, 1) := by decide +kernel
theorem dL_law_285 : decode cL_law 285 = .ok (.iconst 1, 1) := by decide +kernel
theorem dL_law_286 : decode cL_law 286 = .ok (.iadd, 1) := by decide +kernel
theorem dL_law_287 : decode cL_law 287 = .ok (.iaload, 1) := by decide +kernel
theorem dL_law_288 : decode cL_law 288 = .ok (.aload_n 0, 1) := by decide +kernel
theorem dL_law_289 : decode cL_law 289 = .ok (.iload_n 3, 1) := by decide +kernel
theorem dL_law_290 : decode cL_law 290 = .ok (.iconst 2, 1) := by decide +kernel
theorem dL_law_291 : decode cL_law 291 = .ok (.iadd, 1) := by decide +kernel
theorem dL_law_292 : decode cL_law 292 = .ok (.iaload, 1) := by decide +kernel
theorem dL_law_293 : decode cL_law 293 = .ok (.invokevirtual 27, 3) := by decide +kernel
theorem dL_law_296 : decode cL_law 296 = .ok (.if_icmp .eq 979, 3) := by decide +kernel
theorem dL_law_299 : decode cL_law 299 = .ok (.iconst 0, 1) := by decide +kernel
theorem dL_law_300 : decode cL_law 300 = .ok (.ireturn, 1) := by decide +kernel
theorem dL_law_301 : decode cL_law 301 = .ok (.aload_n 1, 1) := by decide +kernel
theorem dL_law_302 : decode cL_law 302 = .ok (.aload_n 0, 1) := by decide +kernel
theorem dL_law_303 : decode cL_law 303 = .ok (.iload_n 3, 1) := by decide +kernel
theorem dL_law_304 : decode cL_law 304 = .ok (.iconst 1, 1) := by decide +kernel
theorem dL_law_305 : decode cL_law 305 = .ok (.iadd, 1) := by decide +kernel
theorem dL_law_306 : decode cL_law 306 = .ok (.iaload, 1) := by decide +kernel
theorem dL_law_307 : decode cL_law 307 = .ok (.aload_n 0, 1) := by decide +kernel
theorem dL_law_308 : decode cL_law 308 = .ok (.iload_n 3, 1) := by decide +kernel
theorem dL_law_309 : decode cL_law 309 = .ok (.iconst 2, 1) := by decide +kernel
theorem dL_law_310 : decode cL_law 310 = .ok (.iadd, 1) := by decide +kernel
theorem dL_law_311 : decode cL_law 311 = .ok (.iaload, 1) := by decide +kernel
