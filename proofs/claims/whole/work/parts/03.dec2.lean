theorem dX9_sumUp_48 : decode cX9_sumUp 48 = .ok (.iload_n 3, 1) := by decide +kernel
theorem dX9_sumUp_49 : decode cX9_sumUp 49 = .ok (.aaload, 1) := by decide +kernel
theorem dX9_sumUp_50 : decode cX9_sumUp 50 = .ok (.iload 4, 2) := by decide +kernel
theorem dX9_sumUp_52 : decode cX9_sumUp 52 = .ok (.iaload, 1) := by decide +kernel
theorem dX9_sumUp_53 : decode cX9_sumUp 53 = .ok (.imul, 1) := by decide +kernel
theorem dX9_sumUp_54 : decode cX9_sumUp 54 = .ok (.iadd, 1) := by decide +kernel
theorem dX9_sumUp_55 : decode cX9_sumUp 55 = .ok (.iastore, 1) := by decide +kernel
theorem dX9_sumUp_56 : decode cX9_sumUp 56 = .ok (.aload_n 0, 1) := by decide +kernel
theorem dX9_sumUp_57 : decode cX9_sumUp 57 = .ok (.getfield 39, 3) := by decide +kernel
theorem dX9_sumUp_60 : decode cX9_sumUp 60 = .ok (.iload_n 1, 1) := by decide +kernel
theorem dX9_sumUp_61 : decode cX9_sumUp 61 = .ok (.iconst 1, 1) := by decide +kernel
theorem dX9_sumUp_62 : decode cX9_sumUp 62 = .ok (.iadd, 1) := by decide +kernel
theorem dX9_sumUp_63 : decode cX9_sumUp 63 = .ok (.aaload, 1) := by decide +kernel
theorem dX9_sumUp_64 : decode cX9_sumUp 64 = .ok (.iload 4, 2) := by decide +kernel
theorem dX9_sumUp_66 : decode cX9_sumUp 66 = .ok (.aload_n 0, 1) := by decide +kernel
theorem dX9_sumUp_67 : decode cX9_sumUp 67 = .ok (.getfield 39, 3) := by decide +kernel
theorem dX9_sumUp_70 : decode cX9_sumUp 70 = .ok (.iload_n 1, 1) := by decide +kernel
theorem dX9_sumUp_71 : decode cX9_sumUp 71 = .ok (.aaload, 1) := by decide +kernel
theorem dX9_sumUp_72 : decode cX9_sumUp 72 = .ok (.iload 4, 2) := by decide +kernel
theorem dX9_sumUp_74 : decode cX9_sumUp 74 = .ok (.iaload, 1) := by decide +kernel
theorem dX9_sumUp_75 : decode cX9_sumUp 75 = .ok (.iload_n 2, 1) := by decide +kernel
theorem dX9_sumUp_76 : decode cX9_sumUp 76 = .ok (.aload_n 0, 1) := by decide +kernel
theorem dX9_sumUp_77 : decode cX9_sumUp 77 = .ok (.getfield 23, 3) := by decide +kernel
theorem dX9_sumUp_80 : decode cX9_sumUp 80 = .ok (.iload_n 3, 1) := by decide +kernel
theorem dX9_sumUp_81 : decode cX9_sumUp 81 = .ok (.aaload, 1) := by decide +kernel
theorem dX9_sumUp_82 : decode cX9_sumUp 82 = .ok (.iload 4, 2) := by decide +kernel
theorem dX9_sumUp_84 : decode cX9_sumUp 84 = .ok (.iaload, 1) := by decide +kernel
theorem dX9_sumUp_85 : decode cX9_sumUp 85 = .ok (.imul, 1) := by decide +kernel
theorem dX9_sumUp_86 : decode cX9_sumUp 86 = .ok (.iadd, 1) := by decide +kernel
theorem dX9_sumUp_87 : decode cX9_sumUp 87 = .ok (.iastore, 1) := by decide +kernel
theorem dX9_sumUp_88 : decode cX9_sumUp 88 = .ok (.iinc 4 1, 3) := by decide +kernel
theorem dX9_sumUp_91 : decode cX9_sumUp 91 = .ok (.goto (-74), 3) := by decide +kernel
theorem dX9_sumUp_94 : decode cX9_sumUp 94 = .ok (.return_, 1) := by decide +kernel
theorem dX9_bySight_0 : decode cX9_bySight 0 = .ok (.aload_n 0, 1) := by decide +kernel
theorem dX9_bySight_1 : decode cX9_bySight 1 = .ok (.getfield 33, 3) := by decide +kernel
theorem dX9_bySight_4 : decode cX9_bySight 4 = .ok (.aload_n 0, 1) := by decide +kernel
theorem dX9_bySight_5 : decode cX9_bySight 5 = .ok (.getfield 42, 3) := by decide +kernel
theorem dX9_bySight_8 : decode cX9_bySight 8 = .ok (.iaload, 1) := by decide +kernel
theorem dX9_bySight_9 : decode cX9_bySight 9 = .ok (.istore_n 3, 1) := by decide +kernel
theorem dX9_bySight_10 : decode cX9_bySight 10 = .ok (.aload_n 0, 1) := by decide +kernel
theorem dX9_bySight_11 : decode cX9_bySight 11 = .ok (.getfield 30, 3) := by decide +kernel
theorem dX9_bySight_14 : decode cX9_bySight 14 = .ok (.aload_n 0, 1) := by decide +kernel
theorem dX9_bySight_15 : decode cX9_bySight 15 = .ok (.getfield 42, 3) := by decide +kernel
theorem dX9_bySight_18 : decode cX9_bySight 18 = .ok (.iaload, 1) := by decide +kernel
theorem dX9_bySight_19 : decode cX9_bySight 19 = .ok (.istore 4, 2) := by decide +kernel
theorem dX9_bySight_21 : decode cX9_bySight 21 = .ok (.iconst 0, 1) := by decide +kernel
theorem dX9_bySight_22 : decode cX9_bySight 22 = .ok (.istore 5, 2) := by decide +kernel
theorem dX9_bySight_24 : decode cX9_bySight 24 = .ok (.iload 5, 2) := by decide +kernel
theorem dX9_bySight_26 : decode cX9_bySight 26 = .ok (.bipush 8, 2) := by decide +kernel
theorem dX9_bySight_28 : decode cX9_bySight 28 = .ok (.if_icmp .ge 91, 3) := by decide +kernel
theorem dX9_bySight_31 : decode cX9_bySight 31 = .ok (.aload_n 0, 1) := by decide +kernel
theorem dX9_bySight_32 : decode cX9_bySight 32 = .ok (.getfield 45, 3) := by decide +kernel
theorem dX9_bySight_35 : decode cX9_bySight 35 = .ok (.iload 5, 2) := by decide +kernel
theorem dX9_bySight_37 : decode cX9_bySight 37 = .ok (.iaload, 1) := by decide +kernel
theorem dX9_bySight_38 : decode cX9_bySight 38 = .ok (.ifCond .ge 75, 3) := by decide +kernel
theorem dX9_bySight_41 : decode cX9_bySight 41 = .ok (.aload_n 1, 1) := by decide +kernel
theorem dX9_bySight_42 : decode cX9_bySight 42 = .ok (.getfield 89, 3) := by decide +kernel
theorem dX9_bySight_45 : decode cX9_bySight 45 = .ok (.iload_n 2, 1) := by decide +kernel
theorem dX9_bySight_46 : decode cX9_bySight 46 = .ok (.aaload, 1) := by decide +kernel
theorem dX9_bySight_47 : decode cX9_bySight 47 = .ok (.iload 5, 2) := by decide +kernel
theorem dX9_bySight_49 : decode cX9_bySight 49 = .ok (.iaload, 1) := by decide +kernel
theorem dX9_bySight_50 : decode cX9_bySight 50 = .ok (.ifCond .le 63, 3) := by decide +kernel
theorem dX9_bySight_53 : decode cX9_bySight 53 = .ok (.aload_n 0, 1) := by decide +kernel
theorem dX9_bySight_54 : decode cX9_bySight 54 = .ok (.getfield 45, 3) := by decide +kernel
theorem dX9_bySight_57 : decode cX9_bySight 57 = .ok (.iload 5, 2) := by decide +kernel
theorem dX9_bySight_59 : decode cX9_bySight 59 = .ok (.aload_n 0, 1) := by decide +kernel
theorem dX9_bySight_60 : decode cX9_bySight 60 = .ok (.getfield 36, 3) := by decide +kernel
theorem dX9_bySight_63 : decode cX9_bySight 63 = .ok (.aload_n 0, 1) := by decide +kernel
theorem dX9_bySight_64 : decode cX9_bySight 64 = .ok (.getfield 42, 3) := by decide +kernel
theorem dX9_bySight_67 : decode cX9_bySight 67 = .ok (.aaload, 1) := by decide +kernel
theorem dX9_bySight_68 : decode cX9_bySight 68 = .ok (.iload 5, 2) := by decide +kernel
theorem dX9_bySight_70 : decode cX9_bySight 70 = .ok (.iaload, 1) := by decide +kernel
theorem dX9_bySight_71 : decode cX9_bySight 71 = .ok (.iload_n 3, 1) := by decide +kernel
theorem dX9_bySight_72 : decode cX9_bySight 72 = .ok (.aload_n 0, 1) := by decide +kernel
theorem dX9_bySight_73 : decode cX9_bySight 73 = .ok (.getfield 20, 3) := by decide +kernel
theorem dX9_bySight_76 : decode cX9_bySight 76 = .ok (.iload 4, 2) := by decide +kernel
theorem dX9_bySight_78 : decode cX9_bySight 78 = .ok (.aaload, 1) := by decide +kernel
theorem dX9_bySight_79 : decode cX9_bySight 79 = .ok (.iload 5, 2) := by decide +kernel
theorem dX9_bySight_81 : decode cX9_bySight 81 = .ok (.iaload, 1) := by decide +kernel
theorem dX9_bySight_82 : decode cX9_bySight 82 = .ok (.imul, 1) := by decide +kernel
theorem dX9_bySight_83 : decode cX9_bySight 83 = .ok (.iadd, 1) := by decide +kernel
theorem dX9_bySight_84 : decode cX9_bySight 84 = .ok (.aload_n 0, 1) := by decide +kernel
theorem dX9_bySight_85 : decode cX9_bySight 85 = .ok (.getfield 39, 3) := by decide +kernel
theorem dX9_bySight_88 : decode cX9_bySight 88 = .ok (.aload_n 0, 1) := by decide +kernel
theorem dX9_bySight_89 : decode cX9_bySight 89 = .ok (.getfield 42, 3) := by decide +kernel
theorem dX9_bySight_92 : decode cX9_bySight 92 = .ok (.aaload, 1) := by decide +kernel
theorem dX9_bySight_93 : decode cX9_bySight 93 = .ok (.iload 5, 2) := by decide +kernel
theorem dX9_bySight_95 : decode cX9_bySight 95 = .ok (.iaload, 1) := by decide +kernel
theorem dX9_bySight_96 : decode cX9_bySight 96 = .ok (.iload_n 3, 1) := by decide +kernel
theorem dX9_bySight_97 : decode cX9_bySight 97 = .ok (.aload_n 0, 1) := by decide +kernel
theorem dX9_bySight_98 : decode cX9_bySight 98 = .ok (.getfield 23, 3) := by decide +kernel
theorem dX9_bySight_101 : decode cX9_bySight 101 = .ok (.iload 4, 2) := by decide +kernel
theorem dX9_bySight_103 : decode cX9_bySight 103 = .ok (.aaload, 1) := by decide +kernel
theorem dX9_bySight_104 : decode cX9_bySight 104 = .ok (.iload 5, 2) := by decide +kernel
theorem dX9_bySight_106 : decode cX9_bySight 106 = .ok (.iaload, 1) := by decide +kernel
theorem dX9_bySight_107 : decode cX9_bySight 107 = .ok (.imul, 1) := by decide +kernel
theorem dX9_bySight_108 : decode cX9_bySight 108 = .ok (.iadd, 1) := by decide +kernel
theorem dX9_bySight_109 : decode cX9_bySight 109 = .ok (.invokestatic 94, 3) := by decide +kernel
theorem dX9_bySight_112 : decode cX9_bySight 112 = .ok (.iastore, 1) := by decide +kernel
theorem dX9_bySight_113 : decode cX9_bySight 113 = .ok (.iinc 5 1, 3) := by decide +kernel
theorem dX9_bySight_116 : decode cX9_bySight 116 = .ok (.goto (-92), 3) := by decide +kernel
theorem dX9_bySight_119 : decode cX9_bySight 119 = .ok (.aload_n 1, 1) := by decide +kernel
theorem dX9_bySight_120 : decode cX9_bySight 120 = .ok (.iload_n 2, 1) := by decide +kernel
theorem dX9_bySight_121 : decode cX9_bySight 121 = .ok (.aload_n 0, 1) := by decide +kernel
theorem dX9_bySight_122 : decode cX9_bySight 122 = .ok (.getfield 45, 3) := by decide +kernel
theorem dX9_bySight_125 : decode cX9_bySight 125 = .ok (.invokevirtual 99, 3) := by decide +kernel
theorem dX9_bySight_128 : decode cX9_bySight 128 = .ok (.ireturn, 1) := by decide +kernel
theorem dX9_tubesUsed_0 : decode cX9_tubesUsed 0 = .ok (.iconst 0, 1) := by decide +kernel
theorem dX9_tubesUsed_1 : decode cX9_tubesUsed 1 = .ok (.istore_n 1, 1) := by decide +kernel
theorem dX9_tubesUsed_2 : decode cX9_tubesUsed 2 = .ok (.iconst 0, 1) := by decide +kernel
theorem dX9_tubesUsed_3 : decode cX9_tubesUsed 3 = .ok (.istore_n 2, 1) := by decide +kernel
theorem dX9_tubesUsed_4 : decode cX9_tubesUsed 4 = .ok (.iload_n 2, 1) := by decide +kernel
theorem dX9_tubesUsed_5 : decode cX9_tubesUsed 5 = .ok (.aload_n 0, 1) := by decide +kernel
theorem dX9_tubesUsed_6 : decode cX9_tubesUsed 6 = .ok (.getfield 42, 3) := by decide +kernel
theorem dX9_tubesUsed_9 : decode cX9_tubesUsed 9 = .ok (.if_icmp .gt 25, 3) := by decide +kernel
theorem dX9_tubesUsed_12 : decode cX9_tubesUsed 12 = .ok (.iload_n 1, 1) := by decide +kernel
theorem dX9_tubesUsed_13 : decode cX9_tubesUsed 13 = .ok (.iconst 1, 1) := by decide +kernel
theorem dX9_tubesUsed_14 : decode cX9_tubesUsed 14 = .ok (.aload_n 0, 1) := by decide +kernel
theorem dX9_tubesUsed_15 : decode cX9_tubesUsed 15 = .ok (.getfield 9, 3) := by decide +kernel
theorem dX9_tubesUsed_18 : decode cX9_tubesUsed 18 = .ok (.aload_n 0, 1) := by decide +kernel
theorem dX9_tubesUsed_19 : decode cX9_tubesUsed 19 = .ok (.getfield 30, 3) := by decide +kernel
theorem dX9_tubesUsed_22 : decode cX9_tubesUsed 22 = .ok (.iload_n 2, 1) := by decide +kernel
theorem dX9_tubesUsed_23 : decode cX9_tubesUsed 23 = .ok (.iaload, 1) := by decide +kernel
theorem dX9_tubesUsed_24 : decode cX9_tubesUsed 24 = .ok (.iaload, 1) := by decide +kernel
theorem dX9_tubesUsed_25 : decode cX9_tubesUsed 25 = .ok (.ishl, 1) := by decide +kernel
theorem dX9_tubesUsed_26 : decode cX9_tubesUsed 26 = .ok (.ior, 1) := by decide +kernel
theorem dX9_tubesUsed_27 : decode cX9_tubesUsed 27 = .ok (.istore_n 1, 1) := by decide +kernel
theorem dX9_tubesUsed_28 : decode cX9_tubesUsed 28 = .ok (.iinc 2 1, 3) := by decide +kernel
theorem dX9_tubesUsed_31 : decode cX9_tubesUsed 31 = .ok (.goto (-27), 3) := by decide +kernel
theorem dX9_tubesUsed_34 : decode cX9_tubesUsed 34 = .ok (.iload_n 1, 1) := by decide +kernel
theorem dX9_tubesUsed_35 : decode cX9_tubesUsed 35 = .ok (.ireturn, 1) := by decide +kernel
theorem dX9_cost_0 : decode cX9_cost 0 = .ok (.iconst 0, 1) := by decide +kernel
theorem dX9_cost_1 : decode cX9_cost 1 = .ok (.istore_n 1, 1) := by decide +kernel
theorem dX9_cost_2 : decode cX9_cost 2 = .ok (.iconst 0, 1) := by decide +kernel
theorem dX9_cost_3 : decode cX9_cost 3 = .ok (.istore_n 2, 1) := by decide +kernel
theorem dX9_cost_4 : decode cX9_cost 4 = .ok (.iload_n 2, 1) := by decide +kernel
theorem dX9_cost_5 : decode cX9_cost 5 = .ok (.aload_n 0, 1) := by decide +kernel
theorem dX9_cost_6 : decode cX9_cost 6 = .ok (.getfield 42, 3) := by decide +kernel
theorem dX9_cost_9 : decode cX9_cost 9 = .ok (.if_icmp .gt 30, 3) := by decide +kernel
theorem dX9_cost_12 : decode cX9_cost 12 = .ok (.iload_n 1, 1) := by decide +kernel
theorem dX9_cost_13 : decode cX9_cost 13 = .ok (.aload_n 0, 1) := by decide +kernel
theorem dX9_cost_14 : decode cX9_cost 14 = .ok (.getfield 33, 3) := by decide +kernel
theorem dX9_cost_17 : decode cX9_cost 17 = .ok (.iload_n 2, 1) := by decide +kernel
theorem dX9_cost_18 : decode cX9_cost 18 = .ok (.iaload, 1) := by decide +kernel
theorem dX9_cost_19 : decode cX9_cost 19 = .ok (.aload_n 0, 1) := by decide +kernel
theorem dX9_cost_20 : decode cX9_cost 20 = .ok (.getfield 15, 3) := by decide +kernel
theorem dX9_cost_23 : decode cX9_cost 23 = .ok (.aload_n 0, 1) := by decide +kernel
theorem dX9_cost_24 : decode cX9_cost 24 = .ok (.getfield 30, 3) := by decide +kernel
theorem dX9_cost_27 : decode cX9_cost 27 = .ok (.iload_n 2, 1) := by decide +kernel
theorem dX9_cost_28 : decode cX9_cost 28 = .ok (.iaload, 1) := by decide +kernel
theorem dX9_cost_29 : decode cX9_cost 29 = .ok (.iaload, 1) := by decide +kernel
theorem dX9_cost_30 : decode cX9_cost 30 = .ok (.imul, 1) := by decide +kernel
theorem dX9_cost_31 : decode cX9_cost 31 = .ok (.iadd, 1) := by decide +kernel
theorem dX9_cost_32 : decode cX9_cost 32 = .ok (.istore_n 1, 1) := by decide +kernel
theorem dX9_cost_33 : decode cX9_cost 33 = .ok (.iinc 2 1, 3) := by decide +kernel
theorem dX9_cost_36 : decode cX9_cost 36 = .ok (.goto (-32), 3) := by decide +kernel
theorem dX9_cost_39 : decode cX9_cost 39 = .ok (.iload_n 1, 1) := by decide +kernel
theorem dX9_cost_40 : decode cX9_cost 40 = .ok (.ireturn, 1) := by decide +kernel
theorem dX9_writeDrops_0 : decode cX9_writeDrops 0 = .ok (.aload_n 1, 1) := by decide +kernel
theorem dX9_writeDrops_1 : decode cX9_writeDrops 1 = .ok (.iconst 0, 1) := by decide +kernel
theorem dX9_writeDrops_2 : decode cX9_writeDrops 2 = .ok (.invokestatic 75, 3) := by decide +kernel
theorem dX9_writeDrops_5 : decode cX9_writeDrops 5 = .ok (.iconst 0, 1) := by decide +kernel
theorem dX9_writeDrops_6 : decode cX9_writeDrops 6 = .ok (.istore_n 2, 1) := by decide +kernel
theorem dX9_writeDrops_7 : decode cX9_writeDrops 7 = .ok (.iload_n 2, 1) := by decide +kernel
theorem dX9_writeDrops_8 : decode cX9_writeDrops 8 = .ok (.aload_n 0, 1) := by decide +kernel
theorem dX9_writeDrops_9 : decode cX9_writeDrops 9 = .ok (.getfield 42, 3) := by decide +kernel
theorem dX9_writeDrops_12 : decode cX9_writeDrops 12 = .ok (.if_icmp .gt 28, 3) := by decide +kernel
theorem dX9_writeDrops_15 : decode cX9_writeDrops 15 = .ok (.aload_n 1, 1) := by decide +kernel
theorem dX9_writeDrops_16 : decode cX9_writeDrops 16 = .ok (.aload_n 0, 1) := by decide +kernel
theorem dX9_writeDrops_17 : decode cX9_writeDrops 17 = .ok (.getfield 9, 3) := by decide +kernel
theorem dX9_writeDrops_20 : decode cX9_writeDrops 20 = .ok (.aload_n 0, 1) := by decide +kernel
theorem dX9_writeDrops_21 : decode cX9_writeDrops 21 = .ok (.getfield 30, 3) := by decide +kernel
theorem dX9_writeDrops_24 : decode cX9_writeDrops 24 = .ok (.iload_n 2, 1) := by decide +kernel
theorem dX9_writeDrops_25 : decode cX9_writeDrops 25 = .ok (.iaload, 1) := by decide +kernel
theorem dX9_writeDrops_26 : decode cX9_writeDrops 26 = .ok (.iaload, 1) := by decide +kernel
theorem dX9_writeDrops_27 : decode cX9_writeDrops 27 = .ok (.aload_n 0, 1) := by decide +kernel
theorem dX9_writeDrops_28 : decode cX9_writeDrops 28 = .ok (.getfield 33, 3) := by decide +kernel
theorem dX9_writeDrops_31 : decode cX9_writeDrops 31 = .ok (.iload_n 2, 1) := by decide +kernel
theorem dX9_writeDrops_32 : decode cX9_writeDrops 32 = .ok (.iaload, 1) := by decide +kernel
theorem dX9_writeDrops_33 : decode cX9_writeDrops 33 = .ok (.iastore, 1) := by decide +kernel
theorem dX9_writeDrops_34 : decode cX9_writeDrops 34 = .ok (.iinc 2 1, 3) := by decide +kernel
theorem dX9_writeDrops_37 : decode cX9_writeDrops 37 = .ok (.goto (-30), 3) := by decide +kernel
theorem dX9_writeDrops_40 : decode cX9_writeDrops 40 = .ok (.return_, 1) := by decide +kernel
theorem dX10_init_0 : decode cX10_init 0 = .ok (.aload_n 0, 1) := by decide +kernel
theorem dX10_init_1 : decode cX10_init 1 = .ok (.invokespecial 3, 3) := by decide +kernel
theorem dX10_init_4 : decode cX10_init 4 = .ok (.aload_n 0, 1) := by decide +kernel
theorem dX10_init_5 : decode cX10_init 5 = .ok (.iconst 0, 1) := by decide +kernel
theorem dX10_init_6 : decode cX10_init 6 = .ok (.putfield 9, 3) := by decide +kernel
theorem dX10_init_9 : decode cX10_init 9 = .ok (.aload_n 0, 1) := by decide +kernel
theorem dX10_init_10 : decode cX10_init 10 = .ok (.iconst 0, 1) := by decide +kernel
theorem dX10_init_11 : decode cX10_init 11 = .ok (.putfield 15, 3) := by decide +kernel
theorem dX10_init_14 : decode cX10_init 14 = .ok (.aload_n 0, 1) := by decide +kernel
theorem dX10_init_15 : decode cX10_init 15 = .ok (.sipush 800, 3) := by decide +kernel
theorem dX10_init_18 : decode cX10_init 18 = .ok (.newarray .int, 2) := by decide +kernel
theorem dX10_init_20 : decode cX10_init 20 = .ok (.putfield 18, 3) := by decide +kernel
theorem dX10_init_23 : decode cX10_init 23 = .ok (.aload_n 0, 1) := by decide +kernel
theorem dX10_init_24 : decode cX10_init 24 = .ok (.bipush 8, 2) := by decide +kernel
theorem dX10_init_26 : decode cX10_init 26 = .ok (.newarray .int, 2) := by decide +kernel
theorem dX10_init_28 : decode cX10_init 28 = .ok (.putfield 22, 3) := by decide +kernel
theorem dX10_init_31 : decode cX10_init 31 = .ok (.aload_n 0, 1) := by decide +kernel
theorem dX10_init_32 : decode cX10_init 32 = .ok (.iload_n 1, 1) := by decide +kernel
theorem dX10_init_33 : decode cX10_init 33 = .ok (.putfield 25, 3) := by decide +kernel
theorem dX10_init_36 : decode cX10_init 36 = .ok (.aload_n 0, 1) := by decide +kernel
theorem dX10_init_37 : decode cX10_init 37 = .ok (.iload_n 2, 1) := by decide +kernel
theorem dX10_init_38 : decode cX10_init 38 = .ok (.putfield 28, 3) := by decide +kernel
theorem dX10_init_41 : decode cX10_init 41 = .ok (.aload_n 0, 1) := by decide +kernel
theorem dX10_init_42 : decode cX10_init 42 = .ok (.iload_n 3, 1) := by decide +kernel
theorem dX10_init_43 : decode cX10_init 43 = .ok (.putfield 31, 3) := by decide +kernel
theorem dX10_init_46 : decode cX10_init 46 = .ok (.iconst 0, 1) := by decide +kernel
theorem dX10_init_47 : decode cX10_init 47 = .ok (.istore 4, 2) := by decide +kernel
theorem dX10_init_49 : decode cX10_init 49 = .ok (.iload 4, 2) := by decide +kernel
theorem dX10_init_51 : decode cX10_init 51 = .ok (.bipush 8, 2) := by decide +kernel
theorem dX10_init_53 : decode cX10_init 53 = .ok (.if_icmp .ge 19, 3) := by decide +kernel
theorem dX10_init_56 : decode cX10_init 56 = .ok (.aload_n 0, 1) := by decide +kernel
theorem dX10_init_57 : decode cX10_init 57 = .ok (.iload 4, 2) := by decide +kernel
theorem dX10_init_59 : decode cX10_init 59 = .ok (.bipush 100, 2) := by decide +kernel
theorem dX10_init_61 : decode cX10_init 61 = .ok (.bipush 100, 2) := by decide +kernel
theorem dX10_init_63 : decode cX10_init 63 = .ok (.invokevirtual 34, 3) := by decide +kernel
theorem dX10_init_66 : decode cX10_init 66 = .ok (.iinc 4 1, 3) := by decide +kernel
theorem dX10_init_69 : decode cX10_init 69 = .ok (.goto (-20), 3) := by decide +kernel
theorem dX10_init_72 : decode cX10_init 72 = .ok (.return_, 1) := by decide +kernel
theorem dX10_paint_0 : decode cX10_paint 0 = .ok (.aload_n 0, 1) := by decide +kernel
theorem dX10_paint_1 : decode cX10_paint 1 = .ok (.getfield 22, 3) := by decide +kernel
theorem dX10_paint_4 : decode cX10_paint 4 = .ok (.iload_n 1, 1) := by decide +kernel
theorem dX10_paint_5 : decode cX10_paint 5 = .ok (.iload_n 3, 1) := by decide +kernel
theorem dX10_paint_6 : decode cX10_paint 6 = .ok (.iastore, 1) := by decide +kernel
theorem dX10_paint_7 : decode cX10_paint 7 = .ok (.iload_n 2, 1) := by decide +kernel
theorem dX10_paint_8 : decode cX10_paint 8 = .ok (.istore 4, 2) := by decide +kernel
theorem dX10_paint_10 : decode cX10_paint 10 = .ok (.iconst 0, 1) := by decide +kernel
theorem dX10_paint_11 : decode cX10_paint 11 = .ok (.istore 5, 2) := by decide +kernel
theorem dX10_paint_13 : decode cX10_paint 13 = .ok (.iload 5, 2) := by decide +kernel
theorem dX10_paint_15 : decode cX10_paint 15 = .ok (.bipush 100, 2) := by decide +kernel
theorem dX10_paint_17 : decode cX10_paint 17 = .ok (.if_icmp .ge 40, 3) := by decide +kernel
theorem dX10_paint_20 : decode cX10_paint 20 = .ok (.aload_n 0, 1) := by decide +kernel
theorem dX10_paint_21 : decode cX10_paint 21 = .ok (.getfield 18, 3) := by decide +kernel
theorem dX10_paint_24 : decode cX10_paint 24 = .ok (.iload_n 1, 1) := by decide +kernel
theorem dX10_paint_25 : decode cX10_paint 25 = .ok (.bipush 100, 2) := by decide +kernel
theorem dX10_paint_27 : decode cX10_paint 27 = .ok (.imul, 1) := by decide +kernel
theorem dX10_paint_28 : decode cX10_paint 28 = .ok (.iload 5, 2) := by decide +kernel
theorem dX10_paint_30 : decode cX10_paint 30 = .ok (.iadd, 1) := by decide +kernel
theorem dX10_paint_31 : decode cX10_paint 31 = .ok (.iload 4, 2) := by decide +kernel
theorem dX10_paint_33 : decode cX10_paint 33 = .ok (.iastore, 1) := by decide +kernel
theorem dX10_paint_34 : decode cX10_paint 34 = .ok (.iload 4, 2) := by decide +kernel
theorem dX10_paint_36 : decode cX10_paint 36 = .ok (.sipush 1000, 3) := by decide +kernel
theorem dX10_paint_39 : decode cX10_paint 39 = .ok (.aload_n 0, 1) := by decide +kernel
theorem dX10_paint_40 : decode cX10_paint 40 = .ok (.getfield 28, 3) := by decide +kernel
theorem dX10_paint_43 : decode cX10_paint 43 = .ok (.isub, 1) := by decide +kernel
theorem dX10_paint_44 : decode cX10_paint 44 = .ok (.imul, 1) := by decide +kernel
theorem dX10_paint_45 : decode cX10_paint 45 = .ok (.sipush 1000, 3) := by decide +kernel
theorem dX10_paint_48 : decode cX10_paint 48 = .ok (.idiv, 1) := by decide +kernel
theorem dX10_paint_49 : decode cX10_paint 49 = .ok (.istore 4, 2) := by decide +kernel
theorem dX10_paint_51 : decode cX10_paint 51 = .ok (.iinc 5 1, 3) := by decide +kernel
theorem dX10_paint_54 : decode cX10_paint 54 = .ok (.goto (-41), 3) := by decide +kernel
theorem dX10_paint_57 : decode cX10_paint 57 = .ok (.return_, 1) := by decide +kernel
theorem dX10_drinkAfter_0 : decode cX10_drinkAfter 0 = .ok (.aload_n 0, 1) := by decide +kernel
theorem dX10_drinkAfter_1 : decode cX10_drinkAfter 1 = .ok (.getfield 18, 3) := by decide +kernel
theorem dX10_drinkAfter_4 : decode cX10_drinkAfter 4 = .ok (.iload_n 1, 1) := by decide +kernel
theorem dX10_drinkAfter_5 : decode cX10_drinkAfter 5 = .ok (.bipush 100, 2) := by decide +kernel
theorem dX10_drinkAfter_7 : decode cX10_drinkAfter 7 = .ok (.imul, 1) := by decide +kernel
theorem dX10_drinkAfter_8 : decode cX10_drinkAfter 8 = .ok (.iload_n 2, 1) := by decide +kernel
theorem dX10_drinkAfter_9 : decode cX10_drinkAfter 9 = .ok (.iadd, 1) := by decide +kernel
theorem dX10_drinkAfter_10 : decode cX10_drinkAfter 10 = .ok (.iaload, 1) := by decide +kernel
theorem dX10_drinkAfter_11 : decode cX10_drinkAfter 11 = .ok (.ireturn, 1) := by decide +kernel
theorem dX10_scatterOf_0 : decode cX10_scatterOf 0 = .ok (.aload_n 0, 1) := by decide +kernel
theorem dX10_scatterOf_1 : decode cX10_scatterOf 1 = .ok (.getfield 22, 3) := by decide +kernel
theorem dX10_scatterOf_4 : decode cX10_scatterOf 4 = .ok (.iload_n 1, 1) := by decide +kernel
theorem dX10_scatterOf_5 : decode cX10_scatterOf 5 = .ok (.iaload, 1) := by decide +kernel
theorem dX10_scatterOf_6 : decode cX10_scatterOf 6 = .ok (.ireturn, 1) := by decide +kernel
theorem dX11_init_0 : decode cX11_init 0 = .ok (.aload_n 0, 1) := by decide +kernel
theorem dX11_init_1 : decode cX11_init 1 = .ok (.invokespecial 3, 3) := by decide +kernel
theorem dX11_init_4 : decode cX11_init 4 = .ok (.aload_n 0, 1) := by decide +kernel
theorem dX11_init_5 : decode cX11_init 5 = .ok (.new 9, 3) := by decide +kernel
theorem dX11_init_8 : decode cX11_init 8 = .ok (.dup, 1) := by decide +kernel
theorem dX11_init_9 : decode cX11_init 9 = .ok (.invokespecial 11, 3) := by decide +kernel
theorem dX11_init_12 : decode cX11_init 12 = .ok (.putfield 12, 3) := by decide +kernel
theorem dX11_init_15 : decode cX11_init 15 = .ok (.aload_n 0, 1) := by decide +kernel
theorem dX11_init_16 : decode cX11_init 16 = .ok (.new 16, 3) := by decide +kernel
theorem dX11_init_19 : decode cX11_init 19 = .ok (.dup, 1) := by decide +kernel
theorem dX11_init_20 : decode cX11_init 20 = .ok (.invokespecial 18, 3) := by decide +kernel
theorem dX11_init_23 : decode cX11_init 23 = .ok (.putfield 19, 3) := by decide +kernel
theorem dX11_init_26 : decode cX11_init 26 = .ok (.aload_n 0, 1) := by decide +kernel
theorem dX11_init_27 : decode cX11_init 27 = .ok (.bipush 10, 2) := by decide +kernel
theorem dX11_init_29 : decode cX11_init 29 = .ok (.anewarray 23, 3) := by decide +kernel
theorem dX11_init_32 : decode cX11_init 32 = .ok (.putfield 25, 3) := by decide +kernel
theorem dX11_init_35 : decode cX11_init 35 = .ok (.aload_n 0, 1) := by decide +kernel
theorem dX11_init_36 : decode cX11_init 36 = .ok (.bipush 10, 2) := by decide +kernel
theorem dX11_init_38 : decode cX11_init 38 = .ok (.anewarray 29, 3) := by decide +kernel
theorem dX11_init_41 : decode cX11_init 41 = .ok (.putfield 31, 3) := by decide +kernel
theorem dX11_init_44 : decode cX11_init 44 = .ok (.aload_n 0, 1) := by decide +kernel
theorem dX11_init_45 : decode cX11_init 45 = .ok (.iconst 3, 1) := by decide +kernel
theorem dX11_init_46 : decode cX11_init 46 = .ok (.newarray .int, 2) := by decide +kernel
theorem dX11_init_48 : decode cX11_init 48 = .ok (.dup, 1) := by decide +kernel
theorem dX11_init_49 : decode cX11_init 49 = .ok (.iconst 0, 1) := by decide +kernel
theorem dX11_init_50 : decode cX11_init 50 = .ok (.sipush 5000, 3) := by decide +kernel
theorem dX11_init_53 : decode cX11_init 53 = .ok (.iastore, 1) := by decide +kernel
theorem dX11_init_54 : decode cX11_init 54 = .ok (.dup, 1) := by decide +kernel
theorem dX11_init_55 : decode cX11_init 55 = .ok (.iconst 1, 1) := by decide +kernel
theorem dX11_init_56 : decode cX11_init 56 = .ok (.sipush 5000, 3) := by decide +kernel
theorem dX11_init_59 : decode cX11_init 59 = .ok (.iastore, 1) := by decide +kernel
theorem dX11_init_60 : decode cX11_init 60 = .ok (.dup, 1) := by decide +kernel
theorem dX11_init_61 : decode cX11_init 61 = .ok (.iconst 2, 1) := by decide +kernel
theorem dX11_init_62 : decode cX11_init 62 = .ok (.sipush 5000, 3) := by decide +kernel
theorem dX11_init_65 : decode cX11_init 65 = .ok (.iastore, 1) := by decide +kernel
theorem dX11_init_66 : decode cX11_init 66 = .ok (.putfield 35, 3) := by decide +kernel
theorem dX11_init_69 : decode cX11_init 69 = .ok (.aload_n 0, 1) := by decide +kernel
theorem dX11_init_70 : decode cX11_init 70 = .ok (.bipush 6, 2) := by decide +kernel
theorem dX11_init_72 : decode cX11_init 72 = .ok (.iconst 3, 1) := by decide +kernel
theorem dX11_init_73 : decode cX11_init 73 = .ok (.multianewarray 39 2, 4) := by decide +kernel
theorem dX11_init_77 : decode cX11_init 77 = .ok (.putfield 41, 3) := by decide +kernel
theorem dX11_init_80 : decode cX11_init 80 = .ok (.aload_n 0, 1) := by decide +kernel
theorem dX11_init_81 : decode cX11_init 81 = .ok (.bipush 8, 2) := by decide +kernel
theorem dX11_init_83 : decode cX11_init 83 = .ok (.newarray .int, 2) := by decide +kernel
theorem dX11_init_85 : decode cX11_init 85 = .ok (.putfield 44, 3) := by decide +kernel
theorem dX11_init_88 : decode cX11_init 88 = .ok (.aload_n 0, 1) := by decide +kernel
theorem dX11_init_89 : decode cX11_init 89 = .ok (.new 47, 3) := by decide +kernel
theorem dX11_init_92 : decode cX11_init 92 = .ok (.dup, 1) := by decide +kernel
theorem dX11_init_93 : decode cX11_init 93 = .ok (.invokespecial 49, 3) := by decide +kernel
theorem dX11_init_96 : decode cX11_init 96 = .ok (.putfield 50, 3) := by decide +kernel
theorem dX11_init_99 : decode cX11_init 99 = .ok (.aload_n 0, 1) := by decide +kernel
theorem dX11_init_100 : decode cX11_init 100 = .ok (.new 54, 3) := by decide +kernel
theorem dX11_init_103 : decode cX11_init 103 = .ok (.dup, 1) := by decide +kernel
theorem dX11_init_104 : decode cX11_init 104 = .ok (.invokespecial 56, 3) := by decide +kernel
theorem dX11_init_107 : decode cX11_init 107 = .ok (.putfield 57, 3) := by decide +kernel
theorem dX11_init_110 : decode cX11_init 110 = .ok (.aload_n 0, 1) := by decide +kernel
theorem dX11_init_111 : decode cX11_init 111 = .ok (.new 61, 3) := by decide +kernel
theorem dX11_init_114 : decode cX11_init 114 = .ok (.dup, 1) := by decide +kernel
theorem dX11_init_115 : decode cX11_init 115 = .ok (.invokespecial 63, 3) := by decide +kernel
theorem dX11_init_118 : decode cX11_init 118 = .ok (.putfield 64, 3) := by decide +kernel
theorem dX11_init_121 : decode cX11_init 121 = .ok (.aload_n 0, 1) := by decide +kernel
theorem dX11_init_122 : decode cX11_init 122 = .ok (.iconst 0, 1) := by decide +kernel
theorem dX11_init_123 : decode cX11_init 123 = .ok (.putfield 68, 3) := by decide +kernel
theorem dX11_init_126 : decode cX11_init 126 = .ok (.aload_n 0, 1) := by decide +kernel
theorem dX11_init_127 : decode cX11_init 127 = .ok (.iconst 0, 1) := by decide +kernel
theorem dX11_init_128 : decode cX11_init 128 = .ok (.putfield 72, 3) := by decide +kernel
theorem dX11_init_131 : decode cX11_init 131 = .ok (.iconst 0, 1) := by decide +kernel
theorem dX11_init_132 : decode cX11_init 132 = .ok (.istore_n 1, 1) := by decide +kernel
theorem dX11_init_133 : decode cX11_init 133 = .ok (.iload_n 1, 1) := by decide +kernel
theorem dX11_init_134 : decode cX11_init 134 = .ok (.bipush 10, 2) := by decide +kernel
theorem dX11_init_136 : decode cX11_init 136 = .ok (.if_icmp .ge 22, 3) := by decide +kernel
theorem dX11_init_139 : decode cX11_init 139 = .ok (.aload_n 0, 1) := by decide +kernel
theorem dX11_init_140 : decode cX11_init 140 = .ok (.getfield 25, 3) := by decide +kernel
theorem dX11_init_143 : decode cX11_init 143 = .ok (.iload_n 1, 1) := by decide +kernel
theorem dX11_init_144 : decode cX11_init 144 = .ok (.new 23, 3) := by decide +kernel
theorem dX11_init_147 : decode cX11_init 147 = .ok (.dup, 1) := by decide +kernel
theorem dX11_init_148 : decode cX11_init 148 = .ok (.invokespecial 75, 3) := by decide +kernel
theorem dX11_init_151 : decode cX11_init 151 = .ok (.aastore, 1) := by decide +kernel
theorem dX11_init_152 : decode cX11_init 152 = .ok (.iinc 1 1, 3) := by decide +kernel
theorem dX11_init_155 : decode cX11_init 155 = .ok (.goto (-22), 3) := by decide +kernel
theorem dX11_init_158 : decode cX11_init 158 = .ok (.iconst 0, 1) := by decide +kernel
theorem dX11_init_159 : decode cX11_init 159 = .ok (.istore_n 1, 1) := by decide +kernel
theorem dX11_init_160 : decode cX11_init 160 = .ok (.iload_n 1, 1) := by decide +kernel
theorem dX11_init_161 : decode cX11_init 161 = .ok (.bipush 10, 2) := by decide +kernel
theorem dX11_init_163 : decode cX11_init 163 = .ok (.if_icmp .ge 22, 3) := by decide +kernel
theorem dX11_init_166 : decode cX11_init 166 = .ok (.aload_n 0, 1) := by decide +kernel
theorem dX11_init_167 : decode cX11_init 167 = .ok (.getfield 31, 3) := by decide +kernel
theorem dX11_init_170 : decode cX11_init 170 = .ok (.iload_n 1, 1) := by decide +kernel
theorem dX11_init_171 : decode cX11_init 171 = .ok (.new 29, 3) := by decide +kernel
theorem dX11_init_174 : decode cX11_init 174 = .ok (.dup, 1) := by decide +kernel
theorem dX11_init_175 : decode cX11_init 175 = .ok (.invokespecial 76, 3) := by decide +kernel
theorem dX11_init_178 : decode cX11_init 178 = .ok (.aastore, 1) := by decide +kernel
theorem dX11_init_179 : decode cX11_init 179 = .ok (.iinc 1 1, 3) := by decide +kernel
theorem dX11_init_182 : decode cX11_init 182 = .ok (.goto (-22), 3) := by decide +kernel
theorem dX11_init_185 : decode cX11_init 185 = .ok (.return_, 1) := by decide +kernel
theorem dX11_tube_0 : decode cX11_tube 0 = .ok (.iload_n 1, 1) := by decide +kernel
theorem dX11_tube_1 : decode cX11_tube 1 = .ok (.iconst 0, 1) := by decide +kernel
theorem dX11_tube_2 : decode cX11_tube 2 = .ok (.sipush 999, 3) := by decide +kernel
theorem dX11_tube_5 : decode cX11_tube 5 = .ok (.invokestatic 77, 3) := by decide +kernel
theorem dX11_tube_8 : decode cX11_tube 8 = .ok (.ifCond .eq 25, 3) := by decide +kernel
theorem dX11_tube_11 : decode cX11_tube 11 = .ok (.iload_n 2, 1) := by decide +kernel
theorem dX11_tube_12 : decode cX11_tube 12 = .ok (.iconst 0, 1) := by decide +kernel
theorem dX11_tube_13 : decode cX11_tube 13 = .ok (.sipush 999, 3) := by decide +kernel
theorem dX11_tube_16 : decode cX11_tube 16 = .ok (.invokestatic 77, 3) := by decide +kernel
theorem dX11_tube_19 : decode cX11_tube 19 = .ok (.ifCond .eq 14, 3) := by decide +kernel
theorem dX11_tube_22 : decode cX11_tube 22 = .ok (.iload_n 3, 1) := by decide +kernel
theorem dX11_tube_23 : decode cX11_tube 23 = .ok (.iconst 0, 1) := by decide +kernel
theorem dX11_tube_24 : decode cX11_tube 24 = .ok (.sipush 9999, 3) := by decide +kernel
theorem dX11_tube_27 : decode cX11_tube 27 = .ok (.invokestatic 77, 3) := by decide +kernel
theorem dX11_tube_30 : decode cX11_tube 30 = .ok (.ifCond .ne 5, 3) := by decide +kernel
theorem dX11_tube_33 : decode cX11_tube 33 = .ok (.iconst (-1), 1) := by decide +kernel
theorem dX11_tube_34 : decode cX11_tube 34 = .ok (.ireturn, 1) := by decide +kernel
theorem dX11_tube_35 : decode cX11_tube 35 = .ok (.aload_n 0, 1) := by decide +kernel
theorem dX11_tube_36 : decode cX11_tube 36 = .ok (.getfield 12, 3) := by decide +kernel
theorem dX11_tube_39 : decode cX11_tube 39 = .ok (.invokevirtual 81, 3) := by decide +kernel
theorem dX11_tube_42 : decode cX11_tube 42 = .ok (.ifCond .eq 8, 3) := by decide +kernel
theorem dX11_tube_45 : decode cX11_tube 45 = .ok (.bipush (-3), 2) := by decide +kernel
theorem dX11_tube_47 : decode cX11_tube 47 = .ok (.goto 20, 3) := by decide +kernel
theorem dX11_tube_50 : decode cX11_tube 50 = .ok (.aload_n 0, 1) := by decide +kernel
theorem dX11_tube_51 : decode cX11_tube 51 = .ok (.getfield 12, 3) := by decide +kernel
theorem dX11_tube_54 : decode cX11_tube 54 = .ok (.new 85, 3) := by decide +kernel
theorem dX11_tube_57 : decode cX11_tube 57 = .ok (.dup, 1) := by decide +kernel
theorem dX11_tube_58 : decode cX11_tube 58 = .ok (.iload_n 1, 1) := by decide +kernel
theorem dX11_tube_59 : decode cX11_tube 59 = .ok (.iload_n 2, 1) := by decide +kernel
theorem dX11_tube_60 : decode cX11_tube 60 = .ok (.iload_n 3, 1) := by decide +kernel
theorem dX11_tube_61 : decode cX11_tube 61 = .ok (.invokespecial 87, 3) := by decide +kernel
theorem dX11_tube_64 : decode cX11_tube 64 = .ok (.invokevirtual 90, 3) := by decide +kernel
theorem dX11_tube_67 : decode cX11_tube 67 = .ok (.ireturn, 1) := by decide +kernel
theorem dX11_band_0 : decode cX11_band 0 = .ok (.aload_n 0, 1) := by decide +kernel
theorem dX11_band_1 : decode cX11_band 1 = .ok (.getfield 12, 3) := by decide +kernel
theorem dX11_band_4 : decode cX11_band 4 = .ok (.iload_n 1, 1) := by decide +kernel
theorem dX11_band_5 : decode cX11_band 5 = .ok (.invokevirtual 94, 3) := by decide +kernel
theorem dX11_band_8 : decode cX11_band 8 = .ok (.astore 5, 2) := by decide +kernel
theorem dX11_band_10 : decode cX11_band 10 = .ok (.aload 5, 2) := by decide +kernel
theorem dX11_band_12 : decode cX11_band 12 = .ok (.ifnull 33, 3) := by decide +kernel
theorem dX11_band_15 : decode cX11_band 15 = .ok (.iload_n 2, 1) := by decide +kernel
theorem dX11_band_16 : decode cX11_band 16 = .ok (.invokestatic 98, 3) := by decide +kernel
theorem dX11_band_19 : decode cX11_band 19 = .ok (.ifCond .eq 26, 3) := by decide +kernel
theorem dX11_band_22 : decode cX11_band 22 = .ok (.iload_n 3, 1) := by decide +kernel
theorem dX11_band_23 : decode cX11_band 23 = .ok (.iconst 0, 1) := by decide +kernel
theorem dX11_band_24 : decode cX11_band 24 = .ok (.sipush 999, 3) := by decide +kernel
theorem dX11_band_27 : decode cX11_band 27 = .ok (.invokestatic 77, 3) := by decide +kernel
theorem dX11_band_30 : decode cX11_band 30 = .ok (.ifCond .eq 15, 3) := by decide +kernel
theorem dX11_band_33 : decode cX11_band 33 = .ok (.iload 4, 2) := by decide +kernel
theorem dX11_band_35 : decode cX11_band 35 = .ok (.iconst 1, 1) := by decide +kernel
theorem dX11_band_36 : decode cX11_band 36 = .ok (.sipush 999, 3) := by decide +kernel
theorem dX11_band_39 : decode cX11_band 39 = .ok (.invokestatic 77, 3) := by decide +kernel
theorem dX11_band_42 : decode cX11_band 42 = .ok (.ifCond .ne 5, 3) := by decide +kernel
theorem dX11_band_45 : decode cX11_band 45 = .ok (.iconst (-1), 1) := by decide +kernel
theorem dX11_band_46 : decode cX11_band 46 = .ok (.ireturn, 1) := by decide +kernel
theorem dX11_band_47 : decode cX11_band 47 = .ok (.aload 5, 2) := by decide +kernel
theorem dX11_band_49 : decode cX11_band 49 = .ok (.iload_n 2, 1) := by decide +kernel
theorem dX11_band_50 : decode cX11_band 50 = .ok (.iload_n 3, 1) := by decide +kernel
theorem dX11_band_51 : decode cX11_band 51 = .ok (.iload 4, 2) := by decide +kernel
theorem dX11_band_53 : decode cX11_band 53 = .ok (.invokevirtual 102, 3) := by decide +kernel
theorem dX11_band_56 : decode cX11_band 56 = .ok (.iconst 1, 1) := by decide +kernel
theorem dX11_band_57 : decode cX11_band 57 = .ok (.ireturn, 1) := by decide +kernel
theorem dX11_ofTube_0 : decode cX11_ofTube 0 = .ok (.aload_n 0, 1) := by decide +kernel
theorem dX11_ofTube_1 : decode cX11_ofTube 1 = .ok (.getfield 12, 3) := by decide +kernel
theorem dX11_ofTube_4 : decode cX11_ofTube 4 = .ok (.iload_n 1, 1) := by decide +kernel
theorem dX11_ofTube_5 : decode cX11_ofTube 5 = .ok (.invokevirtual 94, 3) := by decide +kernel
theorem dX11_ofTube_8 : decode cX11_ofTube 8 = .ok (.astore_n 3, 1) := by decide +kernel
theorem dX11_ofTube_9 : decode cX11_ofTube 9 = .ok (.aload_n 3, 1) := by decide +kernel
theorem dX11_ofTube_10 : decode cX11_ofTube 10 = .ok (.ifnonnull 5, 3) := by decide +kernel
theorem dX11_ofTube_13 : decode cX11_ofTube 13 = .ok (.iconst (-1), 1) := by decide +kernel
theorem dX11_ofTube_14 : decode cX11_ofTube 14 = .ok (.ireturn, 1) := by decide +kernel
theorem dX11_ofTube_15 : decode cX11_ofTube 15 = .ok (.iload_n 2, 1) := by decide +kernel
theorem dX11_ofTube_16 : decode cX11_ofTube 16 = .ok (.tableswitch 71 0 5 #[40, 45, 50, 55, 61, 66], 40) := by decide +kernel
theorem dX11_ofTube_56 : decode cX11_ofTube 56 = .ok (.aload_n 3, 1) := by decide +kernel
theorem dX11_ofTube_57 : decode cX11_ofTube 57 = .ok (.getfield 105, 3) := by decide +kernel
theorem dX11_ofTube_60 : decode cX11_ofTube 60 = .ok (.ireturn, 1) := by decide +kernel
theorem dX11_ofTube_61 : decode cX11_ofTube 61 = .ok (.aload_n 3, 1) := by decide +kernel
theorem dX11_ofTube_62 : decode cX11_ofTube 62 = .ok (.getfield 108, 3) := by decide +kernel
theorem dX11_ofTube_65 : decode cX11_ofTube 65 = .ok (.ireturn, 1) := by decide +kernel
theorem dX11_ofTube_66 : decode cX11_ofTube 66 = .ok (.aload_n 3, 1) := by decide +kernel
theorem dX11_ofTube_67 : decode cX11_ofTube 67 = .ok (.getfield 111, 3) := by decide +kernel
theorem dX11_ofTube_70 : decode cX11_ofTube 70 = .ok (.ireturn, 1) := by decide +kernel
theorem dX11_ofTube_71 : decode cX11_ofTube 71 = .ok (.aload_n 0, 1) := by decide +kernel
theorem dX11_ofTube_72 : decode cX11_ofTube 72 = .ok (.iload_n 1, 1) := by decide +kernel
theorem dX11_ofTube_73 : decode cX11_ofTube 73 = .ok (.invokevirtual 114, 3) := by decide +kernel
theorem dX11_ofTube_76 : decode cX11_ofTube 76 = .ok (.ireturn, 1) := by decide +kernel
theorem dX11_ofTube_77 : decode cX11_ofTube 77 = .ok (.aload_n 3, 1) := by decide +kernel
theorem dX11_ofTube_78 : decode cX11_ofTube 78 = .ok (.getfield 118, 3) := by decide +kernel
theorem dX11_ofTube_81 : decode cX11_ofTube 81 = .ok (.ireturn, 1) := by decide +kernel
theorem dX11_ofTube_82 : decode cX11_ofTube 82 = .ok (.aload_n 3, 1) := by decide +kernel
theorem dX11_ofTube_83 : decode cX11_ofTube 83 = .ok (.getfield 121, 3) := by decide +kernel
theorem dX11_ofTube_86 : decode cX11_ofTube 86 = .ok (.ireturn, 1) := by decide +kernel
theorem dX11_ofTube_87 : decode cX11_ofTube 87 = .ok (.iconst (-1), 1) := by decide +kernel
theorem dX11_ofTube_88 : decode cX11_ofTube 88 = .ok (.ireturn, 1) := by decide +kernel
theorem dX11_row_0 : decode cX11_row 0 = .ok (.aload_n 0, 1) := by decide +kernel
theorem dX11_row_1 : decode cX11_row 1 = .ok (.getfield 12, 3) := by decide +kernel
theorem dX11_row_4 : decode cX11_row 4 = .ok (.iload_n 1, 1) := by decide +kernel
theorem dX11_row_5 : decode cX11_row 5 = .ok (.invokevirtual 94, 3) := by decide +kernel
theorem dX11_row_8 : decode cX11_row 8 = .ok (.astore 5, 2) := by decide +kernel
theorem dX11_row_10 : decode cX11_row 10 = .ok (.aload 5, 2) := by decide +kernel
theorem dX11_row_12 : decode cX11_row 12 = .ok (.ifnull 30, 3) := by decide +kernel
theorem dX11_row_15 : decode cX11_row 15 = .ok (.iload_n 2, 1) := by decide +kernel
theorem dX11_row_16 : decode cX11_row 16 = .ok (.invokestatic 98, 3) := by decide +kernel
theorem dX11_row_19 : decode cX11_row 19 = .ok (.ifCond .eq 23, 3) := by decide +kernel
theorem dX11_row_22 : decode cX11_row 22 = .ok (.iload_n 3, 1) := by decide +kernel
theorem dX11_row_23 : decode cX11_row 23 = .ok (.iconst 0, 1) := by decide +kernel
theorem dX11_row_24 : decode cX11_row 24 = .ok (.bipush 99, 2) := by decide +kernel
theorem dX11_row_26 : decode cX11_row 26 = .ok (.invokestatic 77, 3) := by decide +kernel
theorem dX11_row_29 : decode cX11_row 29 = .ok (.ifCond .eq 13, 3) := by decide +kernel
theorem dX11_row_32 : decode cX11_row 32 = .ok (.iload 4, 2) := by decide +kernel
theorem dX11_row_34 : decode cX11_row 34 = .ok (.iconst 0, 1) := by decide +kernel
theorem dX11_row_35 : decode cX11_row 35 = .ok (.iconst 1, 1) := by decide +kernel
theorem dX11_row_36 : decode cX11_row 36 = .ok (.invokestatic 77, 3) := by decide +kernel
theorem dX11_row_39 : decode cX11_row 39 = .ok (.ifCond .ne 5, 3) := by decide +kernel
theorem dX11_row_42 : decode cX11_row 42 = .ok (.iconst (-1), 1) := by decide +kernel
theorem dX11_row_43 : decode cX11_row 43 = .ok (.ireturn, 1) := by decide +kernel
theorem dX11_row_44 : decode cX11_row 44 = .ok (.iload 4, 2) := by decide +kernel
theorem dX11_row_46 : decode cX11_row 46 = .ok (.ifCond .ne 13, 3) := by decide +kernel
theorem dX11_row_49 : decode cX11_row 49 = .ok (.aload 5, 2) := by decide +kernel
theorem dX11_row_51 : decode cX11_row 51 = .ok (.iload_n 2, 1) := by decide +kernel
theorem dX11_row_52 : decode cX11_row 52 = .ok (.iload_n 3, 1) := by decide +kernel
theorem dX11_row_53 : decode cX11_row 53 = .ok (.invokevirtual 124, 3) := by decide +kernel
theorem dX11_row_56 : decode cX11_row 56 = .ok (.goto 9, 3) := by decide +kernel
theorem dX11_row_59 : decode cX11_row 59 = .ok (.aload 5, 2) := by decide +kernel
theorem dX11_row_61 : decode cX11_row 61 = .ok (.iload_n 2, 1) := by decide +kernel
theorem dX11_row_62 : decode cX11_row 62 = .ok (.invokevirtual 128, 3) := by decide +kernel
theorem dX11_row_65 : decode cX11_row 65 = .ok (.ireturn, 1) := by decide +kernel
theorem dX11_lamp_0 : decode cX11_lamp 0 = .ok (.iload_n 1, 1) := by decide +kernel
theorem dX11_lamp_1 : decode cX11_lamp 1 = .ok (.invokestatic 131, 3) := by decide +kernel
theorem dX11_lamp_4 : decode cX11_lamp 4 = .ok (.ifCond .eq 20, 3) := by decide +kernel
theorem dX11_lamp_7 : decode cX11_lamp 7 = .ok (.iload_n 2, 1) := by decide +kernel
theorem dX11_lamp_8 : decode cX11_lamp 8 = .ok (.invokestatic 98, 3) := by decide +kernel
theorem dX11_lamp_11 : decode cX11_lamp 11 = .ok (.ifCond .eq 13, 3) := by decide +kernel
theorem dX11_lamp_14 : decode cX11_lamp 14 = .ok (.iload_n 3, 1) := by decide +kernel
theorem dX11_lamp_15 : decode cX11_lamp 15 = .ok (.iconst 0, 1) := by decide +kernel
theorem dX11_lamp_16 : decode cX11_lamp 16 = .ok (.bipush 99, 2) := by decide +kernel
theorem dX11_lamp_18 : decode cX11_lamp 18 = .ok (.invokestatic 77, 3) := by decide +kernel
theorem dX11_lamp_21 : decode cX11_lamp 21 = .ok (.ifCond .ne 5, 3) := by decide +kernel
theorem dX11_lamp_24 : decode cX11_lamp 24 = .ok (.iconst (-1), 1) := by decide +kernel
theorem dX11_lamp_25 : decode cX11_lamp 25 = .ok (.ireturn, 1) := by decide +kernel
theorem dX11_lamp_26 : decode cX11_lamp 26 = .ok (.aload_n 0, 1) := by decide +kernel
theorem dX11_lamp_27 : decode cX11_lamp 27 = .ok (.getfield 19, 3) := by decide +kernel
theorem dX11_lamp_30 : decode cX11_lamp 30 = .ok (.getfield 134, 3) := by decide +kernel
theorem dX11_lamp_33 : decode cX11_lamp 33 = .ok (.iload_n 1, 1) := by decide +kernel
theorem dX11_lamp_34 : decode cX11_lamp 34 = .ok (.aaload, 1) := by decide +kernel
theorem dX11_lamp_35 : decode cX11_lamp 35 = .ok (.iload_n 2, 1) := by decide +kernel
theorem dX11_lamp_36 : decode cX11_lamp 36 = .ok (.iload_n 3, 1) := by decide +kernel
theorem dX11_lamp_37 : decode cX11_lamp 37 = .ok (.invokestatic 137, 3) := by decide +kernel
theorem dX11_lamp_40 : decode cX11_lamp 40 = .ok (.ireturn, 1) := by decide +kernel
theorem dX11_eye_0 : decode cX11_eye 0 = .ok (.iload_n 1, 1) := by decide +kernel
theorem dX11_eye_1 : decode cX11_eye 1 = .ok (.invokestatic 141, 3) := by decide +kernel
theorem dX11_eye_4 : decode cX11_eye 4 = .ok (.ifCond .eq 20, 3) := by decide +kernel
theorem dX11_eye_7 : decode cX11_eye 7 = .ok (.iload_n 2, 1) := by decide +kernel
theorem dX11_eye_8 : decode cX11_eye 8 = .ok (.invokestatic 98, 3) := by decide +kernel
theorem dX11_eye_11 : decode cX11_eye 11 = .ok (.ifCond .eq 13, 3) := by decide +kernel
theorem dX11_eye_14 : decode cX11_eye 14 = .ok (.iload_n 3, 1) := by decide +kernel
theorem dX11_eye_15 : decode cX11_eye 15 = .ok (.iconst 0, 1) := by decide +kernel
theorem dX11_eye_16 : decode cX11_eye 16 = .ok (.bipush 99, 2) := by decide +kernel
theorem dX11_eye_18 : decode cX11_eye 18 = .ok (.invokestatic 77, 3) := by decide +kernel
theorem dX11_eye_21 : decode cX11_eye 21 = .ok (.ifCond .ne 5, 3) := by decide +kernel
theorem dX11_eye_24 : decode cX11_eye 24 = .ok (.iconst (-1), 1) := by decide +kernel
theorem dX11_eye_25 : decode cX11_eye 25 = .ok (.ireturn, 1) := by decide +kernel
theorem dX11_eye_26 : decode cX11_eye 26 = .ok (.aload_n 0, 1) := by decide +kernel
theorem dX11_eye_27 : decode cX11_eye 27 = .ok (.getfield 19, 3) := by decide +kernel
theorem dX11_eye_30 : decode cX11_eye 30 = .ok (.getfield 144, 3) := by decide +kernel
theorem dX11_eye_33 : decode cX11_eye 33 = .ok (.iload_n 1, 1) := by decide +kernel
theorem dX11_eye_34 : decode cX11_eye 34 = .ok (.aaload, 1) := by decide +kernel
theorem dX11_eye_35 : decode cX11_eye 35 = .ok (.iload_n 2, 1) := by decide +kernel
theorem dX11_eye_36 : decode cX11_eye 36 = .ok (.iload_n 3, 1) := by decide +kernel
theorem dX11_eye_37 : decode cX11_eye 37 = .ok (.invokestatic 137, 3) := by decide +kernel
theorem dX11_eye_40 : decode cX11_eye 40 = .ok (.ireturn, 1) := by decide +kernel
theorem dX11_years_0 : decode cX11_years 0 = .ok (.iload_n 1, 1) := by decide +kernel
theorem dX11_years_1 : decode cX11_years 1 = .ok (.iconst 1, 1) := by decide +kernel
theorem dX11_years_2 : decode cX11_years 2 = .ok (.bipush 99, 2) := by decide +kernel
theorem dX11_years_4 : decode cX11_years 4 = .ok (.invokestatic 77, 3) := by decide +kernel
theorem dX11_years_7 : decode cX11_years 7 = .ok (.ifCond .eq 14, 3) := by decide +kernel
theorem dX11_years_10 : decode cX11_years 10 = .ok (.aload_n 0, 1) := by decide +kernel
theorem dX11_years_11 : decode cX11_years 11 = .ok (.getfield 72, 3) := by decide +kernel
theorem dX11_years_14 : decode cX11_years 14 = .ok (.iload_n 1, 1) := by decide +kernel
theorem dX11_years_15 : decode cX11_years 15 = .ok (.iadd, 1) := by decide +kernel
theorem dX11_years_16 : decode cX11_years 16 = .ok (.bipush 99, 2) := by decide +kernel
theorem dX11_years_18 : decode cX11_years 18 = .ok (.if_icmp .le 5, 3) := by decide +kernel
theorem dX11_years_21 : decode cX11_years 21 = .ok (.iconst (-1), 1) := by decide +kernel
theorem dX11_years_22 : decode cX11_years 22 = .ok (.ireturn, 1) := by decide +kernel
theorem dX11_years_23 : decode cX11_years 23 = .ok (.aload_n 0, 1) := by decide +kernel
theorem dX11_years_24 : decode cX11_years 24 = .ok (.dup, 1) := by decide +kernel
theorem dX11_years_25 : decode cX11_years 25 = .ok (.getfield 72, 3) := by decide +kernel
theorem dX11_years_28 : decode cX11_years 28 = .ok (.iload_n 1, 1) := by decide +kernel
theorem dX11_years_29 : decode cX11_years 29 = .ok (.iadd, 1) := by decide +kernel
theorem dX11_years_30 : decode cX11_years 30 = .ok (.putfield 72, 3) := by decide +kernel
theorem dX11_years_33 : decode cX11_years 33 = .ok (.aload_n 0, 1) := by decide +kernel
theorem dX11_years_34 : decode cX11_years 34 = .ok (.getfield 72, 3) := by decide +kernel
theorem dX11_years_37 : decode cX11_years 37 = .ok (.ireturn, 1) := by decide +kernel
theorem dX11_press_0 : decode cX11_press 0 = .ok (.aload_n 0, 1) := by decide +kernel
theorem dX11_press_1 : decode cX11_press 1 = .ok (.getfield 12, 3) := by decide +kernel
theorem dX11_press_4 : decode cX11_press 4 = .ok (.iload_n 1, 1) := by decide +kernel
theorem dX11_press_5 : decode cX11_press 5 = .ok (.invokevirtual 94, 3) := by decide +kernel
theorem dX11_press_8 : decode cX11_press 8 = .ok (.astore 4, 2) := by decide +kernel
theorem dX11_press_10 : decode cX11_press 10 = .ok (.aload_n 0, 1) := by decide +kernel
theorem dX11_press_11 : decode cX11_press 11 = .ok (.iload_n 2, 1) := by decide +kernel
theorem dX11_press_12 : decode cX11_press 12 = .ok (.invokevirtual 147, 3) := by decide +kernel
theorem dX11_press_15 : decode cX11_press 15 = .ok (.astore 5, 2) := by decide +kernel
theorem dX11_press_17 : decode cX11_press 17 = .ok (.aload 4, 2) := by decide +kernel
theorem dX11_press_19 : decode cX11_press 19 = .ok (.ifnull 18, 3) := by decide +kernel
theorem dX11_press_22 : decode cX11_press 22 = .ok (.aload 5, 2) := by decide +kernel
theorem dX11_press_24 : decode cX11_press 24 = .ok (.ifnull 13, 3) := by decide +kernel
theorem dX11_press_27 : decode cX11_press 27 = .ok (.iload_n 3, 1) := by decide +kernel
theorem dX11_press_28 : decode cX11_press 28 = .ok (.iconst 1, 1) := by decide +kernel
theorem dX11_press_29 : decode cX11_press 29 = .ok (.bipush 99, 2) := by decide +kernel
theorem dX11_press_31 : decode cX11_press 31 = .ok (.invokestatic 77, 3) := by decide +kernel
theorem dX11_press_34 : decode cX11_press 34 = .ok (.ifCond .ne 5, 3) := by decide +kernel
theorem dX11_press_37 : decode cX11_press 37 = .ok (.iconst (-1), 1) := by decide +kernel
theorem dX11_press_38 : decode cX11_press 38 = .ok (.ireturn, 1) := by decide +kernel
theorem dX11_press_39 : decode cX11_press 39 = .ok (.aload 4, 2) := by decide +kernel
theorem dX11_press_41 : decode cX11_press 41 = .ok (.getfield 111, 3) := by decide +kernel
theorem dX11_press_44 : decode cX11_press 44 = .ok (.iload_n 3, 1) := by decide +kernel
theorem dX11_press_45 : decode cX11_press 45 = .ok (.if_icmp .ge 6, 3) := by decide +kernel
theorem dX11_press_48 : decode cX11_press 48 = .ok (.bipush (-2), 2) := by decide +kernel
theorem dX11_press_50 : decode cX11_press 50 = .ok (.ireturn, 1) := by decide +kernel
theorem dX11_press_51 : decode cX11_press 51 = .ok (.aload 5, 2) := by decide +kernel
theorem dX11_press_53 : decode cX11_press 53 = .ok (.getfield 151, 3) := by decide +kernel
theorem dX11_press_56 : decode cX11_press 56 = .ok (.iload_n 3, 1) := by decide +kernel
theorem dX11_press_57 : decode cX11_press 57 = .ok (.iadd, 1) := by decide +kernel
theorem dX11_press_58 : decode cX11_press 58 = .ok (.sipush 999, 3) := by decide +kernel
theorem dX11_press_61 : decode cX11_press 61 = .ok (.if_icmp .le 6, 3) := by decide +kernel
theorem dX11_press_64 : decode cX11_press 64 = .ok (.bipush (-3), 2) := by decide +kernel
theorem dX11_press_66 : decode cX11_press 66 = .ok (.ireturn, 1) := by decide +kernel
theorem dX11_press_67 : decode cX11_press 67 = .ok (.aload 4, 2) := by decide +kernel
theorem dX11_press_69 : decode cX11_press 69 = .ok (.dup, 1) := by decide +kernel
theorem dX11_press_70 : decode cX11_press 70 = .ok (.getfield 111, 3) := by decide +kernel
theorem dX11_press_73 : decode cX11_press 73 = .ok (.iload_n 3, 1) := by decide +kernel
theorem dX11_press_74 : decode cX11_press 74 = .ok (.isub, 1) := by decide +kernel
theorem dX11_press_75 : decode cX11_press 75 = .ok (.putfield 111, 3) := by decide +kernel
theorem dX11_press_78 : decode cX11_press 78 = .ok (.aload 5, 2) := by decide +kernel
theorem dX11_press_80 : decode cX11_press 80 = .ok (.iload_n 1, 1) := by decide +kernel
theorem dX11_press_81 : decode cX11_press 81 = .ok (.iload_n 3, 1) := by decide +kernel
theorem dX11_press_82 : decode cX11_press 82 = .ok (.invokevirtual 154, 3) := by decide +kernel
theorem dX11_press_85 : decode cX11_press 85 = .ok (.aload 5, 2) := by decide +kernel
theorem dX11_press_87 : decode cX11_press 87 = .ok (.getfield 151, 3) := by decide +kernel
theorem dX11_press_90 : decode cX11_press 90 = .ok (.ireturn, 1) := by decide +kernel
theorem dX11_pour_0 : decode cX11_pour 0 = .ok (.aload_n 0, 1) := by decide +kernel
theorem dX11_pour_1 : decode cX11_pour 1 = .ok (.iload_n 1, 1) := by decide +kernel
theorem dX11_pour_2 : decode cX11_pour 2 = .ok (.invokevirtual 147, 3) := by decide +kernel
theorem dX11_pour_5 : decode cX11_pour 5 = .ok (.astore_n 3, 1) := by decide +kernel
theorem dX11_pour_6 : decode cX11_pour 6 = .ok (.aload_n 0, 1) := by decide +kernel
theorem dX11_pour_7 : decode cX11_pour 7 = .ok (.iload_n 2, 1) := by decide +kernel
theorem dX11_pour_8 : decode cX11_pour 8 = .ok (.invokevirtual 147, 3) := by decide +kernel
theorem dX11_pour_11 : decode cX11_pour 11 = .ok (.astore 4, 2) := by decide +kernel
theorem dX11_pour_13 : decode cX11_pour 13 = .ok (.aload_n 3, 1) := by decide +kernel
theorem dX11_pour_14 : decode cX11_pour 14 = .ok (.ifnull 13, 3) := by decide +kernel
theorem dX11_pour_17 : decode cX11_pour 17 = .ok (.aload 4, 2) := by decide +kernel
theorem dX11_pour_19 : decode cX11_pour 19 = .ok (.ifnull 8, 3) := by decide +kernel
theorem dX11_pour_22 : decode cX11_pour 22 = .ok (.iload_n 1, 1) := by decide +kernel
theorem dX11_pour_23 : decode cX11_pour 23 = .ok (.iload_n 2, 1) := by decide +kernel
theorem dX11_pour_24 : decode cX11_pour 24 = .ok (.if_icmp .ne 5, 3) := by decide +kernel
theorem dX11_pour_27 : decode cX11_pour 27 = .ok (.iconst (-1), 1) := by decide +kernel
theorem dX11_pour_28 : decode cX11_pour 28 = .ok (.ireturn, 1) := by decide +kernel
theorem dX11_pour_29 : decode cX11_pour 29 = .ok (.aload_n 3, 1) := by decide +kernel
theorem dX11_pour_30 : decode cX11_pour 30 = .ok (.getfield 151, 3) := by decide +kernel
theorem dX11_pour_33 : decode cX11_pour 33 = .ok (.ifCond .ne 6, 3) := by decide +kernel
theorem dX11_pour_36 : decode cX11_pour 36 = .ok (.bipush (-2), 2) := by decide +kernel
theorem dX11_pour_38 : decode cX11_pour 38 = .ok (.ireturn, 1) := by decide +kernel
theorem dX11_pour_39 : decode cX11_pour 39 = .ok (.aload_n 3, 1) := by decide +kernel
theorem dX11_pour_40 : decode cX11_pour 40 = .ok (.getfield 151, 3) := by decide +kernel
theorem dX11_pour_43 : decode cX11_pour 43 = .ok (.aload 4, 2) := by decide +kernel
theorem dX11_pour_45 : decode cX11_pour 45 = .ok (.getfield 151, 3) := by decide +kernel
theorem dX11_pour_48 : decode cX11_pour 48 = .ok (.iadd, 1) := by decide +kernel
theorem dX11_pour_49 : decode cX11_pour 49 = .ok (.sipush 999, 3) := by decide +kernel
theorem dX11_pour_52 : decode cX11_pour 52 = .ok (.if_icmp .le 6, 3) := by decide +kernel
theorem dX11_pour_55 : decode cX11_pour 55 = .ok (.bipush (-3), 2) := by decide +kernel
theorem dX11_pour_57 : decode cX11_pour 57 = .ok (.ireturn, 1) := by decide +kernel
theorem dX11_pour_58 : decode cX11_pour 58 = .ok (.aload 4, 2) := by decide +kernel
theorem dX11_pour_60 : decode cX11_pour 60 = .ok (.aload_n 3, 1) := by decide +kernel
theorem dX11_pour_61 : decode cX11_pour 61 = .ok (.invokevirtual 157, 3) := by decide +kernel
theorem dX11_pour_64 : decode cX11_pour 64 = .ok (.aload_n 3, 1) := by decide +kernel
theorem dX11_pour_65 : decode cX11_pour 65 = .ok (.invokevirtual 161, 3) := by decide +kernel
theorem dX11_pour_68 : decode cX11_pour 68 = .ok (.aload 4, 2) := by decide +kernel
theorem dX11_pour_70 : decode cX11_pour 70 = .ok (.getfield 151, 3) := by decide +kernel
theorem dX11_pour_73 : decode cX11_pour 73 = .ok (.ireturn, 1) := by decide +kernel
theorem dX11_waste_0 : decode cX11_waste 0 = .ok (.aload_n 0, 1) := by decide +kernel
theorem dX11_waste_1 : decode cX11_waste 1 = .ok (.iload_n 1, 1) := by decide +kernel
theorem dX11_waste_2 : decode cX11_waste 2 = .ok (.invokevirtual 147, 3) := by decide +kernel
theorem dX11_waste_5 : decode cX11_waste 5 = .ok (.astore_n 2, 1) := by decide +kernel
theorem dX11_waste_6 : decode cX11_waste 6 = .ok (.aload_n 2, 1) := by decide +kernel
theorem dX11_waste_7 : decode cX11_waste 7 = .ok (.ifnonnull 5, 3) := by decide +kernel
theorem dX11_waste_10 : decode cX11_waste 10 = .ok (.iconst (-1), 1) := by decide +kernel
theorem dX11_waste_11 : decode cX11_waste 11 = .ok (.ireturn, 1) := by decide +kernel
theorem dX11_waste_12 : decode cX11_waste 12 = .ok (.aload_n 2, 1) := by decide +kernel
theorem dX11_waste_13 : decode cX11_waste 13 = .ok (.getfield 151, 3) := by decide +kernel
theorem dX11_waste_16 : decode cX11_waste 16 = .ok (.ifCond .ne 6, 3) := by decide +kernel
theorem dX11_waste_19 : decode cX11_waste 19 = .ok (.bipush (-2), 2) := by decide +kernel
theorem dX11_waste_21 : decode cX11_waste 21 = .ok (.ireturn, 1) := by decide +kernel
theorem dX11_waste_22 : decode cX11_waste 22 = .ok (.aload_n 2, 1) := by decide +kernel
theorem dX11_waste_23 : decode cX11_waste 23 = .ok (.getfield 151, 3) := by decide +kernel
theorem dX11_waste_26 : decode cX11_waste 26 = .ok (.istore_n 3, 1) := by decide +kernel
theorem dX11_waste_27 : decode cX11_waste 27 = .ok (.aload_n 0, 1) := by decide +kernel
theorem dX11_waste_28 : decode cX11_waste 28 = .ok (.getfield 12, 3) := by decide +kernel
theorem dX11_waste_31 : decode cX11_waste 31 = .ok (.aload_n 2, 1) := by decide +kernel
theorem dX11_waste_32 : decode cX11_waste 32 = .ok (.invokevirtual 164, 3) := by decide +kernel
theorem dX11_waste_35 : decode cX11_waste 35 = .ok (.aload_n 2, 1) := by decide +kernel
theorem dX11_waste_36 : decode cX11_waste 36 = .ok (.invokevirtual 161, 3) := by decide +kernel
theorem dX11_waste_39 : decode cX11_waste 39 = .ok (.iload_n 3, 1) := by decide +kernel
theorem dX11_waste_40 : decode cX11_waste 40 = .ok (.ireturn, 1) := by decide +kernel
theorem dX11_drops_0 : decode cX11_drops 0 = .ok (.aload_n 0, 1) := by decide +kernel
theorem dX11_drops_1 : decode cX11_drops 1 = .ok (.iload_n 1, 1) := by decide +kernel
theorem dX11_drops_2 : decode cX11_drops 2 = .ok (.invokevirtual 147, 3) := by decide +kernel
theorem dX11_drops_5 : decode cX11_drops 5 = .ok (.astore_n 3, 1) := by decide +kernel
theorem dX11_drops_6 : decode cX11_drops 6 = .ok (.aload_n 3, 1) := by decide +kernel
theorem dX11_drops_7 : decode cX11_drops 7 = .ok (.ifnonnull 5, 3) := by decide +kernel
theorem dX11_drops_10 : decode cX11_drops 10 = .ok (.iconst (-1), 1) := by decide +kernel
theorem dX11_drops_11 : decode cX11_drops 11 = .ok (.ireturn, 1) := by decide +kernel
theorem dX11_drops_12 : decode cX11_drops 12 = .ok (.iload_n 2, 1) := by decide +kernel
theorem dX11_drops_13 : decode cX11_drops 13 = .ok (.iconst (-1), 1) := by decide +kernel
theorem dX11_drops_14 : decode cX11_drops 14 = .ok (.if_icmp .ne 8, 3) := by decide +kernel
theorem dX11_drops_17 : decode cX11_drops 17 = .ok (.aload_n 3, 1) := by decide +kernel
theorem dX11_drops_18 : decode cX11_drops 18 = .ok (.getfield 151, 3) := by decide +kernel
theorem dX11_drops_21 : decode cX11_drops 21 = .ok (.ireturn, 1) := by decide +kernel
theorem dX11_drops_22 : decode cX11_drops 22 = .ok (.aload_n 0, 1) := by decide +kernel
theorem dX11_drops_23 : decode cX11_drops 23 = .ok (.getfield 12, 3) := by decide +kernel
theorem dX11_drops_26 : decode cX11_drops 26 = .ok (.iload_n 2, 1) := by decide +kernel
theorem dX11_drops_27 : decode cX11_drops 27 = .ok (.invokevirtual 94, 3) := by decide +kernel
theorem dX11_drops_30 : decode cX11_drops 30 = .ok (.ifnonnull 7, 3) := by decide +kernel
theorem dX11_drops_33 : decode cX11_drops 33 = .ok (.iconst (-1), 1) := by decide +kernel
theorem dX11_drops_34 : decode cX11_drops 34 = .ok (.goto 8, 3) := by decide +kernel
theorem dX11_drops_37 : decode cX11_drops 37 = .ok (.aload_n 3, 1) := by decide +kernel
theorem dX11_drops_38 : decode cX11_drops 38 = .ok (.iload_n 2, 1) := by decide +kernel
theorem dX11_drops_39 : decode cX11_drops 39 = .ok (.invokevirtual 167, 3) := by decide +kernel
theorem dX11_drops_42 : decode cX11_drops 42 = .ok (.ireturn, 1) := by decide +kernel
theorem dX11_thick_0 : decode cX11_thick 0 = .ok (.aload_n 0, 1) := by decide +kernel
theorem dX11_thick_1 : decode cX11_thick 1 = .ok (.iload_n 1, 1) := by decide +kernel
theorem dX11_thick_2 : decode cX11_thick 2 = .ok (.invokevirtual 147, 3) := by decide +kernel
theorem dX11_thick_5 : decode cX11_thick 5 = .ok (.astore_n 3, 1) := by decide +kernel
theorem dX11_thick_6 : decode cX11_thick 6 = .ok (.aload_n 3, 1) := by decide +kernel
theorem dX11_thick_7 : decode cX11_thick 7 = .ok (.ifnull 10, 3) := by decide +kernel
theorem dX11_thick_10 : decode cX11_thick 10 = .ok (.iload_n 2, 1) := by decide +kernel
theorem dX11_thick_11 : decode cX11_thick 11 = .ok (.invokestatic 98, 3) := by decide +kernel
theorem dX11_thick_14 : decode cX11_thick 14 = .ok (.ifCond .ne 5, 3) := by decide +kernel
theorem dX11_thick_17 : decode cX11_thick 17 = .ok (.iconst (-1), 1) := by decide +kernel
theorem dX11_thick_18 : decode cX11_thick 18 = .ok (.ireturn, 1) := by decide +kernel
theorem dX11_thick_19 : decode cX11_thick 19 = .ok (.aload_n 3, 1) := by decide +kernel
theorem dX11_thick_20 : decode cX11_thick 20 = .ok (.getfield 151, 3) := by decide +kernel
theorem dX11_thick_23 : decode cX11_thick 23 = .ok (.ifCond .ne 8, 3) := by decide +kernel
theorem dX11_thick_26 : decode cX11_thick 26 = .ok (.bipush (-2), 2) := by decide +kernel
theorem dX11_thick_28 : decode cX11_thick 28 = .ok (.goto 12, 3) := by decide +kernel
theorem dX11_thick_31 : decode cX11_thick 31 = .ok (.aload_n 3, 1) := by decide +kernel
theorem dX11_thick_32 : decode cX11_thick 32 = .ok (.aload_n 0, 1) := by decide +kernel
theorem dX11_thick_33 : decode cX11_thick 33 = .ok (.getfield 12, 3) := by decide +kernel
theorem dX11_thick_36 : decode cX11_thick 36 = .ok (.iload_n 2, 1) := by decide +kernel
theorem dX11_thick_37 : decode cX11_thick 37 = .ok (.invokevirtual 170, 3) := by decide +kernel
theorem dX11_thick_40 : decode cX11_thick 40 = .ok (.ireturn, 1) := by decide +kernel
theorem dX11_seen_0 : decode cX11_seen 0 = .ok (.aload_n 0, 1) := by decide +kernel
theorem dX11_seen_1 : decode cX11_seen 1 = .ok (.iload_n 1, 1) := by decide +kernel
theorem dX11_seen_2 : decode cX11_seen 2 = .ok (.invokevirtual 147, 3) := by decide +kernel
theorem dX11_seen_5 : decode cX11_seen 5 = .ok (.astore 4, 2) := by decide +kernel
theorem dX11_seen_7 : decode cX11_seen 7 = .ok (.aload 4, 2) := by decide +kernel
theorem dX11_seen_9 : decode cX11_seen 9 = .ok (.ifnull 17, 3) := by decide +kernel
theorem dX11_seen_12 : decode cX11_seen 12 = .ok (.iload_n 2, 1) := by decide +kernel
theorem dX11_seen_13 : decode cX11_seen 13 = .ok (.invokestatic 131, 3) := by decide +kernel
theorem dX11_seen_16 : decode cX11_seen 16 = .ok (.ifCond .eq 10, 3) := by decide +kernel
theorem dX11_seen_19 : decode cX11_seen 19 = .ok (.iload_n 3, 1) := by decide +kernel
theorem dX11_seen_20 : decode cX11_seen 20 = .ok (.invokestatic 141, 3) := by decide +kernel
theorem dX11_seen_23 : decode cX11_seen 23 = .ok (.ifCond .ne 5, 3) := by decide +kernel
theorem dX11_seen_26 : decode cX11_seen 26 = .ok (.iconst (-1), 1) := by decide +kernel
theorem dX11_seen_27 : decode cX11_seen 27 = .ok (.ireturn, 1) := by decide +kernel
theorem dX11_seen_28 : decode cX11_seen 28 = .ok (.aload 4, 2) := by decide +kernel
theorem dX11_seen_30 : decode cX11_seen 30 = .ok (.getfield 151, 3) := by decide +kernel
theorem dX11_seen_33 : decode cX11_seen 33 = .ok (.ifCond .ne 6, 3) := by decide +kernel
theorem dX11_seen_36 : decode cX11_seen 36 = .ok (.bipush (-2), 2) := by decide +kernel
theorem dX11_seen_38 : decode cX11_seen 38 = .ok (.ireturn, 1) := by decide +kernel
theorem dX11_seen_39 : decode cX11_seen 39 = .ok (.aload_n 0, 1) := by decide +kernel
theorem dX11_seen_40 : decode cX11_seen 40 = .ok (.getfield 19, 3) := by decide +kernel
theorem dX11_seen_43 : decode cX11_seen 43 = .ok (.iload_n 2, 1) := by decide +kernel
theorem dX11_seen_44 : decode cX11_seen 44 = .ok (.invokevirtual 174, 3) := by decide +kernel
theorem dX11_seen_47 : decode cX11_seen 47 = .ok (.iconst 0, 1) := by decide +kernel
theorem dX11_seen_48 : decode cX11_seen 48 = .ok (.istore 5, 2) := by decide +kernel
theorem dX11_seen_50 : decode cX11_seen 50 = .ok (.iload 5, 2) := by decide +kernel
theorem dX11_seen_52 : decode cX11_seen 52 = .ok (.bipush 8, 2) := by decide +kernel
theorem dX11_seen_54 : decode cX11_seen 54 = .ok (.if_icmp .ge 27, 3) := by decide +kernel
theorem dX11_seen_57 : decode cX11_seen 57 = .ok (.aload_n 0, 1) := by decide +kernel
theorem dX11_seen_58 : decode cX11_seen 58 = .ok (.getfield 44, 3) := by decide +kernel
theorem dX11_seen_61 : decode cX11_seen 61 = .ok (.iload 5, 2) := by decide +kernel
theorem dX11_seen_63 : decode cX11_seen 63 = .ok (.aload 4, 2) := by decide +kernel
theorem dX11_seen_65 : decode cX11_seen 65 = .ok (.aload_n 0, 1) := by decide +kernel
theorem dX11_seen_66 : decode cX11_seen 66 = .ok (.getfield 12, 3) := by decide +kernel
theorem dX11_seen_69 : decode cX11_seen 69 = .ok (.iload 5, 2) := by decide +kernel
theorem dX11_seen_71 : decode cX11_seen 71 = .ok (.invokevirtual 170, 3) := by decide +kernel
theorem dX11_seen_74 : decode cX11_seen 74 = .ok (.iastore, 1) := by decide +kernel
theorem dX11_seen_75 : decode cX11_seen 75 = .ok (.iinc 5 1, 3) := by decide +kernel
theorem dX11_seen_78 : decode cX11_seen 78 = .ok (.goto (-28), 3) := by decide +kernel
theorem dX11_seen_81 : decode cX11_seen 81 = .ok (.aload_n 0, 1) := by decide +kernel
theorem dX11_seen_82 : decode cX11_seen 82 = .ok (.getfield 19, 3) := by decide +kernel
theorem dX11_seen_85 : decode cX11_seen 85 = .ok (.iload_n 3, 1) := by decide +kernel
theorem dX11_seen_86 : decode cX11_seen 86 = .ok (.aload_n 0, 1) := by decide +kernel
theorem dX11_seen_87 : decode cX11_seen 87 = .ok (.getfield 44, 3) := by decide +kernel
theorem dX11_seen_90 : decode cX11_seen 90 = .ok (.invokevirtual 178, 3) := by decide +kernel
theorem dX11_seen_93 : decode cX11_seen 93 = .ok (.ireturn, 1) := by decide +kernel
theorem dX11_over_0 : decode cX11_over 0 = .ok (.aload_n 0, 1) := by decide +kernel
theorem dX11_over_1 : decode cX11_over 1 = .ok (.iload_n 1, 1) := by decide +kernel
theorem dX11_over_2 : decode cX11_over 2 = .ok (.invokevirtual 147, 3) := by decide +kernel
theorem dX11_over_5 : decode cX11_over 5 = .ok (.astore 5, 2) := by decide +kernel
theorem dX11_over_7 : decode cX11_over 7 = .ok (.aload 5, 2) := by decide +kernel
theorem dX11_over_9 : decode cX11_over 9 = .ok (.ifnull 29, 3) := by decide +kernel
theorem dX11_over_12 : decode cX11_over 12 = .ok (.iload_n 2, 1) := by decide +kernel
theorem dX11_over_13 : decode cX11_over 13 = .ok (.invokestatic 98, 3) := by decide +kernel
theorem dX11_over_16 : decode cX11_over 16 = .ok (.ifCond .eq 22, 3) := by decide +kernel
theorem dX11_over_19 : decode cX11_over 19 = .ok (.iload_n 3, 1) := by decide +kernel
theorem dX11_over_20 : decode cX11_over 20 = .ok (.iconst 1, 1) := by decide +kernel
theorem dX11_over_21 : decode cX11_over 21 = .ok (.sipush 200, 3) := by decide +kernel
theorem dX11_over_24 : decode cX11_over 24 = .ok (.invokestatic 77, 3) := by decide +kernel
theorem dX11_over_27 : decode cX11_over 27 = .ok (.ifCond .eq 11, 3) := by decide +kernel
theorem dX11_over_30 : decode cX11_over 30 = .ok (.iload 4, 2) := by decide +kernel
theorem dX11_over_32 : decode cX11_over 32 = .ok (.invokestatic 182, 3) := by decide +kernel
theorem dX11_over_35 : decode cX11_over 35 = .ok (.ifCond .ne 5, 3) := by decide +kernel
theorem dX11_over_38 : decode cX11_over 38 = .ok (.iconst (-1), 1) := by decide +kernel
theorem dX11_over_39 : decode cX11_over 39 = .ok (.ireturn, 1) := by decide +kernel
theorem dX11_over_40 : decode cX11_over 40 = .ok (.aload 5, 2) := by decide +kernel
theorem dX11_over_42 : decode cX11_over 42 = .ok (.getfield 151, 3) := by decide +kernel
theorem dX11_over_45 : decode cX11_over 45 = .ok (.ifCond .ne 6, 3) := by decide +kernel
theorem dX11_over_48 : decode cX11_over 48 = .ok (.bipush (-2), 2) := by decide +kernel
theorem dX11_over_50 : decode cX11_over 50 = .ok (.ireturn, 1) := by decide +kernel
theorem dX11_over_51 : decode cX11_over 51 = .ok (.aload 5, 2) := by decide +kernel
theorem dX11_over_53 : decode cX11_over 53 = .ok (.aload_n 0, 1) := by decide +kernel
theorem dX11_over_54 : decode cX11_over 54 = .ok (.getfield 12, 3) := by decide +kernel
theorem dX11_over_57 : decode cX11_over 57 = .ok (.iload_n 2, 1) := by decide +kernel
theorem dX11_over_58 : decode cX11_over 58 = .ok (.iconst 0, 1) := by decide +kernel
theorem dX11_over_59 : decode cX11_over 59 = .ok (.invokevirtual 185, 3) := by decide +kernel
theorem dX11_over_62 : decode cX11_over 62 = .ok (.istore 6, 2) := by decide +kernel
theorem dX11_over_64 : decode cX11_over 64 = .ok (.aload 5, 2) := by decide +kernel
theorem dX11_over_66 : decode cX11_over 66 = .ok (.aload_n 0, 1) := by decide +kernel
theorem dX11_over_67 : decode cX11_over 67 = .ok (.getfield 12, 3) := by decide +kernel
theorem dX11_over_70 : decode cX11_over 70 = .ok (.iload_n 2, 1) := by decide +kernel
theorem dX11_over_71 : decode cX11_over 71 = .ok (.invokevirtual 189, 3) := by decide +kernel
theorem dX11_over_74 : decode cX11_over 74 = .ok (.istore 7, 2) := by decide +kernel
theorem dX11_over_76 : decode cX11_over 76 = .ok (.iload 6, 2) := by decide +kernel
theorem dX11_over_78 : decode cX11_over 78 = .ok (.iload 7, 2) := by decide +kernel
theorem dX11_over_80 : decode cX11_over 80 = .ok (.invokestatic 192, 3) := by decide +kernel
theorem dX11_over_83 : decode cX11_over 83 = .ok (.iload 6, 2) := by decide +kernel
theorem dX11_over_85 : decode cX11_over 85 = .ok (.iload 7, 2) := by decide +kernel
theorem dX11_over_87 : decode cX11_over 87 = .ok (.invokestatic 197, 3) := by decide +kernel
theorem dX11_over_90 : decode cX11_over 90 = .ok (.iload_n 3, 1) := by decide +kernel
theorem dX11_over_91 : decode cX11_over 91 = .ok (.iload 4, 2) := by decide +kernel
theorem dX11_over_93 : decode cX11_over 93 = .ok (.invokestatic 200, 3) := by decide +kernel
theorem dX11_over_96 : decode cX11_over 96 = .ok (.ireturn, 1) := by decide +kernel
theorem dX11_hiding_0 : decode cX11_hiding 0 = .ok (.aload_n 0, 1) := by decide +kernel
theorem dX11_hiding_1 : decode cX11_hiding 1 = .ok (.iload_n 1, 1) := by decide +kernel
theorem dX11_hiding_2 : decode cX11_hiding 2 = .ok (.invokevirtual 147, 3) := by decide +kernel
theorem dX11_hiding_5 : decode cX11_hiding 5 = .ok (.astore_n 3, 1) := by decide +kernel
theorem dX11_hiding_6 : decode cX11_hiding 6 = .ok (.aload_n 3, 1) := by decide +kernel
theorem dX11_hiding_7 : decode cX11_hiding 7 = .ok (.ifnull 10, 3) := by decide +kernel
theorem dX11_hiding_10 : decode cX11_hiding 10 = .ok (.iload_n 2, 1) := by decide +kernel
theorem dX11_hiding_11 : decode cX11_hiding 11 = .ok (.invokestatic 182, 3) := by decide +kernel
theorem dX11_hiding_14 : decode cX11_hiding 14 = .ok (.ifCond .ne 5, 3) := by decide +kernel
theorem dX11_hiding_17 : decode cX11_hiding 17 = .ok (.iconst (-1), 1) := by decide +kernel
theorem dX11_hiding_18 : decode cX11_hiding 18 = .ok (.ireturn, 1) := by decide +kernel
theorem dX11_hiding_19 : decode cX11_hiding 19 = .ok (.aload_n 3, 1) := by decide +kernel
theorem dX11_hiding_20 : decode cX11_hiding 20 = .ok (.getfield 151, 3) := by decide +kernel
theorem dX11_hiding_23 : decode cX11_hiding 23 = .ok (.ifCond .ne 6, 3) := by decide +kernel
theorem dX11_hiding_26 : decode cX11_hiding 26 = .ok (.bipush (-2), 2) := by decide +kernel
theorem dX11_hiding_28 : decode cX11_hiding 28 = .ok (.ireturn, 1) := by decide +kernel
theorem dX11_hiding_29 : decode cX11_hiding 29 = .ok (.iconst 1, 1) := by decide +kernel
theorem dX11_hiding_30 : decode cX11_hiding 30 = .ok (.istore 4, 2) := by decide +kernel
theorem dX11_hiding_32 : decode cX11_hiding 32 = .ok (.iconst 0, 1) := by decide +kernel
theorem dX11_hiding_33 : decode cX11_hiding 33 = .ok (.istore 5, 2) := by decide +kernel
theorem dX11_hiding_35 : decode cX11_hiding 35 = .ok (.iload 5, 2) := by decide +kernel
theorem dX11_hiding_37 : decode cX11_hiding 37 = .ok (.bipush 8, 2) := by decide +kernel
theorem dX11_hiding_39 : decode cX11_hiding 39 = .ok (.if_icmp .ge 67, 3) := by decide +kernel
theorem dX11_hiding_42 : decode cX11_hiding 42 = .ok (.iload 4, 2) := by decide +kernel
theorem dX11_hiding_44 : decode cX11_hiding 44 = .ok (.sipush 200, 3) := by decide +kernel
theorem dX11_hiding_47 : decode cX11_hiding 47 = .ok (.if_icmp .gt 59, 3) := by decide +kernel
theorem dX11_hiding_50 : decode cX11_hiding 50 = .ok (.aload_n 3, 1) := by decide +kernel
theorem dX11_hiding_51 : decode cX11_hiding 51 = .ok (.aload_n 0, 1) := by decide +kernel
theorem dX11_hiding_52 : decode cX11_hiding 52 = .ok (.getfield 12, 3) := by decide +kernel
theorem dX11_hiding_55 : decode cX11_hiding 55 = .ok (.iload 5, 2) := by decide +kernel
theorem dX11_hiding_57 : decode cX11_hiding 57 = .ok (.iconst 0, 1) := by decide +kernel
theorem dX11_hiding_58 : decode cX11_hiding 58 = .ok (.invokevirtual 185, 3) := by decide +kernel
theorem dX11_hiding_61 : decode cX11_hiding 61 = .ok (.istore 6, 2) := by decide +kernel
theorem dX11_hiding_63 : decode cX11_hiding 63 = .ok (.aload_n 3, 1) := by decide +kernel
theorem dX11_hiding_64 : decode cX11_hiding 64 = .ok (.aload_n 0, 1) := by decide +kernel
theorem dX11_hiding_65 : decode cX11_hiding 65 = .ok (.getfield 12, 3) := by decide +kernel
theorem dX11_hiding_68 : decode cX11_hiding 68 = .ok (.iload 5, 2) := by decide +kernel
theorem dX11_hiding_70 : decode cX11_hiding 70 = .ok (.invokevirtual 189, 3) := by decide +kernel
theorem dX11_hiding_73 : decode cX11_hiding 73 = .ok (.istore 7, 2) := by decide +kernel
theorem dX11_hiding_75 : decode cX11_hiding 75 = .ok (.iload 4, 2) := by decide +kernel
theorem dX11_hiding_77 : decode cX11_hiding 77 = .ok (.iload 6, 2) := by decide +kernel
theorem dX11_hiding_79 : decode cX11_hiding 79 = .ok (.iload 7, 2) := by decide +kernel
theorem dX11_hiding_81 : decode cX11_hiding 81 = .ok (.invokestatic 192, 3) := by decide +kernel
theorem dX11_hiding_84 : decode cX11_hiding 84 = .ok (.iload 6, 2) := by decide +kernel
