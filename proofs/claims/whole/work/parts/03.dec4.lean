theorem dX12_tube_36 : decode cX12_tube 36 = .ok (.getfield 92, 3) := by decide +kernel
theorem dX12_tube_39 : decode cX12_tube 39 = .ok (.bipush 12, 2) := by decide +kernel
theorem dX12_tube_41 : decode cX12_tube 41 = .ok (.if_icmp .ne 6, 3) := by decide +kernel
theorem dX12_tube_44 : decode cX12_tube 44 = .ok (.bipush (-3), 2) := by decide +kernel
theorem dX12_tube_46 : decode cX12_tube 46 = .ok (.ireturn, 1) := by decide +kernel
theorem dX12_tube_47 : decode cX12_tube 47 = .ok (.iconst 0, 1) := by decide +kernel
theorem dX12_tube_48 : decode cX12_tube 48 = .ok (.istore 4, 2) := by decide +kernel
theorem dX12_tube_50 : decode cX12_tube 50 = .ok (.iload 4, 2) := by decide +kernel
theorem dX12_tube_52 : decode cX12_tube 52 = .ok (.bipush 8, 2) := by decide +kernel
theorem dX12_tube_54 : decode cX12_tube 54 = .ok (.if_icmp .ge 43, 3) := by decide +kernel
theorem dX12_tube_57 : decode cX12_tube 57 = .ok (.aload_n 0, 1) := by decide +kernel
theorem dX12_tube_58 : decode cX12_tube 58 = .ok (.getfield 13, 3) := by decide +kernel
theorem dX12_tube_61 : decode cX12_tube 61 = .ok (.bipush 8, 2) := by decide +kernel
theorem dX12_tube_63 : decode cX12_tube 63 = .ok (.aload_n 0, 1) := by decide +kernel
theorem dX12_tube_64 : decode cX12_tube 64 = .ok (.getfield 92, 3) := by decide +kernel
theorem dX12_tube_67 : decode cX12_tube 67 = .ok (.imul, 1) := by decide +kernel
theorem dX12_tube_68 : decode cX12_tube 68 = .ok (.iload 4, 2) := by decide +kernel
theorem dX12_tube_70 : decode cX12_tube 70 = .ok (.iadd, 1) := by decide +kernel
theorem dX12_tube_71 : decode cX12_tube 71 = .ok (.bipush 100, 2) := by decide +kernel
theorem dX12_tube_73 : decode cX12_tube 73 = .ok (.iastore, 1) := by decide +kernel
theorem dX12_tube_74 : decode cX12_tube 74 = .ok (.aload_n 0, 1) := by decide +kernel
theorem dX12_tube_75 : decode cX12_tube 75 = .ok (.getfield 17, 3) := by decide +kernel
theorem dX12_tube_78 : decode cX12_tube 78 = .ok (.bipush 8, 2) := by decide +kernel
theorem dX12_tube_80 : decode cX12_tube 80 = .ok (.aload_n 0, 1) := by decide +kernel
theorem dX12_tube_81 : decode cX12_tube 81 = .ok (.getfield 92, 3) := by decide +kernel
theorem dX12_tube_84 : decode cX12_tube 84 = .ok (.imul, 1) := by decide +kernel
theorem dX12_tube_85 : decode cX12_tube 85 = .ok (.iload 4, 2) := by decide +kernel
theorem dX12_tube_87 : decode cX12_tube 87 = .ok (.iadd, 1) := by decide +kernel
theorem dX12_tube_88 : decode cX12_tube 88 = .ok (.bipush 100, 2) := by decide +kernel
theorem dX12_tube_90 : decode cX12_tube 90 = .ok (.iastore, 1) := by decide +kernel
theorem dX12_tube_91 : decode cX12_tube 91 = .ok (.iinc 4 1, 3) := by decide +kernel
theorem dX12_tube_94 : decode cX12_tube 94 = .ok (.goto (-44), 3) := by decide +kernel
theorem dX12_tube_97 : decode cX12_tube 97 = .ok (.aload_n 0, 1) := by decide +kernel
theorem dX12_tube_98 : decode cX12_tube 98 = .ok (.getfield 20, 3) := by decide +kernel
theorem dX12_tube_101 : decode cX12_tube 101 = .ok (.aload_n 0, 1) := by decide +kernel
theorem dX12_tube_102 : decode cX12_tube 102 = .ok (.getfield 92, 3) := by decide +kernel
theorem dX12_tube_105 : decode cX12_tube 105 = .ok (.iload_n 1, 1) := by decide +kernel
theorem dX12_tube_106 : decode cX12_tube 106 = .ok (.iastore, 1) := by decide +kernel
theorem dX12_tube_107 : decode cX12_tube 107 = .ok (.aload_n 0, 1) := by decide +kernel
theorem dX12_tube_108 : decode cX12_tube 108 = .ok (.getfield 23, 3) := by decide +kernel
theorem dX12_tube_111 : decode cX12_tube 111 = .ok (.aload_n 0, 1) := by decide +kernel
theorem dX12_tube_112 : decode cX12_tube 112 = .ok (.getfield 92, 3) := by decide +kernel
theorem dX12_tube_115 : decode cX12_tube 115 = .ok (.iload_n 2, 1) := by decide +kernel
theorem dX12_tube_116 : decode cX12_tube 116 = .ok (.iastore, 1) := by decide +kernel
theorem dX12_tube_117 : decode cX12_tube 117 = .ok (.aload_n 0, 1) := by decide +kernel
theorem dX12_tube_118 : decode cX12_tube 118 = .ok (.getfield 26, 3) := by decide +kernel
theorem dX12_tube_121 : decode cX12_tube 121 = .ok (.aload_n 0, 1) := by decide +kernel
theorem dX12_tube_122 : decode cX12_tube 122 = .ok (.getfield 92, 3) := by decide +kernel
theorem dX12_tube_125 : decode cX12_tube 125 = .ok (.iload_n 3, 1) := by decide +kernel
theorem dX12_tube_126 : decode cX12_tube 126 = .ok (.iastore, 1) := by decide +kernel
theorem dX12_tube_127 : decode cX12_tube 127 = .ok (.aload_n 0, 1) := by decide +kernel
theorem dX12_tube_128 : decode cX12_tube 128 = .ok (.dup, 1) := by decide +kernel
theorem dX12_tube_129 : decode cX12_tube 129 = .ok (.getfield 92, 3) := by decide +kernel
theorem dX12_tube_132 : decode cX12_tube 132 = .ok (.iconst 1, 1) := by decide +kernel
theorem dX12_tube_133 : decode cX12_tube 133 = .ok (.iadd, 1) := by decide +kernel
theorem dX12_tube_134 : decode cX12_tube 134 = .ok (.putfield 92, 3) := by decide +kernel
theorem dX12_tube_137 : decode cX12_tube 137 = .ok (.aload_n 0, 1) := by decide +kernel
theorem dX12_tube_138 : decode cX12_tube 138 = .ok (.getfield 92, 3) := by decide +kernel
theorem dX12_tube_141 : decode cX12_tube 141 = .ok (.iconst 1, 1) := by decide +kernel
theorem dX12_tube_142 : decode cX12_tube 142 = .ok (.isub, 1) := by decide +kernel
theorem dX12_tube_143 : decode cX12_tube 143 = .ok (.ireturn, 1) := by decide +kernel
theorem dX12_band_0 : decode cX12_band 0 = .ok (.aload_n 0, 1) := by decide +kernel
theorem dX12_band_1 : decode cX12_band 1 = .ok (.iload_n 1, 1) := by decide +kernel
theorem dX12_band_2 : decode cX12_band 2 = .ok (.invokevirtual 99, 3) := by decide +kernel
theorem dX12_band_5 : decode cX12_band 5 = .ok (.ifCond .eq 33, 3) := by decide +kernel
theorem dX12_band_8 : decode cX12_band 8 = .ok (.iload_n 2, 1) := by decide +kernel
theorem dX12_band_9 : decode cX12_band 9 = .ok (.invokestatic 103, 3) := by decide +kernel
theorem dX12_band_12 : decode cX12_band 12 = .ok (.ifCond .eq 26, 3) := by decide +kernel
theorem dX12_band_15 : decode cX12_band 15 = .ok (.iload_n 3, 1) := by decide +kernel
theorem dX12_band_16 : decode cX12_band 16 = .ok (.iconst 0, 1) := by decide +kernel
theorem dX12_band_17 : decode cX12_band 17 = .ok (.sipush 999, 3) := by decide +kernel
theorem dX12_band_20 : decode cX12_band 20 = .ok (.invokestatic 95, 3) := by decide +kernel
theorem dX12_band_23 : decode cX12_band 23 = .ok (.ifCond .eq 15, 3) := by decide +kernel
theorem dX12_band_26 : decode cX12_band 26 = .ok (.iload 4, 2) := by decide +kernel
theorem dX12_band_28 : decode cX12_band 28 = .ok (.iconst 1, 1) := by decide +kernel
theorem dX12_band_29 : decode cX12_band 29 = .ok (.sipush 999, 3) := by decide +kernel
theorem dX12_band_32 : decode cX12_band 32 = .ok (.invokestatic 95, 3) := by decide +kernel
theorem dX12_band_35 : decode cX12_band 35 = .ok (.ifCond .ne 5, 3) := by decide +kernel
theorem dX12_band_38 : decode cX12_band 38 = .ok (.iconst (-1), 1) := by decide +kernel
theorem dX12_band_39 : decode cX12_band 39 = .ok (.ireturn, 1) := by decide +kernel
theorem dX12_band_40 : decode cX12_band 40 = .ok (.aload_n 0, 1) := by decide +kernel
theorem dX12_band_41 : decode cX12_band 41 = .ok (.getfield 13, 3) := by decide +kernel
theorem dX12_band_44 : decode cX12_band 44 = .ok (.bipush 8, 2) := by decide +kernel
theorem dX12_band_46 : decode cX12_band 46 = .ok (.iload_n 1, 1) := by decide +kernel
theorem dX12_band_47 : decode cX12_band 47 = .ok (.imul, 1) := by decide +kernel
theorem dX12_band_48 : decode cX12_band 48 = .ok (.iload_n 2, 1) := by decide +kernel
theorem dX12_band_49 : decode cX12_band 49 = .ok (.iadd, 1) := by decide +kernel
theorem dX12_band_50 : decode cX12_band 50 = .ok (.iload_n 3, 1) := by decide +kernel
theorem dX12_band_51 : decode cX12_band 51 = .ok (.iastore, 1) := by decide +kernel
theorem dX12_band_52 : decode cX12_band 52 = .ok (.aload_n 0, 1) := by decide +kernel
theorem dX12_band_53 : decode cX12_band 53 = .ok (.getfield 17, 3) := by decide +kernel
theorem dX12_band_56 : decode cX12_band 56 = .ok (.bipush 8, 2) := by decide +kernel
theorem dX12_band_58 : decode cX12_band 58 = .ok (.iload_n 1, 1) := by decide +kernel
theorem dX12_band_59 : decode cX12_band 59 = .ok (.imul, 1) := by decide +kernel
theorem dX12_band_60 : decode cX12_band 60 = .ok (.iload_n 2, 1) := by decide +kernel
theorem dX12_band_61 : decode cX12_band 61 = .ok (.iadd, 1) := by decide +kernel
theorem dX12_band_62 : decode cX12_band 62 = .ok (.iload 4, 2) := by decide +kernel
theorem dX12_band_64 : decode cX12_band 64 = .ok (.iastore, 1) := by decide +kernel
theorem dX12_band_65 : decode cX12_band 65 = .ok (.iconst 1, 1) := by decide +kernel
theorem dX12_band_66 : decode cX12_band 66 = .ok (.ireturn, 1) := by decide +kernel
theorem dX12_inPots_0 : decode cX12_inPots 0 = .ok (.iconst 0, 1) := by decide +kernel
theorem dX12_inPots_1 : decode cX12_inPots 1 = .ok (.istore_n 2, 1) := by decide +kernel
theorem dX12_inPots_2 : decode cX12_inPots 2 = .ok (.iconst 0, 1) := by decide +kernel
theorem dX12_inPots_3 : decode cX12_inPots 3 = .ok (.istore_n 3, 1) := by decide +kernel
theorem dX12_inPots_4 : decode cX12_inPots 4 = .ok (.iload_n 3, 1) := by decide +kernel
theorem dX12_inPots_5 : decode cX12_inPots 5 = .ok (.bipush 10, 2) := by decide +kernel
theorem dX12_inPots_7 : decode cX12_inPots 7 = .ok (.if_icmp .ge 23, 3) := by decide +kernel
theorem dX12_inPots_10 : decode cX12_inPots 10 = .ok (.iload_n 2, 1) := by decide +kernel
theorem dX12_inPots_11 : decode cX12_inPots 11 = .ok (.aload_n 0, 1) := by decide +kernel
theorem dX12_inPots_12 : decode cX12_inPots 12 = .ok (.getfield 44, 3) := by decide +kernel
theorem dX12_inPots_15 : decode cX12_inPots 15 = .ok (.bipush 12, 2) := by decide +kernel
theorem dX12_inPots_17 : decode cX12_inPots 17 = .ok (.iload_n 3, 1) := by decide +kernel
theorem dX12_inPots_18 : decode cX12_inPots 18 = .ok (.imul, 1) := by decide +kernel
theorem dX12_inPots_19 : decode cX12_inPots 19 = .ok (.iload_n 1, 1) := by decide +kernel
theorem dX12_inPots_20 : decode cX12_inPots 20 = .ok (.iadd, 1) := by decide +kernel
theorem dX12_inPots_21 : decode cX12_inPots 21 = .ok (.iaload, 1) := by decide +kernel
theorem dX12_inPots_22 : decode cX12_inPots 22 = .ok (.iadd, 1) := by decide +kernel
theorem dX12_inPots_23 : decode cX12_inPots 23 = .ok (.istore_n 2, 1) := by decide +kernel
theorem dX12_inPots_24 : decode cX12_inPots 24 = .ok (.iinc 3 1, 3) := by decide +kernel
theorem dX12_inPots_27 : decode cX12_inPots 27 = .ok (.goto (-23), 3) := by decide +kernel
theorem dX12_inPots_30 : decode cX12_inPots 30 = .ok (.iload_n 2, 1) := by decide +kernel
theorem dX12_inPots_31 : decode cX12_inPots 31 = .ok (.ireturn, 1) := by decide +kernel
theorem dX12_ofTube_0 : decode cX12_ofTube 0 = .ok (.aload_n 0, 1) := by decide +kernel
theorem dX12_ofTube_1 : decode cX12_ofTube 1 = .ok (.iload_n 1, 1) := by decide +kernel
theorem dX12_ofTube_2 : decode cX12_ofTube 2 = .ok (.invokevirtual 99, 3) := by decide +kernel
theorem dX12_ofTube_5 : decode cX12_ofTube 5 = .ok (.ifCond .ne 5, 3) := by decide +kernel
theorem dX12_ofTube_8 : decode cX12_ofTube 8 = .ok (.iconst (-1), 1) := by decide +kernel
theorem dX12_ofTube_9 : decode cX12_ofTube 9 = .ok (.ireturn, 1) := by decide +kernel
theorem dX12_ofTube_10 : decode cX12_ofTube 10 = .ok (.iload_n 2, 1) := by decide +kernel
theorem dX12_ofTube_11 : decode cX12_ofTube 11 = .ok (.tableswitch 78 0 5 #[37, 44, 51, 58, 64, 71], 37) := by decide +kernel
theorem dX12_ofTube_48 : decode cX12_ofTube 48 = .ok (.aload_n 0, 1) := by decide +kernel
theorem dX12_ofTube_49 : decode cX12_ofTube 49 = .ok (.getfield 20, 3) := by decide +kernel
theorem dX12_ofTube_52 : decode cX12_ofTube 52 = .ok (.iload_n 1, 1) := by decide +kernel
theorem dX12_ofTube_53 : decode cX12_ofTube 53 = .ok (.iaload, 1) := by decide +kernel
theorem dX12_ofTube_54 : decode cX12_ofTube 54 = .ok (.ireturn, 1) := by decide +kernel
theorem dX12_ofTube_55 : decode cX12_ofTube 55 = .ok (.aload_n 0, 1) := by decide +kernel
theorem dX12_ofTube_56 : decode cX12_ofTube 56 = .ok (.getfield 23, 3) := by decide +kernel
theorem dX12_ofTube_59 : decode cX12_ofTube 59 = .ok (.iload_n 1, 1) := by decide +kernel
theorem dX12_ofTube_60 : decode cX12_ofTube 60 = .ok (.iaload, 1) := by decide +kernel
theorem dX12_ofTube_61 : decode cX12_ofTube 61 = .ok (.ireturn, 1) := by decide +kernel
theorem dX12_ofTube_62 : decode cX12_ofTube 62 = .ok (.aload_n 0, 1) := by decide +kernel
theorem dX12_ofTube_63 : decode cX12_ofTube 63 = .ok (.getfield 26, 3) := by decide +kernel
theorem dX12_ofTube_66 : decode cX12_ofTube 66 = .ok (.iload_n 1, 1) := by decide +kernel
theorem dX12_ofTube_67 : decode cX12_ofTube 67 = .ok (.iaload, 1) := by decide +kernel
theorem dX12_ofTube_68 : decode cX12_ofTube 68 = .ok (.ireturn, 1) := by decide +kernel
theorem dX12_ofTube_69 : decode cX12_ofTube 69 = .ok (.aload_n 0, 1) := by decide +kernel
theorem dX12_ofTube_70 : decode cX12_ofTube 70 = .ok (.iload_n 1, 1) := by decide +kernel
theorem dX12_ofTube_71 : decode cX12_ofTube 71 = .ok (.invokevirtual 106, 3) := by decide +kernel
theorem dX12_ofTube_74 : decode cX12_ofTube 74 = .ok (.ireturn, 1) := by decide +kernel
theorem dX12_ofTube_75 : decode cX12_ofTube 75 = .ok (.aload_n 0, 1) := by decide +kernel
theorem dX12_ofTube_76 : decode cX12_ofTube 76 = .ok (.getfield 29, 3) := by decide +kernel
theorem dX12_ofTube_79 : decode cX12_ofTube 79 = .ok (.iload_n 1, 1) := by decide +kernel
theorem dX12_ofTube_80 : decode cX12_ofTube 80 = .ok (.iaload, 1) := by decide +kernel
theorem dX12_ofTube_81 : decode cX12_ofTube 81 = .ok (.ireturn, 1) := by decide +kernel
theorem dX12_ofTube_82 : decode cX12_ofTube 82 = .ok (.aload_n 0, 1) := by decide +kernel
theorem dX12_ofTube_83 : decode cX12_ofTube 83 = .ok (.getfield 32, 3) := by decide +kernel
theorem dX12_ofTube_86 : decode cX12_ofTube 86 = .ok (.iload_n 1, 1) := by decide +kernel
theorem dX12_ofTube_87 : decode cX12_ofTube 87 = .ok (.iaload, 1) := by decide +kernel
theorem dX12_ofTube_88 : decode cX12_ofTube 88 = .ok (.ireturn, 1) := by decide +kernel
theorem dX12_ofTube_89 : decode cX12_ofTube 89 = .ok (.iconst (-1), 1) := by decide +kernel
theorem dX12_ofTube_90 : decode cX12_ofTube 90 = .ok (.ireturn, 1) := by decide +kernel
theorem dX12_faded_0 : decode cX12_faded 0 = .ok (.aload_n 0, 1) := by decide +kernel
theorem dX12_faded_1 : decode cX12_faded 1 = .ok (.getfield 13, 3) := by decide +kernel
theorem dX12_faded_4 : decode cX12_faded 4 = .ok (.bipush 8, 2) := by decide +kernel
theorem dX12_faded_6 : decode cX12_faded 6 = .ok (.iload_n 1, 1) := by decide +kernel
theorem dX12_faded_7 : decode cX12_faded 7 = .ok (.imul, 1) := by decide +kernel
theorem dX12_faded_8 : decode cX12_faded 8 = .ok (.iload_n 2, 1) := by decide +kernel
theorem dX12_faded_9 : decode cX12_faded 9 = .ok (.iadd, 1) := by decide +kernel
theorem dX12_faded_10 : decode cX12_faded 10 = .ok (.iaload, 1) := by decide +kernel
theorem dX12_faded_11 : decode cX12_faded 11 = .ok (.istore 4, 2) := by decide +kernel
theorem dX12_faded_13 : decode cX12_faded 13 = .ok (.iconst 0, 1) := by decide +kernel
theorem dX12_faded_14 : decode cX12_faded 14 = .ok (.istore 5, 2) := by decide +kernel
theorem dX12_faded_16 : decode cX12_faded 16 = .ok (.iload 5, 2) := by decide +kernel
theorem dX12_faded_18 : decode cX12_faded 18 = .ok (.iload_n 3, 1) := by decide +kernel
theorem dX12_faded_19 : decode cX12_faded 19 = .ok (.if_icmp .ge 33, 3) := by decide +kernel
theorem dX12_faded_22 : decode cX12_faded 22 = .ok (.iload 4, 2) := by decide +kernel
theorem dX12_faded_24 : decode cX12_faded 24 = .ok (.ifCond .le 28, 3) := by decide +kernel
theorem dX12_faded_27 : decode cX12_faded 27 = .ok (.iload 4, 2) := by decide +kernel
theorem dX12_faded_29 : decode cX12_faded 29 = .ok (.sipush 1000, 3) := by decide +kernel
theorem dX12_faded_32 : decode cX12_faded 32 = .ok (.aload_n 0, 1) := by decide +kernel
theorem dX12_faded_33 : decode cX12_faded 33 = .ok (.getfield 23, 3) := by decide +kernel
theorem dX12_faded_36 : decode cX12_faded 36 = .ok (.iload_n 1, 1) := by decide +kernel
theorem dX12_faded_37 : decode cX12_faded 37 = .ok (.iaload, 1) := by decide +kernel
theorem dX12_faded_38 : decode cX12_faded 38 = .ok (.isub, 1) := by decide +kernel
theorem dX12_faded_39 : decode cX12_faded 39 = .ok (.imul, 1) := by decide +kernel
theorem dX12_faded_40 : decode cX12_faded 40 = .ok (.sipush 1000, 3) := by decide +kernel
theorem dX12_faded_43 : decode cX12_faded 43 = .ok (.idiv, 1) := by decide +kernel
theorem dX12_faded_44 : decode cX12_faded 44 = .ok (.istore 4, 2) := by decide +kernel
theorem dX12_faded_46 : decode cX12_faded 46 = .ok (.iinc 5 1, 3) := by decide +kernel
theorem dX12_faded_49 : decode cX12_faded 49 = .ok (.goto (-33), 3) := by decide +kernel
theorem dX12_faded_52 : decode cX12_faded 52 = .ok (.iload 4, 2) := by decide +kernel
theorem dX12_faded_54 : decode cX12_faded 54 = .ok (.ireturn, 1) := by decide +kernel
theorem dX12_row_0 : decode cX12_row 0 = .ok (.aload_n 0, 1) := by decide +kernel
theorem dX12_row_1 : decode cX12_row 1 = .ok (.iload_n 1, 1) := by decide +kernel
theorem dX12_row_2 : decode cX12_row 2 = .ok (.invokevirtual 99, 3) := by decide +kernel
theorem dX12_row_5 : decode cX12_row 5 = .ok (.ifCond .eq 30, 3) := by decide +kernel
theorem dX12_row_8 : decode cX12_row 8 = .ok (.iload_n 2, 1) := by decide +kernel
theorem dX12_row_9 : decode cX12_row 9 = .ok (.invokestatic 103, 3) := by decide +kernel
theorem dX12_row_12 : decode cX12_row 12 = .ok (.ifCond .eq 23, 3) := by decide +kernel
theorem dX12_row_15 : decode cX12_row 15 = .ok (.iload_n 3, 1) := by decide +kernel
theorem dX12_row_16 : decode cX12_row 16 = .ok (.iconst 0, 1) := by decide +kernel
theorem dX12_row_17 : decode cX12_row 17 = .ok (.bipush 99, 2) := by decide +kernel
theorem dX12_row_19 : decode cX12_row 19 = .ok (.invokestatic 95, 3) := by decide +kernel
theorem dX12_row_22 : decode cX12_row 22 = .ok (.ifCond .eq 13, 3) := by decide +kernel
theorem dX12_row_25 : decode cX12_row 25 = .ok (.iload 4, 2) := by decide +kernel
theorem dX12_row_27 : decode cX12_row 27 = .ok (.iconst 0, 1) := by decide +kernel
theorem dX12_row_28 : decode cX12_row 28 = .ok (.iconst 1, 1) := by decide +kernel
theorem dX12_row_29 : decode cX12_row 29 = .ok (.invokestatic 95, 3) := by decide +kernel
theorem dX12_row_32 : decode cX12_row 32 = .ok (.ifCond .ne 7, 3) := by decide +kernel
theorem dX12_row_35 : decode cX12_row 35 = .ok (.iconst (-1), 1) := by decide +kernel
theorem dX12_row_36 : decode cX12_row 36 = .ok (.goto 29, 3) := by decide +kernel
theorem dX12_row_39 : decode cX12_row 39 = .ok (.iload 4, 2) := by decide +kernel
theorem dX12_row_41 : decode cX12_row 41 = .ok (.ifCond .ne 13, 3) := by decide +kernel
theorem dX12_row_44 : decode cX12_row 44 = .ok (.aload_n 0, 1) := by decide +kernel
theorem dX12_row_45 : decode cX12_row 45 = .ok (.iload_n 1, 1) := by decide +kernel
theorem dX12_row_46 : decode cX12_row 46 = .ok (.iload_n 2, 1) := by decide +kernel
theorem dX12_row_47 : decode cX12_row 47 = .ok (.iload_n 3, 1) := by decide +kernel
theorem dX12_row_48 : decode cX12_row 48 = .ok (.invokevirtual 110, 3) := by decide +kernel
theorem dX12_row_51 : decode cX12_row 51 = .ok (.goto 14, 3) := by decide +kernel
theorem dX12_row_54 : decode cX12_row 54 = .ok (.aload_n 0, 1) := by decide +kernel
theorem dX12_row_55 : decode cX12_row 55 = .ok (.getfield 17, 3) := by decide +kernel
theorem dX12_row_58 : decode cX12_row 58 = .ok (.bipush 8, 2) := by decide +kernel
theorem dX12_row_60 : decode cX12_row 60 = .ok (.iload_n 1, 1) := by decide +kernel
theorem dX12_row_61 : decode cX12_row 61 = .ok (.imul, 1) := by decide +kernel
theorem dX12_row_62 : decode cX12_row 62 = .ok (.iload_n 2, 1) := by decide +kernel
theorem dX12_row_63 : decode cX12_row 63 = .ok (.iadd, 1) := by decide +kernel
theorem dX12_row_64 : decode cX12_row 64 = .ok (.iaload, 1) := by decide +kernel
theorem dX12_row_65 : decode cX12_row 65 = .ok (.ireturn, 1) := by decide +kernel
theorem dX12_lamp_0 : decode cX12_lamp 0 = .ok (.iload_n 1, 1) := by decide +kernel
theorem dX12_lamp_1 : decode cX12_lamp 1 = .ok (.invokestatic 114, 3) := by decide +kernel
theorem dX12_lamp_4 : decode cX12_lamp 4 = .ok (.ifCond .eq 20, 3) := by decide +kernel
theorem dX12_lamp_7 : decode cX12_lamp 7 = .ok (.iload_n 2, 1) := by decide +kernel
theorem dX12_lamp_8 : decode cX12_lamp 8 = .ok (.invokestatic 103, 3) := by decide +kernel
theorem dX12_lamp_11 : decode cX12_lamp 11 = .ok (.ifCond .eq 13, 3) := by decide +kernel
theorem dX12_lamp_14 : decode cX12_lamp 14 = .ok (.iload_n 3, 1) := by decide +kernel
theorem dX12_lamp_15 : decode cX12_lamp 15 = .ok (.iconst 0, 1) := by decide +kernel
theorem dX12_lamp_16 : decode cX12_lamp 16 = .ok (.bipush 99, 2) := by decide +kernel
theorem dX12_lamp_18 : decode cX12_lamp 18 = .ok (.invokestatic 95, 3) := by decide +kernel
theorem dX12_lamp_21 : decode cX12_lamp 21 = .ok (.ifCond .ne 5, 3) := by decide +kernel
theorem dX12_lamp_24 : decode cX12_lamp 24 = .ok (.iconst (-1), 1) := by decide +kernel
theorem dX12_lamp_25 : decode cX12_lamp 25 = .ok (.ireturn, 1) := by decide +kernel
theorem dX12_lamp_26 : decode cX12_lamp 26 = .ok (.aload_n 0, 1) := by decide +kernel
theorem dX12_lamp_27 : decode cX12_lamp 27 = .ok (.getfield 35, 3) := by decide +kernel
theorem dX12_lamp_30 : decode cX12_lamp 30 = .ok (.bipush 8, 2) := by decide +kernel
theorem dX12_lamp_32 : decode cX12_lamp 32 = .ok (.iload_n 1, 1) := by decide +kernel
theorem dX12_lamp_33 : decode cX12_lamp 33 = .ok (.imul, 1) := by decide +kernel
theorem dX12_lamp_34 : decode cX12_lamp 34 = .ok (.iload_n 2, 1) := by decide +kernel
theorem dX12_lamp_35 : decode cX12_lamp 35 = .ok (.iadd, 1) := by decide +kernel
theorem dX12_lamp_36 : decode cX12_lamp 36 = .ok (.iaload, 1) := by decide +kernel
theorem dX12_lamp_37 : decode cX12_lamp 37 = .ok (.istore 4, 2) := by decide +kernel
theorem dX12_lamp_39 : decode cX12_lamp 39 = .ok (.aload_n 0, 1) := by decide +kernel
theorem dX12_lamp_40 : decode cX12_lamp 40 = .ok (.getfield 35, 3) := by decide +kernel
theorem dX12_lamp_43 : decode cX12_lamp 43 = .ok (.bipush 8, 2) := by decide +kernel
theorem dX12_lamp_45 : decode cX12_lamp 45 = .ok (.iload_n 1, 1) := by decide +kernel
theorem dX12_lamp_46 : decode cX12_lamp 46 = .ok (.imul, 1) := by decide +kernel
theorem dX12_lamp_47 : decode cX12_lamp 47 = .ok (.iload_n 2, 1) := by decide +kernel
theorem dX12_lamp_48 : decode cX12_lamp 48 = .ok (.iadd, 1) := by decide +kernel
theorem dX12_lamp_49 : decode cX12_lamp 49 = .ok (.iload_n 3, 1) := by decide +kernel
theorem dX12_lamp_50 : decode cX12_lamp 50 = .ok (.iastore, 1) := by decide +kernel
theorem dX12_lamp_51 : decode cX12_lamp 51 = .ok (.iload 4, 2) := by decide +kernel
theorem dX12_lamp_53 : decode cX12_lamp 53 = .ok (.ireturn, 1) := by decide +kernel
theorem dX12_eye_0 : decode cX12_eye 0 = .ok (.iload_n 1, 1) := by decide +kernel
theorem dX12_eye_1 : decode cX12_eye 1 = .ok (.invokestatic 117, 3) := by decide +kernel
theorem dX12_eye_4 : decode cX12_eye 4 = .ok (.ifCond .eq 20, 3) := by decide +kernel
theorem dX12_eye_7 : decode cX12_eye 7 = .ok (.iload_n 2, 1) := by decide +kernel
theorem dX12_eye_8 : decode cX12_eye 8 = .ok (.invokestatic 103, 3) := by decide +kernel
theorem dX12_eye_11 : decode cX12_eye 11 = .ok (.ifCond .eq 13, 3) := by decide +kernel
theorem dX12_eye_14 : decode cX12_eye 14 = .ok (.iload_n 3, 1) := by decide +kernel
theorem dX12_eye_15 : decode cX12_eye 15 = .ok (.iconst 0, 1) := by decide +kernel
theorem dX12_eye_16 : decode cX12_eye 16 = .ok (.bipush 99, 2) := by decide +kernel
theorem dX12_eye_18 : decode cX12_eye 18 = .ok (.invokestatic 95, 3) := by decide +kernel
theorem dX12_eye_21 : decode cX12_eye 21 = .ok (.ifCond .ne 5, 3) := by decide +kernel
theorem dX12_eye_24 : decode cX12_eye 24 = .ok (.iconst (-1), 1) := by decide +kernel
theorem dX12_eye_25 : decode cX12_eye 25 = .ok (.ireturn, 1) := by decide +kernel
theorem dX12_eye_26 : decode cX12_eye 26 = .ok (.aload_n 0, 1) := by decide +kernel
theorem dX12_eye_27 : decode cX12_eye 27 = .ok (.getfield 38, 3) := by decide +kernel
theorem dX12_eye_30 : decode cX12_eye 30 = .ok (.bipush 8, 2) := by decide +kernel
theorem dX12_eye_32 : decode cX12_eye 32 = .ok (.iload_n 1, 1) := by decide +kernel
theorem dX12_eye_33 : decode cX12_eye 33 = .ok (.imul, 1) := by decide +kernel
theorem dX12_eye_34 : decode cX12_eye 34 = .ok (.iload_n 2, 1) := by decide +kernel
theorem dX12_eye_35 : decode cX12_eye 35 = .ok (.iadd, 1) := by decide +kernel
theorem dX12_eye_36 : decode cX12_eye 36 = .ok (.iaload, 1) := by decide +kernel
theorem dX12_eye_37 : decode cX12_eye 37 = .ok (.istore 4, 2) := by decide +kernel
theorem dX12_eye_39 : decode cX12_eye 39 = .ok (.aload_n 0, 1) := by decide +kernel
theorem dX12_eye_40 : decode cX12_eye 40 = .ok (.getfield 38, 3) := by decide +kernel
theorem dX12_eye_43 : decode cX12_eye 43 = .ok (.bipush 8, 2) := by decide +kernel
theorem dX12_eye_45 : decode cX12_eye 45 = .ok (.iload_n 1, 1) := by decide +kernel
theorem dX12_eye_46 : decode cX12_eye 46 = .ok (.imul, 1) := by decide +kernel
theorem dX12_eye_47 : decode cX12_eye 47 = .ok (.iload_n 2, 1) := by decide +kernel
theorem dX12_eye_48 : decode cX12_eye 48 = .ok (.iadd, 1) := by decide +kernel
theorem dX12_eye_49 : decode cX12_eye 49 = .ok (.iload_n 3, 1) := by decide +kernel
theorem dX12_eye_50 : decode cX12_eye 50 = .ok (.iastore, 1) := by decide +kernel
theorem dX12_eye_51 : decode cX12_eye 51 = .ok (.iload 4, 2) := by decide +kernel
theorem dX12_eye_53 : decode cX12_eye 53 = .ok (.ireturn, 1) := by decide +kernel
theorem dX12_years_0 : decode cX12_years 0 = .ok (.iload_n 1, 1) := by decide +kernel
theorem dX12_years_1 : decode cX12_years 1 = .ok (.iconst 1, 1) := by decide +kernel
theorem dX12_years_2 : decode cX12_years 2 = .ok (.bipush 99, 2) := by decide +kernel
theorem dX12_years_4 : decode cX12_years 4 = .ok (.invokestatic 95, 3) := by decide +kernel
theorem dX12_years_7 : decode cX12_years 7 = .ok (.ifCond .eq 14, 3) := by decide +kernel
theorem dX12_years_10 : decode cX12_years 10 = .ok (.aload_n 0, 1) := by decide +kernel
theorem dX12_years_11 : decode cX12_years 11 = .ok (.getfield 120, 3) := by decide +kernel
theorem dX12_years_14 : decode cX12_years 14 = .ok (.iload_n 1, 1) := by decide +kernel
theorem dX12_years_15 : decode cX12_years 15 = .ok (.iadd, 1) := by decide +kernel
theorem dX12_years_16 : decode cX12_years 16 = .ok (.bipush 99, 2) := by decide +kernel
theorem dX12_years_18 : decode cX12_years 18 = .ok (.if_icmp .le 5, 3) := by decide +kernel
theorem dX12_years_21 : decode cX12_years 21 = .ok (.iconst (-1), 1) := by decide +kernel
theorem dX12_years_22 : decode cX12_years 22 = .ok (.ireturn, 1) := by decide +kernel
theorem dX12_years_23 : decode cX12_years 23 = .ok (.aload_n 0, 1) := by decide +kernel
theorem dX12_years_24 : decode cX12_years 24 = .ok (.dup, 1) := by decide +kernel
theorem dX12_years_25 : decode cX12_years 25 = .ok (.getfield 120, 3) := by decide +kernel
theorem dX12_years_28 : decode cX12_years 28 = .ok (.iload_n 1, 1) := by decide +kernel
theorem dX12_years_29 : decode cX12_years 29 = .ok (.iadd, 1) := by decide +kernel
theorem dX12_years_30 : decode cX12_years 30 = .ok (.putfield 120, 3) := by decide +kernel
theorem dX12_years_33 : decode cX12_years 33 = .ok (.aload_n 0, 1) := by decide +kernel
theorem dX12_years_34 : decode cX12_years 34 = .ok (.getfield 120, 3) := by decide +kernel
theorem dX12_years_37 : decode cX12_years 37 = .ok (.ireturn, 1) := by decide +kernel
theorem dX12_root_0 : decode cX12_root 0 = .ok (.lconst 0, 1) := by decide +kernel
theorem dX12_root_1 : decode cX12_root 1 = .ok (.lstore_n 2, 1) := by decide +kernel
theorem dX12_root_2 : decode cX12_root 2 = .ok (.ldc2_w 123, 3) := by decide +kernel
theorem dX12_root_5 : decode cX12_root 5 = .ok (.lstore 4, 2) := by decide +kernel
theorem dX12_root_7 : decode cX12_root 7 = .ok (.lload 4, 2) := by decide +kernel
theorem dX12_root_9 : decode cX12_root 9 = .ok (.lload_n 2, 1) := by decide +kernel
theorem dX12_root_10 : decode cX12_root 10 = .ok (.lsub, 1) := by decide +kernel
theorem dX12_root_11 : decode cX12_root 11 = .ok (.lconst 1, 1) := by decide +kernel
theorem dX12_root_12 : decode cX12_root 12 = .ok (.lcmp, 1) := by decide +kernel
theorem dX12_root_13 : decode cX12_root 13 = .ok (.ifCond .le 36, 3) := by decide +kernel
theorem dX12_root_16 : decode cX12_root 16 = .ok (.lload_n 2, 1) := by decide +kernel
theorem dX12_root_17 : decode cX12_root 17 = .ok (.lload 4, 2) := by decide +kernel
theorem dX12_root_19 : decode cX12_root 19 = .ok (.ladd, 1) := by decide +kernel
theorem dX12_root_20 : decode cX12_root 20 = .ok (.ldc2_w 125, 3) := by decide +kernel
theorem dX12_root_23 : decode cX12_root 23 = .ok (.ldiv, 1) := by decide +kernel
theorem dX12_root_24 : decode cX12_root 24 = .ok (.lstore 6, 2) := by decide +kernel
theorem dX12_root_26 : decode cX12_root 26 = .ok (.lload 6, 2) := by decide +kernel
theorem dX12_root_28 : decode cX12_root 28 = .ok (.lload 6, 2) := by decide +kernel
theorem dX12_root_30 : decode cX12_root 30 = .ok (.lmul, 1) := by decide +kernel
theorem dX12_root_31 : decode cX12_root 31 = .ok (.lload_n 0, 1) := by decide +kernel
theorem dX12_root_32 : decode cX12_root 32 = .ok (.lcmp, 1) := by decide +kernel
theorem dX12_root_33 : decode cX12_root 33 = .ok (.ifCond .gt 9, 3) := by decide +kernel
theorem dX12_root_36 : decode cX12_root 36 = .ok (.lload 6, 2) := by decide +kernel
theorem dX12_root_38 : decode cX12_root 38 = .ok (.lstore_n 2, 1) := by decide +kernel
theorem dX12_root_39 : decode cX12_root 39 = .ok (.goto 7, 3) := by decide +kernel
theorem dX12_root_42 : decode cX12_root 42 = .ok (.lload 6, 2) := by decide +kernel
theorem dX12_root_44 : decode cX12_root 44 = .ok (.lstore 4, 2) := by decide +kernel
theorem dX12_root_46 : decode cX12_root 46 = .ok (.goto (-39), 3) := by decide +kernel
theorem dX12_root_49 : decode cX12_root 49 = .ok (.lload_n 2, 1) := by decide +kernel
theorem dX12_root_50 : decode cX12_root 50 = .ok (.lreturn, 1) := by decide +kernel
theorem dX12_thickBy_0 : decode cX12_thickBy 0 = .ok (.ldc2_w 127, 3) := by decide +kernel
theorem dX12_thickBy_3 : decode cX12_thickBy 3 = .ok (.lload_n 0, 1) := by decide +kernel
theorem dX12_thickBy_4 : decode cX12_thickBy 4 = .ok (.lmul, 1) := by decide +kernel
theorem dX12_thickBy_5 : decode cX12_thickBy 5 = .ok (.lload_n 2, 1) := by decide +kernel
theorem dX12_thickBy_6 : decode cX12_thickBy 6 = .ok (.ldiv, 1) := by decide +kernel
theorem dX12_thickBy_7 : decode cX12_thickBy 7 = .ok (.lstore 4, 2) := by decide +kernel
theorem dX12_thickBy_9 : decode cX12_thickBy 9 = .ok (.ldc2_w 127, 3) := by decide +kernel
theorem dX12_thickBy_12 : decode cX12_thickBy 12 = .ok (.lload 4, 2) := by decide +kernel
theorem dX12_thickBy_14 : decode cX12_thickBy 14 = .ok (.ladd, 1) := by decide +kernel
theorem dX12_thickBy_15 : decode cX12_thickBy 15 = .ok (.lload 4, 2) := by decide +kernel
theorem dX12_thickBy_17 : decode cX12_thickBy 17 = .ok (.lload 4, 2) := by decide +kernel
theorem dX12_thickBy_19 : decode cX12_thickBy 19 = .ok (.lmul, 1) := by decide +kernel
theorem dX12_thickBy_20 : decode cX12_thickBy 20 = .ok (.ldc2_w 129, 3) := by decide +kernel
theorem dX12_thickBy_23 : decode cX12_thickBy 23 = .ok (.lload 4, 2) := by decide +kernel
theorem dX12_thickBy_25 : decode cX12_thickBy 25 = .ok (.lmul, 1) := by decide +kernel
theorem dX12_thickBy_26 : decode cX12_thickBy 26 = .ok (.ladd, 1) := by decide +kernel
theorem dX12_thickBy_27 : decode cX12_thickBy 27 = .ok (.invokestatic 131, 3) := by decide +kernel
theorem dX12_thickBy_30 : decode cX12_thickBy 30 = .ok (.lsub, 1) := by decide +kernel
theorem dX12_thickBy_31 : decode cX12_thickBy 31 = .ok (.l2i, 1) := by decide +kernel
theorem dX12_thickBy_32 : decode cX12_thickBy 32 = .ok (.ireturn, 1) := by decide +kernel
theorem dX12_thinBy_0 : decode cX12_thinBy 0 = .ok (.ldc2_w 135, 3) := by decide +kernel
theorem dX12_thinBy_3 : decode cX12_thinBy 3 = .ok (.lload_n 0, 1) := by decide +kernel
theorem dX12_thinBy_4 : decode cX12_thinBy 4 = .ok (.lmul, 1) := by decide +kernel
theorem dX12_thinBy_5 : decode cX12_thinBy 5 = .ok (.ldc2_w 137, 3) := by decide +kernel
theorem dX12_thinBy_8 : decode cX12_thinBy 8 = .ok (.lload_n 0, 1) := by decide +kernel
theorem dX12_thinBy_9 : decode cX12_thinBy 9 = .ok (.lload_n 2, 1) := by decide +kernel
theorem dX12_thinBy_10 : decode cX12_thinBy 10 = .ok (.ladd, 1) := by decide +kernel
theorem dX12_thinBy_11 : decode cX12_thinBy 11 = .ok (.lmul, 1) := by decide +kernel
theorem dX12_thinBy_12 : decode cX12_thinBy 12 = .ok (.ldiv, 1) := by decide +kernel
theorem dX12_thinBy_13 : decode cX12_thinBy 13 = .ok (.lstore 5, 2) := by decide +kernel
theorem dX12_thinBy_15 : decode cX12_thinBy 15 = .ok (.ldc2_w 135, 3) := by decide +kernel
theorem dX12_thinBy_18 : decode cX12_thinBy 18 = .ok (.lload_n 2, 1) := by decide +kernel
theorem dX12_thinBy_19 : decode cX12_thinBy 19 = .ok (.lmul, 1) := by decide +kernel
theorem dX12_thinBy_20 : decode cX12_thinBy 20 = .ok (.ldc2_w 137, 3) := by decide +kernel
theorem dX12_thinBy_23 : decode cX12_thinBy 23 = .ok (.lload_n 0, 1) := by decide +kernel
theorem dX12_thinBy_24 : decode cX12_thinBy 24 = .ok (.lload_n 2, 1) := by decide +kernel
theorem dX12_thinBy_25 : decode cX12_thinBy 25 = .ok (.ladd, 1) := by decide +kernel
theorem dX12_thinBy_26 : decode cX12_thinBy 26 = .ok (.lmul, 1) := by decide +kernel
theorem dX12_thinBy_27 : decode cX12_thinBy 27 = .ok (.ldiv, 1) := by decide +kernel
theorem dX12_thinBy_28 : decode cX12_thinBy 28 = .ok (.lstore 7, 2) := by decide +kernel
theorem dX12_thinBy_30 : decode cX12_thinBy 30 = .ok (.ldc2_w 127, 3) := by decide +kernel
theorem dX12_thinBy_33 : decode cX12_thinBy 33 = .ok (.lload 5, 2) := by decide +kernel
theorem dX12_thinBy_35 : decode cX12_thinBy 35 = .ok (.lsub, 1) := by decide +kernel
theorem dX12_thinBy_36 : decode cX12_thinBy 36 = .ok (.lload 7, 2) := by decide +kernel
theorem dX12_thinBy_38 : decode cX12_thinBy 38 = .ok (.lsub, 1) := by decide +kernel
theorem dX12_thinBy_39 : decode cX12_thinBy 39 = .ok (.lstore 9, 2) := by decide +kernel
theorem dX12_thinBy_41 : decode cX12_thinBy 41 = .ok (.lload 7, 2) := by decide +kernel
theorem dX12_thinBy_43 : decode cX12_thinBy 43 = .ok (.lload 9, 2) := by decide +kernel
theorem dX12_thinBy_45 : decode cX12_thinBy 45 = .ok (.lload 9, 2) := by decide +kernel
theorem dX12_thinBy_47 : decode cX12_thinBy 47 = .ok (.lmul, 1) := by decide +kernel
theorem dX12_thinBy_48 : decode cX12_thinBy 48 = .ok (.iload 4, 2) := by decide +kernel
theorem dX12_thinBy_50 : decode cX12_thinBy 50 = .ok (.i2l, 1) := by decide +kernel
theorem dX12_thinBy_51 : decode cX12_thinBy 51 = .ok (.lmul, 1) := by decide +kernel
theorem dX12_thinBy_52 : decode cX12_thinBy 52 = .ok (.ldc2_w 139, 3) := by decide +kernel
theorem dX12_thinBy_55 : decode cX12_thinBy 55 = .ok (.lload 7, 2) := by decide +kernel
theorem dX12_thinBy_57 : decode cX12_thinBy 57 = .ok (.iload 4, 2) := by decide +kernel
theorem dX12_thinBy_59 : decode cX12_thinBy 59 = .ok (.i2l, 1) := by decide +kernel
theorem dX12_thinBy_60 : decode cX12_thinBy 60 = .ok (.lmul, 1) := by decide +kernel
theorem dX12_thinBy_61 : decode cX12_thinBy 61 = .ok (.lsub, 1) := by decide +kernel
theorem dX12_thinBy_62 : decode cX12_thinBy 62 = .ok (.ldiv, 1) := by decide +kernel
theorem dX12_thinBy_63 : decode cX12_thinBy 63 = .ok (.ladd, 1) := by decide +kernel
theorem dX12_thinBy_64 : decode cX12_thinBy 64 = .ok (.l2i, 1) := by decide +kernel
theorem dX12_thinBy_65 : decode cX12_thinBy 65 = .ok (.ireturn, 1) := by decide +kernel
theorem dX12_layerBy_0 : decode cX12_layerBy 0 = .ok (.iload 5, 2) := by decide +kernel
theorem dX12_layerBy_2 : decode cX12_layerBy 2 = .ok (.istore 6, 2) := by decide +kernel
theorem dX12_layerBy_4 : decode cX12_layerBy 4 = .ok (.iconst 0, 1) := by decide +kernel
theorem dX12_layerBy_5 : decode cX12_layerBy 5 = .ok (.istore 7, 2) := by decide +kernel
theorem dX12_layerBy_7 : decode cX12_layerBy 7 = .ok (.iload 7, 2) := by decide +kernel
theorem dX12_layerBy_9 : decode cX12_layerBy 9 = .ok (.iload 4, 2) := by decide +kernel
theorem dX12_layerBy_11 : decode cX12_layerBy 11 = .ok (.if_icmp .ge 18, 3) := by decide +kernel
theorem dX12_layerBy_14 : decode cX12_layerBy 14 = .ok (.lload_n 0, 1) := by decide +kernel
theorem dX12_layerBy_15 : decode cX12_layerBy 15 = .ok (.lload_n 2, 1) := by decide +kernel
theorem dX12_layerBy_16 : decode cX12_layerBy 16 = .ok (.iload 6, 2) := by decide +kernel
theorem dX12_layerBy_18 : decode cX12_layerBy 18 = .ok (.invokestatic 141, 3) := by decide +kernel
theorem dX12_layerBy_21 : decode cX12_layerBy 21 = .ok (.istore 6, 2) := by decide +kernel
theorem dX12_layerBy_23 : decode cX12_layerBy 23 = .ok (.iinc 7 1, 3) := by decide +kernel
theorem dX12_layerBy_26 : decode cX12_layerBy 26 = .ok (.goto (-19), 3) := by decide +kernel
theorem dX12_layerBy_29 : decode cX12_layerBy 29 = .ok (.iload 6, 2) := by decide +kernel
theorem dX12_layerBy_31 : decode cX12_layerBy 31 = .ok (.ireturn, 1) := by decide +kernel
theorem dX12_seenBy_0 : decode cX12_seenBy 0 = .ok (.lconst 0, 1) := by decide +kernel
theorem dX12_seenBy_1 : decode cX12_seenBy 1 = .ok (.lstore_n 3, 1) := by decide +kernel
theorem dX12_seenBy_2 : decode cX12_seenBy 2 = .ok (.lconst 0, 1) := by decide +kernel
theorem dX12_seenBy_3 : decode cX12_seenBy 3 = .ok (.lstore 5, 2) := by decide +kernel
theorem dX12_seenBy_5 : decode cX12_seenBy 5 = .ok (.iconst 0, 1) := by decide +kernel
theorem dX12_seenBy_6 : decode cX12_seenBy 6 = .ok (.istore 7, 2) := by decide +kernel
theorem dX12_seenBy_8 : decode cX12_seenBy 8 = .ok (.iload 7, 2) := by decide +kernel
theorem dX12_seenBy_10 : decode cX12_seenBy 10 = .ok (.bipush 8, 2) := by decide +kernel
theorem dX12_seenBy_12 : decode cX12_seenBy 12 = .ok (.if_icmp .ge 58, 3) := by decide +kernel
theorem dX12_seenBy_15 : decode cX12_seenBy 15 = .ok (.aload_n 0, 1) := by decide +kernel
theorem dX12_seenBy_16 : decode cX12_seenBy 16 = .ok (.getfield 35, 3) := by decide +kernel
theorem dX12_seenBy_19 : decode cX12_seenBy 19 = .ok (.bipush 8, 2) := by decide +kernel
theorem dX12_seenBy_21 : decode cX12_seenBy 21 = .ok (.iload_n 1, 1) := by decide +kernel
theorem dX12_seenBy_22 : decode cX12_seenBy 22 = .ok (.imul, 1) := by decide +kernel
theorem dX12_seenBy_23 : decode cX12_seenBy 23 = .ok (.iload 7, 2) := by decide +kernel
theorem dX12_seenBy_25 : decode cX12_seenBy 25 = .ok (.iadd, 1) := by decide +kernel
theorem dX12_seenBy_26 : decode cX12_seenBy 26 = .ok (.iaload, 1) := by decide +kernel
theorem dX12_seenBy_27 : decode cX12_seenBy 27 = .ok (.aload_n 0, 1) := by decide +kernel
theorem dX12_seenBy_28 : decode cX12_seenBy 28 = .ok (.getfield 38, 3) := by decide +kernel
theorem dX12_seenBy_31 : decode cX12_seenBy 31 = .ok (.bipush 8, 2) := by decide +kernel
theorem dX12_seenBy_33 : decode cX12_seenBy 33 = .ok (.iload_n 2, 1) := by decide +kernel
theorem dX12_seenBy_34 : decode cX12_seenBy 34 = .ok (.imul, 1) := by decide +kernel
theorem dX12_seenBy_35 : decode cX12_seenBy 35 = .ok (.iload 7, 2) := by decide +kernel
theorem dX12_seenBy_37 : decode cX12_seenBy 37 = .ok (.iadd, 1) := by decide +kernel
theorem dX12_seenBy_38 : decode cX12_seenBy 38 = .ok (.iaload, 1) := by decide +kernel
theorem dX12_seenBy_39 : decode cX12_seenBy 39 = .ok (.imul, 1) := by decide +kernel
theorem dX12_seenBy_40 : decode cX12_seenBy 40 = .ok (.i2l, 1) := by decide +kernel
theorem dX12_seenBy_41 : decode cX12_seenBy 41 = .ok (.lstore 8, 2) := by decide +kernel
theorem dX12_seenBy_43 : decode cX12_seenBy 43 = .ok (.lload_n 3, 1) := by decide +kernel
theorem dX12_seenBy_44 : decode cX12_seenBy 44 = .ok (.lload 8, 2) := by decide +kernel
theorem dX12_seenBy_46 : decode cX12_seenBy 46 = .ok (.aload_n 0, 1) := by decide +kernel
theorem dX12_seenBy_47 : decode cX12_seenBy 47 = .ok (.getfield 41, 3) := by decide +kernel
theorem dX12_seenBy_50 : decode cX12_seenBy 50 = .ok (.iload 7, 2) := by decide +kernel
theorem dX12_seenBy_52 : decode cX12_seenBy 52 = .ok (.iaload, 1) := by decide +kernel
theorem dX12_seenBy_53 : decode cX12_seenBy 53 = .ok (.i2l, 1) := by decide +kernel
theorem dX12_seenBy_54 : decode cX12_seenBy 54 = .ok (.lmul, 1) := by decide +kernel
theorem dX12_seenBy_55 : decode cX12_seenBy 55 = .ok (.ladd, 1) := by decide +kernel
theorem dX12_seenBy_56 : decode cX12_seenBy 56 = .ok (.lstore_n 3, 1) := by decide +kernel
theorem dX12_seenBy_57 : decode cX12_seenBy 57 = .ok (.lload 5, 2) := by decide +kernel
theorem dX12_seenBy_59 : decode cX12_seenBy 59 = .ok (.lload 8, 2) := by decide +kernel
theorem dX12_seenBy_61 : decode cX12_seenBy 61 = .ok (.ladd, 1) := by decide +kernel
theorem dX12_seenBy_62 : decode cX12_seenBy 62 = .ok (.lstore 5, 2) := by decide +kernel
theorem dX12_seenBy_64 : decode cX12_seenBy 64 = .ok (.iinc 7 1, 3) := by decide +kernel
theorem dX12_seenBy_67 : decode cX12_seenBy 67 = .ok (.goto (-59), 3) := by decide +kernel
theorem dX12_seenBy_70 : decode cX12_seenBy 70 = .ok (.lload 5, 2) := by decide +kernel
theorem dX12_seenBy_72 : decode cX12_seenBy 72 = .ok (.lconst 0, 1) := by decide +kernel
theorem dX12_seenBy_73 : decode cX12_seenBy 73 = .ok (.lcmp, 1) := by decide +kernel
theorem dX12_seenBy_74 : decode cX12_seenBy 74 = .ok (.ifCond .ne 7, 3) := by decide +kernel
theorem dX12_seenBy_77 : decode cX12_seenBy 77 = .ok (.iconst 0, 1) := by decide +kernel
theorem dX12_seenBy_78 : decode cX12_seenBy 78 = .ok (.goto 8, 3) := by decide +kernel
theorem dX12_seenBy_81 : decode cX12_seenBy 81 = .ok (.lload_n 3, 1) := by decide +kernel
theorem dX12_seenBy_82 : decode cX12_seenBy 82 = .ok (.lload 5, 2) := by decide +kernel
theorem dX12_seenBy_84 : decode cX12_seenBy 84 = .ok (.ldiv, 1) := by decide +kernel
theorem dX12_seenBy_85 : decode cX12_seenBy 85 = .ok (.l2i, 1) := by decide +kernel
theorem dX12_seenBy_86 : decode cX12_seenBy 86 = .ok (.ireturn, 1) := by decide +kernel
theorem dX12_off_0 : decode cX12_off 0 = .ok (.iload_n 0, 1) := by decide +kernel
theorem dX12_off_1 : decode cX12_off 1 = .ok (.iload_n 1, 1) := by decide +kernel
theorem dX12_off_2 : decode cX12_off 2 = .ok (.if_icmp .ge 9, 3) := by decide +kernel
theorem dX12_off_5 : decode cX12_off 5 = .ok (.iload_n 1, 1) := by decide +kernel
theorem dX12_off_6 : decode cX12_off 6 = .ok (.iload_n 0, 1) := by decide +kernel
theorem dX12_off_7 : decode cX12_off 7 = .ok (.isub, 1) := by decide +kernel
theorem dX12_off_8 : decode cX12_off 8 = .ok (.goto 6, 3) := by decide +kernel
theorem dX12_off_11 : decode cX12_off 11 = .ok (.iload_n 0, 1) := by decide +kernel
theorem dX12_off_12 : decode cX12_off 12 = .ok (.iload_n 1, 1) := by decide +kernel
theorem dX12_off_13 : decode cX12_off 13 = .ok (.isub, 1) := by decide +kernel
theorem dX12_off_14 : decode cX12_off 14 = .ok (.ireturn, 1) := by decide +kernel
theorem dX12_apartFrom_0 : decode cX12_apartFrom 0 = .ok (.aload_n 0, 1) := by decide +kernel
theorem dX12_apartFrom_1 : decode cX12_apartFrom 1 = .ok (.iload 4, 2) := by decide +kernel
theorem dX12_apartFrom_3 : decode cX12_apartFrom 3 = .ok (.iconst 0, 1) := by decide +kernel
theorem dX12_apartFrom_4 : decode cX12_apartFrom 4 = .ok (.invokevirtual 145, 3) := by decide +kernel
theorem dX12_apartFrom_7 : decode cX12_apartFrom 7 = .ok (.iload_n 1, 1) := by decide +kernel
theorem dX12_apartFrom_8 : decode cX12_apartFrom 8 = .ok (.invokestatic 149, 3) := by decide +kernel
theorem dX12_apartFrom_11 : decode cX12_apartFrom 11 = .ok (.aload_n 0, 1) := by decide +kernel
theorem dX12_apartFrom_12 : decode cX12_apartFrom 12 = .ok (.iload 4, 2) := by decide +kernel
theorem dX12_apartFrom_14 : decode cX12_apartFrom 14 = .ok (.iconst 1, 1) := by decide +kernel
theorem dX12_apartFrom_15 : decode cX12_apartFrom 15 = .ok (.invokevirtual 145, 3) := by decide +kernel
theorem dX12_apartFrom_18 : decode cX12_apartFrom 18 = .ok (.iload_n 2, 1) := by decide +kernel
theorem dX12_apartFrom_19 : decode cX12_apartFrom 19 = .ok (.invokestatic 149, 3) := by decide +kernel
theorem dX12_apartFrom_22 : decode cX12_apartFrom 22 = .ok (.iadd, 1) := by decide +kernel
theorem dX12_apartFrom_23 : decode cX12_apartFrom 23 = .ok (.aload_n 0, 1) := by decide +kernel
theorem dX12_apartFrom_24 : decode cX12_apartFrom 24 = .ok (.iload 4, 2) := by decide +kernel
theorem dX12_apartFrom_26 : decode cX12_apartFrom 26 = .ok (.iconst 2, 1) := by decide +kernel
theorem dX12_apartFrom_27 : decode cX12_apartFrom 27 = .ok (.invokevirtual 145, 3) := by decide +kernel
theorem dX12_apartFrom_30 : decode cX12_apartFrom 30 = .ok (.iload_n 3, 1) := by decide +kernel
theorem dX12_apartFrom_31 : decode cX12_apartFrom 31 = .ok (.invokestatic 149, 3) := by decide +kernel
theorem dX12_apartFrom_34 : decode cX12_apartFrom 34 = .ok (.iadd, 1) := by decide +kernel
theorem dX12_apartFrom_35 : decode cX12_apartFrom 35 = .ok (.ireturn, 1) := by decide +kernel
theorem dX12_inPot_0 : decode cX12_inPot 0 = .ok (.iconst 0, 1) := by decide +kernel
theorem dX12_inPot_1 : decode cX12_inPot 1 = .ok (.istore_n 2, 1) := by decide +kernel
theorem dX12_inPot_2 : decode cX12_inPot 2 = .ok (.iconst 0, 1) := by decide +kernel
theorem dX12_inPot_3 : decode cX12_inPot 3 = .ok (.istore_n 3, 1) := by decide +kernel
theorem dX12_inPot_4 : decode cX12_inPot 4 = .ok (.iload_n 3, 1) := by decide +kernel
theorem dX12_inPot_5 : decode cX12_inPot 5 = .ok (.bipush 12, 2) := by decide +kernel
theorem dX12_inPot_7 : decode cX12_inPot 7 = .ok (.if_icmp .ge 23, 3) := by decide +kernel
theorem dX12_inPot_10 : decode cX12_inPot 10 = .ok (.iload_n 2, 1) := by decide +kernel
theorem dX12_inPot_11 : decode cX12_inPot 11 = .ok (.aload_n 0, 1) := by decide +kernel
theorem dX12_inPot_12 : decode cX12_inPot 12 = .ok (.getfield 44, 3) := by decide +kernel
theorem dX12_inPot_15 : decode cX12_inPot 15 = .ok (.bipush 12, 2) := by decide +kernel
theorem dX12_inPot_17 : decode cX12_inPot 17 = .ok (.iload_n 1, 1) := by decide +kernel
theorem dX12_inPot_18 : decode cX12_inPot 18 = .ok (.imul, 1) := by decide +kernel
theorem dX12_inPot_19 : decode cX12_inPot 19 = .ok (.iload_n 3, 1) := by decide +kernel
theorem dX12_inPot_20 : decode cX12_inPot 20 = .ok (.iadd, 1) := by decide +kernel
theorem dX12_inPot_21 : decode cX12_inPot 21 = .ok (.iaload, 1) := by decide +kernel
theorem dX12_inPot_22 : decode cX12_inPot 22 = .ok (.iadd, 1) := by decide +kernel
theorem dX12_inPot_23 : decode cX12_inPot 23 = .ok (.istore_n 2, 1) := by decide +kernel
theorem dX12_inPot_24 : decode cX12_inPot 24 = .ok (.iinc 3 1, 3) := by decide +kernel
theorem dX12_inPot_27 : decode cX12_inPot 27 = .ok (.goto (-23), 3) := by decide +kernel
theorem dX12_inPot_30 : decode cX12_inPot 30 = .ok (.iload_n 2, 1) := by decide +kernel
theorem dX12_inPot_31 : decode cX12_inPot 31 = .ok (.ireturn, 1) := by decide +kernel
theorem dX12_press_0 : decode cX12_press 0 = .ok (.aload_n 0, 1) := by decide +kernel
theorem dX12_press_1 : decode cX12_press 1 = .ok (.iload_n 1, 1) := by decide +kernel
theorem dX12_press_2 : decode cX12_press 2 = .ok (.invokevirtual 99, 3) := by decide +kernel
theorem dX12_press_5 : decode cX12_press 5 = .ok (.ifCond .eq 20, 3) := by decide +kernel
theorem dX12_press_8 : decode cX12_press 8 = .ok (.iload_n 2, 1) := by decide +kernel
theorem dX12_press_9 : decode cX12_press 9 = .ok (.invokestatic 152, 3) := by decide +kernel
theorem dX12_press_12 : decode cX12_press 12 = .ok (.ifCond .eq 13, 3) := by decide +kernel
theorem dX12_press_15 : decode cX12_press 15 = .ok (.iload_n 3, 1) := by decide +kernel
theorem dX12_press_16 : decode cX12_press 16 = .ok (.iconst 1, 1) := by decide +kernel
theorem dX12_press_17 : decode cX12_press 17 = .ok (.bipush 99, 2) := by decide +kernel
theorem dX12_press_19 : decode cX12_press 19 = .ok (.invokestatic 95, 3) := by decide +kernel
theorem dX12_press_22 : decode cX12_press 22 = .ok (.ifCond .ne 5, 3) := by decide +kernel
theorem dX12_press_25 : decode cX12_press 25 = .ok (.iconst (-1), 1) := by decide +kernel
theorem dX12_press_26 : decode cX12_press 26 = .ok (.ireturn, 1) := by decide +kernel
theorem dX12_press_27 : decode cX12_press 27 = .ok (.aload_n 0, 1) := by decide +kernel
theorem dX12_press_28 : decode cX12_press 28 = .ok (.getfield 26, 3) := by decide +kernel
theorem dX12_press_31 : decode cX12_press 31 = .ok (.iload_n 1, 1) := by decide +kernel
theorem dX12_press_32 : decode cX12_press 32 = .ok (.iaload, 1) := by decide +kernel
theorem dX12_press_33 : decode cX12_press 33 = .ok (.iload_n 3, 1) := by decide +kernel
theorem dX12_press_34 : decode cX12_press 34 = .ok (.if_icmp .ge 6, 3) := by decide +kernel
theorem dX12_press_37 : decode cX12_press 37 = .ok (.bipush (-2), 2) := by decide +kernel
theorem dX12_press_39 : decode cX12_press 39 = .ok (.ireturn, 1) := by decide +kernel
theorem dX12_press_40 : decode cX12_press 40 = .ok (.aload_n 0, 1) := by decide +kernel
theorem dX12_press_41 : decode cX12_press 41 = .ok (.iload_n 2, 1) := by decide +kernel
theorem dX12_press_42 : decode cX12_press 42 = .ok (.invokevirtual 155, 3) := by decide +kernel
theorem dX12_press_45 : decode cX12_press 45 = .ok (.iload_n 3, 1) := by decide +kernel
theorem dX12_press_46 : decode cX12_press 46 = .ok (.iadd, 1) := by decide +kernel
theorem dX12_press_47 : decode cX12_press 47 = .ok (.sipush 999, 3) := by decide +kernel
theorem dX12_press_50 : decode cX12_press 50 = .ok (.if_icmp .le 6, 3) := by decide +kernel
theorem dX12_press_53 : decode cX12_press 53 = .ok (.bipush (-3), 2) := by decide +kernel
theorem dX12_press_55 : decode cX12_press 55 = .ok (.ireturn, 1) := by decide +kernel
theorem dX12_press_56 : decode cX12_press 56 = .ok (.aload_n 0, 1) := by decide +kernel
theorem dX12_press_57 : decode cX12_press 57 = .ok (.getfield 26, 3) := by decide +kernel
theorem dX12_press_60 : decode cX12_press 60 = .ok (.iload_n 1, 1) := by decide +kernel
theorem dX12_press_61 : decode cX12_press 61 = .ok (.dup2, 1) := by decide +kernel
theorem dX12_press_62 : decode cX12_press 62 = .ok (.iaload, 1) := by decide +kernel
theorem dX12_press_63 : decode cX12_press 63 = .ok (.iload_n 3, 1) := by decide +kernel
theorem dX12_press_64 : decode cX12_press 64 = .ok (.isub, 1) := by decide +kernel
theorem dX12_press_65 : decode cX12_press 65 = .ok (.iastore, 1) := by decide +kernel
theorem dX12_press_66 : decode cX12_press 66 = .ok (.aload_n 0, 1) := by decide +kernel
theorem dX12_press_67 : decode cX12_press 67 = .ok (.getfield 44, 3) := by decide +kernel
theorem dX12_press_70 : decode cX12_press 70 = .ok (.bipush 12, 2) := by decide +kernel
theorem dX12_press_72 : decode cX12_press 72 = .ok (.iload_n 2, 1) := by decide +kernel
theorem dX12_press_73 : decode cX12_press 73 = .ok (.imul, 1) := by decide +kernel
theorem dX12_press_74 : decode cX12_press 74 = .ok (.iload_n 1, 1) := by decide +kernel
theorem dX12_press_75 : decode cX12_press 75 = .ok (.iadd, 1) := by decide +kernel
theorem dX12_press_76 : decode cX12_press 76 = .ok (.dup2, 1) := by decide +kernel
theorem dX12_press_77 : decode cX12_press 77 = .ok (.iaload, 1) := by decide +kernel
theorem dX12_press_78 : decode cX12_press 78 = .ok (.iload_n 3, 1) := by decide +kernel
theorem dX12_press_79 : decode cX12_press 79 = .ok (.iadd, 1) := by decide +kernel
theorem dX12_press_80 : decode cX12_press 80 = .ok (.iastore, 1) := by decide +kernel
theorem dX12_press_81 : decode cX12_press 81 = .ok (.aload_n 0, 1) := by decide +kernel
theorem dX12_press_82 : decode cX12_press 82 = .ok (.iload_n 2, 1) := by decide +kernel
theorem dX12_press_83 : decode cX12_press 83 = .ok (.invokevirtual 155, 3) := by decide +kernel
theorem dX12_press_86 : decode cX12_press 86 = .ok (.ireturn, 1) := by decide +kernel
theorem dX12_pour_0 : decode cX12_pour 0 = .ok (.iload_n 1, 1) := by decide +kernel
theorem dX12_pour_1 : decode cX12_pour 1 = .ok (.invokestatic 152, 3) := by decide +kernel
theorem dX12_pour_4 : decode cX12_pour 4 = .ok (.ifCond .eq 15, 3) := by decide +kernel
theorem dX12_pour_7 : decode cX12_pour 7 = .ok (.iload_n 2, 1) := by decide +kernel
theorem dX12_pour_8 : decode cX12_pour 8 = .ok (.invokestatic 152, 3) := by decide +kernel
theorem dX12_pour_11 : decode cX12_pour 11 = .ok (.ifCond .eq 8, 3) := by decide +kernel
theorem dX12_pour_14 : decode cX12_pour 14 = .ok (.iload_n 1, 1) := by decide +kernel
theorem dX12_pour_15 : decode cX12_pour 15 = .ok (.iload_n 2, 1) := by decide +kernel
theorem dX12_pour_16 : decode cX12_pour 16 = .ok (.if_icmp .ne 5, 3) := by decide +kernel
theorem dX12_pour_19 : decode cX12_pour 19 = .ok (.iconst (-1), 1) := by decide +kernel
theorem dX12_pour_20 : decode cX12_pour 20 = .ok (.ireturn, 1) := by decide +kernel
theorem dX12_pour_21 : decode cX12_pour 21 = .ok (.aload_n 0, 1) := by decide +kernel
theorem dX12_pour_22 : decode cX12_pour 22 = .ok (.iload_n 1, 1) := by decide +kernel
theorem dX12_pour_23 : decode cX12_pour 23 = .ok (.invokevirtual 155, 3) := by decide +kernel
theorem dX12_pour_26 : decode cX12_pour 26 = .ok (.ifCond .ne 6, 3) := by decide +kernel
theorem dX12_pour_29 : decode cX12_pour 29 = .ok (.bipush (-2), 2) := by decide +kernel
theorem dX12_pour_31 : decode cX12_pour 31 = .ok (.ireturn, 1) := by decide +kernel
theorem dX12_pour_32 : decode cX12_pour 32 = .ok (.aload_n 0, 1) := by decide +kernel
theorem dX12_pour_33 : decode cX12_pour 33 = .ok (.iload_n 1, 1) := by decide +kernel
theorem dX12_pour_34 : decode cX12_pour 34 = .ok (.invokevirtual 155, 3) := by decide +kernel
theorem dX12_pour_37 : decode cX12_pour 37 = .ok (.aload_n 0, 1) := by decide +kernel
theorem dX12_pour_38 : decode cX12_pour 38 = .ok (.iload_n 2, 1) := by decide +kernel
theorem dX12_pour_39 : decode cX12_pour 39 = .ok (.invokevirtual 155, 3) := by decide +kernel
theorem dX12_pour_42 : decode cX12_pour 42 = .ok (.iadd, 1) := by decide +kernel
theorem dX12_pour_43 : decode cX12_pour 43 = .ok (.sipush 999, 3) := by decide +kernel
theorem dX12_pour_46 : decode cX12_pour 46 = .ok (.if_icmp .le 6, 3) := by decide +kernel
theorem dX12_pour_49 : decode cX12_pour 49 = .ok (.bipush (-3), 2) := by decide +kernel
theorem dX12_pour_51 : decode cX12_pour 51 = .ok (.ireturn, 1) := by decide +kernel
theorem dX12_pour_52 : decode cX12_pour 52 = .ok (.iconst 0, 1) := by decide +kernel
theorem dX12_pour_53 : decode cX12_pour 53 = .ok (.istore_n 3, 1) := by decide +kernel
theorem dX12_pour_54 : decode cX12_pour 54 = .ok (.iload_n 3, 1) := by decide +kernel
theorem dX12_pour_55 : decode cX12_pour 55 = .ok (.bipush 12, 2) := by decide +kernel
theorem dX12_pour_57 : decode cX12_pour 57 = .ok (.if_icmp .ge 46, 3) := by decide +kernel
theorem dX12_pour_60 : decode cX12_pour 60 = .ok (.aload_n 0, 1) := by decide +kernel
theorem dX12_pour_61 : decode cX12_pour 61 = .ok (.getfield 44, 3) := by decide +kernel
theorem dX12_pour_64 : decode cX12_pour 64 = .ok (.bipush 12, 2) := by decide +kernel
theorem dX12_pour_66 : decode cX12_pour 66 = .ok (.iload_n 2, 1) := by decide +kernel
theorem dX12_pour_67 : decode cX12_pour 67 = .ok (.imul, 1) := by decide +kernel
theorem dX12_pour_68 : decode cX12_pour 68 = .ok (.iload_n 3, 1) := by decide +kernel
theorem dX12_pour_69 : decode cX12_pour 69 = .ok (.iadd, 1) := by decide +kernel
theorem dX12_pour_70 : decode cX12_pour 70 = .ok (.dup2, 1) := by decide +kernel
theorem dX12_pour_71 : decode cX12_pour 71 = .ok (.iaload, 1) := by decide +kernel
theorem dX12_pour_72 : decode cX12_pour 72 = .ok (.aload_n 0, 1) := by decide +kernel
theorem dX12_pour_73 : decode cX12_pour 73 = .ok (.getfield 44, 3) := by decide +kernel
theorem dX12_pour_76 : decode cX12_pour 76 = .ok (.bipush 12, 2) := by decide +kernel
theorem dX12_pour_78 : decode cX12_pour 78 = .ok (.iload_n 1, 1) := by decide +kernel
theorem dX12_pour_79 : decode cX12_pour 79 = .ok (.imul, 1) := by decide +kernel
theorem dX12_pour_80 : decode cX12_pour 80 = .ok (.iload_n 3, 1) := by decide +kernel
theorem dX12_pour_81 : decode cX12_pour 81 = .ok (.iadd, 1) := by decide +kernel
theorem dX12_pour_82 : decode cX12_pour 82 = .ok (.iaload, 1) := by decide +kernel
theorem dX12_pour_83 : decode cX12_pour 83 = .ok (.iadd, 1) := by decide +kernel
theorem dX12_pour_84 : decode cX12_pour 84 = .ok (.iastore, 1) := by decide +kernel
theorem dX12_pour_85 : decode cX12_pour 85 = .ok (.aload_n 0, 1) := by decide +kernel
theorem dX12_pour_86 : decode cX12_pour 86 = .ok (.getfield 44, 3) := by decide +kernel
theorem dX12_pour_89 : decode cX12_pour 89 = .ok (.bipush 12, 2) := by decide +kernel
theorem dX12_pour_91 : decode cX12_pour 91 = .ok (.iload_n 1, 1) := by decide +kernel
theorem dX12_pour_92 : decode cX12_pour 92 = .ok (.imul, 1) := by decide +kernel
theorem dX12_pour_93 : decode cX12_pour 93 = .ok (.iload_n 3, 1) := by decide +kernel
theorem dX12_pour_94 : decode cX12_pour 94 = .ok (.iadd, 1) := by decide +kernel
theorem dX12_pour_95 : decode cX12_pour 95 = .ok (.iconst 0, 1) := by decide +kernel
theorem dX12_pour_96 : decode cX12_pour 96 = .ok (.iastore, 1) := by decide +kernel
theorem dX12_pour_97 : decode cX12_pour 97 = .ok (.iinc 3 1, 3) := by decide +kernel
theorem dX12_pour_100 : decode cX12_pour 100 = .ok (.goto (-46), 3) := by decide +kernel
theorem dX12_pour_103 : decode cX12_pour 103 = .ok (.aload_n 0, 1) := by decide +kernel
theorem dX12_pour_104 : decode cX12_pour 104 = .ok (.iload_n 2, 1) := by decide +kernel
theorem dX12_pour_105 : decode cX12_pour 105 = .ok (.invokevirtual 155, 3) := by decide +kernel
theorem dX12_pour_108 : decode cX12_pour 108 = .ok (.ireturn, 1) := by decide +kernel
theorem dX12_waste_0 : decode cX12_waste 0 = .ok (.iload_n 1, 1) := by decide +kernel
theorem dX12_waste_1 : decode cX12_waste 1 = .ok (.invokestatic 152, 3) := by decide +kernel
theorem dX12_waste_4 : decode cX12_waste 4 = .ok (.ifCond .ne 5, 3) := by decide +kernel
theorem dX12_waste_7 : decode cX12_waste 7 = .ok (.iconst (-1), 1) := by decide +kernel
theorem dX12_waste_8 : decode cX12_waste 8 = .ok (.ireturn, 1) := by decide +kernel
theorem dX12_waste_9 : decode cX12_waste 9 = .ok (.aload_n 0, 1) := by decide +kernel
theorem dX12_waste_10 : decode cX12_waste 10 = .ok (.iload_n 1, 1) := by decide +kernel
theorem dX12_waste_11 : decode cX12_waste 11 = .ok (.invokevirtual 155, 3) := by decide +kernel
theorem dX12_waste_14 : decode cX12_waste 14 = .ok (.istore_n 2, 1) := by decide +kernel
theorem dX12_waste_15 : decode cX12_waste 15 = .ok (.iload_n 2, 1) := by decide +kernel
theorem dX12_waste_16 : decode cX12_waste 16 = .ok (.ifCond .ne 6, 3) := by decide +kernel
theorem dX12_waste_19 : decode cX12_waste 19 = .ok (.bipush (-2), 2) := by decide +kernel
theorem dX12_waste_21 : decode cX12_waste 21 = .ok (.ireturn, 1) := by decide +kernel
theorem dX12_waste_22 : decode cX12_waste 22 = .ok (.iconst 0, 1) := by decide +kernel
theorem dX12_waste_23 : decode cX12_waste 23 = .ok (.istore_n 3, 1) := by decide +kernel
theorem dX12_waste_24 : decode cX12_waste 24 = .ok (.iload_n 3, 1) := by decide +kernel
theorem dX12_waste_25 : decode cX12_waste 25 = .ok (.bipush 12, 2) := by decide +kernel
theorem dX12_waste_27 : decode cX12_waste 27 = .ok (.if_icmp .ge 41, 3) := by decide +kernel
theorem dX12_waste_30 : decode cX12_waste 30 = .ok (.aload_n 0, 1) := by decide +kernel
theorem dX12_waste_31 : decode cX12_waste 31 = .ok (.getfield 32, 3) := by decide +kernel
theorem dX12_waste_34 : decode cX12_waste 34 = .ok (.iload_n 3, 1) := by decide +kernel
theorem dX12_waste_35 : decode cX12_waste 35 = .ok (.dup2, 1) := by decide +kernel
theorem dX12_waste_36 : decode cX12_waste 36 = .ok (.iaload, 1) := by decide +kernel
theorem dX12_waste_37 : decode cX12_waste 37 = .ok (.aload_n 0, 1) := by decide +kernel
theorem dX12_waste_38 : decode cX12_waste 38 = .ok (.getfield 44, 3) := by decide +kernel
theorem dX12_waste_41 : decode cX12_waste 41 = .ok (.bipush 12, 2) := by decide +kernel
theorem dX12_waste_43 : decode cX12_waste 43 = .ok (.iload_n 1, 1) := by decide +kernel
theorem dX12_waste_44 : decode cX12_waste 44 = .ok (.imul, 1) := by decide +kernel
theorem dX12_waste_45 : decode cX12_waste 45 = .ok (.iload_n 3, 1) := by decide +kernel
theorem dX12_waste_46 : decode cX12_waste 46 = .ok (.iadd, 1) := by decide +kernel
theorem dX12_waste_47 : decode cX12_waste 47 = .ok (.iaload, 1) := by decide +kernel
theorem dX12_waste_48 : decode cX12_waste 48 = .ok (.iadd, 1) := by decide +kernel
theorem dX12_waste_49 : decode cX12_waste 49 = .ok (.iastore, 1) := by decide +kernel
theorem dX12_waste_50 : decode cX12_waste 50 = .ok (.aload_n 0, 1) := by decide +kernel
theorem dX12_waste_51 : decode cX12_waste 51 = .ok (.getfield 44, 3) := by decide +kernel
theorem dX12_waste_54 : decode cX12_waste 54 = .ok (.bipush 12, 2) := by decide +kernel
theorem dX12_waste_56 : decode cX12_waste 56 = .ok (.iload_n 1, 1) := by decide +kernel
theorem dX12_waste_57 : decode cX12_waste 57 = .ok (.imul, 1) := by decide +kernel
theorem dX12_waste_58 : decode cX12_waste 58 = .ok (.iload_n 3, 1) := by decide +kernel
theorem dX12_waste_59 : decode cX12_waste 59 = .ok (.iadd, 1) := by decide +kernel
theorem dX12_waste_60 : decode cX12_waste 60 = .ok (.iconst 0, 1) := by decide +kernel
theorem dX12_waste_61 : decode cX12_waste 61 = .ok (.iastore, 1) := by decide +kernel
theorem dX12_waste_62 : decode cX12_waste 62 = .ok (.iinc 3 1, 3) := by decide +kernel
theorem dX12_waste_65 : decode cX12_waste 65 = .ok (.goto (-41), 3) := by decide +kernel
theorem dX12_waste_68 : decode cX12_waste 68 = .ok (.iload_n 2, 1) := by decide +kernel
theorem dX12_waste_69 : decode cX12_waste 69 = .ok (.ireturn, 1) := by decide +kernel
theorem dX12_drops_0 : decode cX12_drops 0 = .ok (.iload_n 1, 1) := by decide +kernel
theorem dX12_drops_1 : decode cX12_drops 1 = .ok (.invokestatic 152, 3) := by decide +kernel
theorem dX12_drops_4 : decode cX12_drops 4 = .ok (.ifCond .eq 16, 3) := by decide +kernel
theorem dX12_drops_7 : decode cX12_drops 7 = .ok (.iload_n 2, 1) := by decide +kernel
theorem dX12_drops_8 : decode cX12_drops 8 = .ok (.iconst (-1), 1) := by decide +kernel
theorem dX12_drops_9 : decode cX12_drops 9 = .ok (.if_icmp .eq 15, 3) := by decide +kernel
theorem dX12_drops_12 : decode cX12_drops 12 = .ok (.aload_n 0, 1) := by decide +kernel
theorem dX12_drops_13 : decode cX12_drops 13 = .ok (.iload_n 2, 1) := by decide +kernel
theorem dX12_drops_14 : decode cX12_drops 14 = .ok (.invokevirtual 99, 3) := by decide +kernel
theorem dX12_drops_17 : decode cX12_drops 17 = .ok (.ifCond .ne 7, 3) := by decide +kernel
theorem dX12_drops_20 : decode cX12_drops 20 = .ok (.iconst (-1), 1) := by decide +kernel
theorem dX12_drops_21 : decode cX12_drops 21 = .ok (.goto 26, 3) := by decide +kernel
theorem dX12_drops_24 : decode cX12_drops 24 = .ok (.iload_n 2, 1) := by decide +kernel
theorem dX12_drops_25 : decode cX12_drops 25 = .ok (.ifCond .ge 11, 3) := by decide +kernel
theorem dX12_drops_28 : decode cX12_drops 28 = .ok (.aload_n 0, 1) := by decide +kernel
theorem dX12_drops_29 : decode cX12_drops 29 = .ok (.iload_n 1, 1) := by decide +kernel
theorem dX12_drops_30 : decode cX12_drops 30 = .ok (.invokevirtual 155, 3) := by decide +kernel
theorem dX12_drops_33 : decode cX12_drops 33 = .ok (.goto 14, 3) := by decide +kernel
theorem dX12_drops_36 : decode cX12_drops 36 = .ok (.aload_n 0, 1) := by decide +kernel
theorem dX12_drops_37 : decode cX12_drops 37 = .ok (.getfield 44, 3) := by decide +kernel
theorem dX12_drops_40 : decode cX12_drops 40 = .ok (.bipush 12, 2) := by decide +kernel
theorem dX12_drops_42 : decode cX12_drops 42 = .ok (.iload_n 1, 1) := by decide +kernel
theorem dX12_drops_43 : decode cX12_drops 43 = .ok (.imul, 1) := by decide +kernel
theorem dX12_drops_44 : decode cX12_drops 44 = .ok (.iload_n 2, 1) := by decide +kernel
theorem dX12_drops_45 : decode cX12_drops 45 = .ok (.iadd, 1) := by decide +kernel
theorem dX12_drops_46 : decode cX12_drops 46 = .ok (.iaload, 1) := by decide +kernel
theorem dX12_drops_47 : decode cX12_drops 47 = .ok (.ireturn, 1) := by decide +kernel
theorem dX12_drinkOf_0 : decode cX12_drinkOf 0 = .ok (.lconst 0, 1) := by decide +kernel
theorem dX12_drinkOf_1 : decode cX12_drinkOf 1 = .ok (.lstore_n 3, 1) := by decide +kernel
theorem dX12_drinkOf_2 : decode cX12_drinkOf 2 = .ok (.iconst 0, 1) := by decide +kernel
theorem dX12_drinkOf_3 : decode cX12_drinkOf 3 = .ok (.istore 5, 2) := by decide +kernel
theorem dX12_drinkOf_5 : decode cX12_drinkOf 5 = .ok (.iload 5, 2) := by decide +kernel
theorem dX12_drinkOf_7 : decode cX12_drinkOf 7 = .ok (.aload_n 0, 1) := by decide +kernel
theorem dX12_drinkOf_8 : decode cX12_drinkOf 8 = .ok (.getfield 92, 3) := by decide +kernel
theorem dX12_drinkOf_11 : decode cX12_drinkOf 11 = .ok (.if_icmp .ge 39, 3) := by decide +kernel
theorem dX12_drinkOf_14 : decode cX12_drinkOf 14 = .ok (.lload_n 3, 1) := by decide +kernel
theorem dX12_drinkOf_15 : decode cX12_drinkOf 15 = .ok (.aload_n 0, 1) := by decide +kernel
theorem dX12_drinkOf_16 : decode cX12_drinkOf 16 = .ok (.getfield 44, 3) := by decide +kernel
theorem dX12_drinkOf_19 : decode cX12_drinkOf 19 = .ok (.bipush 12, 2) := by decide +kernel
theorem dX12_drinkOf_21 : decode cX12_drinkOf 21 = .ok (.iload_n 1, 1) := by decide +kernel
theorem dX12_drinkOf_22 : decode cX12_drinkOf 22 = .ok (.imul, 1) := by decide +kernel
theorem dX12_drinkOf_23 : decode cX12_drinkOf 23 = .ok (.iload 5, 2) := by decide +kernel
theorem dX12_drinkOf_25 : decode cX12_drinkOf 25 = .ok (.iadd, 1) := by decide +kernel
theorem dX12_drinkOf_26 : decode cX12_drinkOf 26 = .ok (.iaload, 1) := by decide +kernel
theorem dX12_drinkOf_27 : decode cX12_drinkOf 27 = .ok (.i2l, 1) := by decide +kernel
theorem dX12_drinkOf_28 : decode cX12_drinkOf 28 = .ok (.aload_n 0, 1) := by decide +kernel
theorem dX12_drinkOf_29 : decode cX12_drinkOf 29 = .ok (.getfield 13, 3) := by decide +kernel
theorem dX12_drinkOf_32 : decode cX12_drinkOf 32 = .ok (.bipush 8, 2) := by decide +kernel
theorem dX12_drinkOf_34 : decode cX12_drinkOf 34 = .ok (.iload 5, 2) := by decide +kernel
theorem dX12_drinkOf_36 : decode cX12_drinkOf 36 = .ok (.imul, 1) := by decide +kernel
theorem dX12_drinkOf_37 : decode cX12_drinkOf 37 = .ok (.iload_n 2, 1) := by decide +kernel
theorem dX12_drinkOf_38 : decode cX12_drinkOf 38 = .ok (.iadd, 1) := by decide +kernel
theorem dX12_drinkOf_39 : decode cX12_drinkOf 39 = .ok (.iaload, 1) := by decide +kernel
theorem dX12_drinkOf_40 : decode cX12_drinkOf 40 = .ok (.i2l, 1) := by decide +kernel
theorem dX12_drinkOf_41 : decode cX12_drinkOf 41 = .ok (.lmul, 1) := by decide +kernel
theorem dX12_drinkOf_42 : decode cX12_drinkOf 42 = .ok (.ladd, 1) := by decide +kernel
theorem dX12_drinkOf_43 : decode cX12_drinkOf 43 = .ok (.lstore_n 3, 1) := by decide +kernel
theorem dX12_drinkOf_44 : decode cX12_drinkOf 44 = .ok (.iinc 5 1, 3) := by decide +kernel
theorem dX12_drinkOf_47 : decode cX12_drinkOf 47 = .ok (.goto (-42), 3) := by decide +kernel
theorem dX12_drinkOf_50 : decode cX12_drinkOf 50 = .ok (.lload_n 3, 1) := by decide +kernel
theorem dX12_drinkOf_51 : decode cX12_drinkOf 51 = .ok (.lreturn, 1) := by decide +kernel
theorem dX12_scatterOf_0 : decode cX12_scatterOf 0 = .ok (.lconst 0, 1) := by decide +kernel
theorem dX12_scatterOf_1 : decode cX12_scatterOf 1 = .ok (.lstore_n 3, 1) := by decide +kernel
theorem dX12_scatterOf_2 : decode cX12_scatterOf 2 = .ok (.iconst 0, 1) := by decide +kernel
theorem dX12_scatterOf_3 : decode cX12_scatterOf 3 = .ok (.istore 5, 2) := by decide +kernel
theorem dX12_scatterOf_5 : decode cX12_scatterOf 5 = .ok (.iload 5, 2) := by decide +kernel
theorem dX12_scatterOf_7 : decode cX12_scatterOf 7 = .ok (.aload_n 0, 1) := by decide +kernel
theorem dX12_scatterOf_8 : decode cX12_scatterOf 8 = .ok (.getfield 92, 3) := by decide +kernel
theorem dX12_scatterOf_11 : decode cX12_scatterOf 11 = .ok (.if_icmp .ge 39, 3) := by decide +kernel
theorem dX12_scatterOf_14 : decode cX12_scatterOf 14 = .ok (.lload_n 3, 1) := by decide +kernel
theorem dX12_scatterOf_15 : decode cX12_scatterOf 15 = .ok (.aload_n 0, 1) := by decide +kernel
theorem dX12_scatterOf_16 : decode cX12_scatterOf 16 = .ok (.getfield 44, 3) := by decide +kernel
theorem dX12_scatterOf_19 : decode cX12_scatterOf 19 = .ok (.bipush 12, 2) := by decide +kernel
theorem dX12_scatterOf_21 : decode cX12_scatterOf 21 = .ok (.iload_n 1, 1) := by decide +kernel
theorem dX12_scatterOf_22 : decode cX12_scatterOf 22 = .ok (.imul, 1) := by decide +kernel
theorem dX12_scatterOf_23 : decode cX12_scatterOf 23 = .ok (.iload 5, 2) := by decide +kernel
theorem dX12_scatterOf_25 : decode cX12_scatterOf 25 = .ok (.iadd, 1) := by decide +kernel
theorem dX12_scatterOf_26 : decode cX12_scatterOf 26 = .ok (.iaload, 1) := by decide +kernel
theorem dX12_scatterOf_27 : decode cX12_scatterOf 27 = .ok (.i2l, 1) := by decide +kernel
theorem dX12_scatterOf_28 : decode cX12_scatterOf 28 = .ok (.aload_n 0, 1) := by decide +kernel
theorem dX12_scatterOf_29 : decode cX12_scatterOf 29 = .ok (.getfield 17, 3) := by decide +kernel
theorem dX12_scatterOf_32 : decode cX12_scatterOf 32 = .ok (.bipush 8, 2) := by decide +kernel
theorem dX12_scatterOf_34 : decode cX12_scatterOf 34 = .ok (.iload 5, 2) := by decide +kernel
theorem dX12_scatterOf_36 : decode cX12_scatterOf 36 = .ok (.imul, 1) := by decide +kernel
theorem dX12_scatterOf_37 : decode cX12_scatterOf 37 = .ok (.iload_n 2, 1) := by decide +kernel
theorem dX12_scatterOf_38 : decode cX12_scatterOf 38 = .ok (.iadd, 1) := by decide +kernel
theorem dX12_scatterOf_39 : decode cX12_scatterOf 39 = .ok (.iaload, 1) := by decide +kernel
theorem dX12_scatterOf_40 : decode cX12_scatterOf 40 = .ok (.i2l, 1) := by decide +kernel
theorem dX12_scatterOf_41 : decode cX12_scatterOf 41 = .ok (.lmul, 1) := by decide +kernel
theorem dX12_scatterOf_42 : decode cX12_scatterOf 42 = .ok (.ladd, 1) := by decide +kernel
theorem dX12_scatterOf_43 : decode cX12_scatterOf 43 = .ok (.lstore_n 3, 1) := by decide +kernel
theorem dX12_scatterOf_44 : decode cX12_scatterOf 44 = .ok (.iinc 5 1, 3) := by decide +kernel
theorem dX12_scatterOf_47 : decode cX12_scatterOf 47 = .ok (.goto (-42), 3) := by decide +kernel
theorem dX12_scatterOf_50 : decode cX12_scatterOf 50 = .ok (.lload_n 3, 1) := by decide +kernel
theorem dX12_scatterOf_51 : decode cX12_scatterOf 51 = .ok (.lreturn, 1) := by decide +kernel
theorem dX12_thick_0 : decode cX12_thick 0 = .ok (.iload_n 1, 1) := by decide +kernel
theorem dX12_thick_1 : decode cX12_thick 1 = .ok (.invokestatic 152, 3) := by decide +kernel
theorem dX12_thick_4 : decode cX12_thick 4 = .ok (.ifCond .eq 10, 3) := by decide +kernel
theorem dX12_thick_7 : decode cX12_thick 7 = .ok (.iload_n 2, 1) := by decide +kernel
theorem dX12_thick_8 : decode cX12_thick 8 = .ok (.invokestatic 103, 3) := by decide +kernel
theorem dX12_thick_11 : decode cX12_thick 11 = .ok (.ifCond .ne 7, 3) := by decide +kernel
theorem dX12_thick_14 : decode cX12_thick 14 = .ok (.iconst (-1), 1) := by decide +kernel
theorem dX12_thick_15 : decode cX12_thick 15 = .ok (.goto 31, 3) := by decide +kernel
theorem dX12_thick_18 : decode cX12_thick 18 = .ok (.aload_n 0, 1) := by decide +kernel
theorem dX12_thick_19 : decode cX12_thick 19 = .ok (.iload_n 1, 1) := by decide +kernel
theorem dX12_thick_20 : decode cX12_thick 20 = .ok (.invokevirtual 155, 3) := by decide +kernel
theorem dX12_thick_23 : decode cX12_thick 23 = .ok (.ifCond .ne 8, 3) := by decide +kernel
theorem dX12_thick_26 : decode cX12_thick 26 = .ok (.bipush (-2), 2) := by decide +kernel
theorem dX12_thick_28 : decode cX12_thick 28 = .ok (.goto 18, 3) := by decide +kernel
theorem dX12_thick_31 : decode cX12_thick 31 = .ok (.aload_n 0, 1) := by decide +kernel
theorem dX12_thick_32 : decode cX12_thick 32 = .ok (.iload_n 1, 1) := by decide +kernel
theorem dX12_thick_33 : decode cX12_thick 33 = .ok (.iload_n 2, 1) := by decide +kernel
theorem dX12_thick_34 : decode cX12_thick 34 = .ok (.invokevirtual 158, 3) := by decide +kernel
theorem dX12_thick_37 : decode cX12_thick 37 = .ok (.aload_n 0, 1) := by decide +kernel
theorem dX12_thick_38 : decode cX12_thick 38 = .ok (.iload_n 1, 1) := by decide +kernel
theorem dX12_thick_39 : decode cX12_thick 39 = .ok (.iload_n 2, 1) := by decide +kernel
theorem dX12_thick_40 : decode cX12_thick 40 = .ok (.invokevirtual 162, 3) := by decide +kernel
theorem dX12_thick_43 : decode cX12_thick 43 = .ok (.invokestatic 165, 3) := by decide +kernel
theorem dX12_thick_46 : decode cX12_thick 46 = .ok (.ireturn, 1) := by decide +kernel
theorem dX12_seen_0 : decode cX12_seen 0 = .ok (.iload_n 1, 1) := by decide +kernel
theorem dX12_seen_1 : decode cX12_seen 1 = .ok (.invokestatic 152, 3) := by decide +kernel
theorem dX12_seen_4 : decode cX12_seen 4 = .ok (.ifCond .eq 17, 3) := by decide +kernel
theorem dX12_seen_7 : decode cX12_seen 7 = .ok (.iload_n 2, 1) := by decide +kernel
theorem dX12_seen_8 : decode cX12_seen 8 = .ok (.invokestatic 114, 3) := by decide +kernel
theorem dX12_seen_11 : decode cX12_seen 11 = .ok (.ifCond .eq 10, 3) := by decide +kernel
theorem dX12_seen_14 : decode cX12_seen 14 = .ok (.iload_n 3, 1) := by decide +kernel
theorem dX12_seen_15 : decode cX12_seen 15 = .ok (.invokestatic 117, 3) := by decide +kernel
theorem dX12_seen_18 : decode cX12_seen 18 = .ok (.ifCond .ne 5, 3) := by decide +kernel
theorem dX12_seen_21 : decode cX12_seen 21 = .ok (.iconst (-1), 1) := by decide +kernel
theorem dX12_seen_22 : decode cX12_seen 22 = .ok (.ireturn, 1) := by decide +kernel
theorem dX12_seen_23 : decode cX12_seen 23 = .ok (.aload_n 0, 1) := by decide +kernel
theorem dX12_seen_24 : decode cX12_seen 24 = .ok (.iload_n 1, 1) := by decide +kernel
theorem dX12_seen_25 : decode cX12_seen 25 = .ok (.invokevirtual 155, 3) := by decide +kernel
theorem dX12_seen_28 : decode cX12_seen 28 = .ok (.ifCond .ne 6, 3) := by decide +kernel
theorem dX12_seen_31 : decode cX12_seen 31 = .ok (.bipush (-2), 2) := by decide +kernel
theorem dX12_seen_33 : decode cX12_seen 33 = .ok (.ireturn, 1) := by decide +kernel
theorem dX12_seen_34 : decode cX12_seen 34 = .ok (.iconst 0, 1) := by decide +kernel
theorem dX12_seen_35 : decode cX12_seen 35 = .ok (.istore 4, 2) := by decide +kernel
theorem dX12_seen_37 : decode cX12_seen 37 = .ok (.iload 4, 2) := by decide +kernel
theorem dX12_seen_39 : decode cX12_seen 39 = .ok (.bipush 8, 2) := by decide +kernel
theorem dX12_seen_41 : decode cX12_seen 41 = .ok (.if_icmp .ge 33, 3) := by decide +kernel
theorem dX12_seen_44 : decode cX12_seen 44 = .ok (.aload_n 0, 1) := by decide +kernel
theorem dX12_seen_45 : decode cX12_seen 45 = .ok (.getfield 41, 3) := by decide +kernel
theorem dX12_seen_48 : decode cX12_seen 48 = .ok (.iload 4, 2) := by decide +kernel
theorem dX12_seen_50 : decode cX12_seen 50 = .ok (.aload_n 0, 1) := by decide +kernel
theorem dX12_seen_51 : decode cX12_seen 51 = .ok (.iload_n 1, 1) := by decide +kernel
theorem dX12_seen_52 : decode cX12_seen 52 = .ok (.iload 4, 2) := by decide +kernel
theorem dX12_seen_54 : decode cX12_seen 54 = .ok (.invokevirtual 158, 3) := by decide +kernel
