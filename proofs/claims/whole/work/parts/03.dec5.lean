theorem dX12_seen_57 : decode cX12_seen 57 = .ok (.aload_n 0, 1) := by decide +kernel
theorem dX12_seen_58 : decode cX12_seen 58 = .ok (.iload_n 1, 1) := by decide +kernel
theorem dX12_seen_59 : decode cX12_seen 59 = .ok (.iload 4, 2) := by decide +kernel
theorem dX12_seen_61 : decode cX12_seen 61 = .ok (.invokevirtual 162, 3) := by decide +kernel
theorem dX12_seen_64 : decode cX12_seen 64 = .ok (.invokestatic 165, 3) := by decide +kernel
theorem dX12_seen_67 : decode cX12_seen 67 = .ok (.iastore, 1) := by decide +kernel
theorem dX12_seen_68 : decode cX12_seen 68 = .ok (.iinc 4 1, 3) := by decide +kernel
theorem dX12_seen_71 : decode cX12_seen 71 = .ok (.goto (-34), 3) := by decide +kernel
theorem dX12_seen_74 : decode cX12_seen 74 = .ok (.aload_n 0, 1) := by decide +kernel
theorem dX12_seen_75 : decode cX12_seen 75 = .ok (.iload_n 2, 1) := by decide +kernel
theorem dX12_seen_76 : decode cX12_seen 76 = .ok (.iload_n 3, 1) := by decide +kernel
theorem dX12_seen_77 : decode cX12_seen 77 = .ok (.invokevirtual 145, 3) := by decide +kernel
theorem dX12_seen_80 : decode cX12_seen 80 = .ok (.ireturn, 1) := by decide +kernel
theorem dX12_over_0 : decode cX12_over 0 = .ok (.iload_n 1, 1) := by decide +kernel
theorem dX12_over_1 : decode cX12_over 1 = .ok (.invokestatic 152, 3) := by decide +kernel
theorem dX12_over_4 : decode cX12_over 4 = .ok (.ifCond .eq 33, 3) := by decide +kernel
theorem dX12_over_7 : decode cX12_over 7 = .ok (.iload_n 2, 1) := by decide +kernel
theorem dX12_over_8 : decode cX12_over 8 = .ok (.invokestatic 103, 3) := by decide +kernel
theorem dX12_over_11 : decode cX12_over 11 = .ok (.ifCond .eq 26, 3) := by decide +kernel
theorem dX12_over_14 : decode cX12_over 14 = .ok (.iload_n 3, 1) := by decide +kernel
theorem dX12_over_15 : decode cX12_over 15 = .ok (.iconst 1, 1) := by decide +kernel
theorem dX12_over_16 : decode cX12_over 16 = .ok (.sipush 200, 3) := by decide +kernel
theorem dX12_over_19 : decode cX12_over 19 = .ok (.invokestatic 95, 3) := by decide +kernel
theorem dX12_over_22 : decode cX12_over 22 = .ok (.ifCond .eq 15, 3) := by decide +kernel
theorem dX12_over_25 : decode cX12_over 25 = .ok (.iload 4, 2) := by decide +kernel
theorem dX12_over_27 : decode cX12_over 27 = .ok (.iconst 0, 1) := by decide +kernel
theorem dX12_over_28 : decode cX12_over 28 = .ok (.sipush 10000, 3) := by decide +kernel
theorem dX12_over_31 : decode cX12_over 31 = .ok (.invokestatic 95, 3) := by decide +kernel
theorem dX12_over_34 : decode cX12_over 34 = .ok (.ifCond .ne 5, 3) := by decide +kernel
theorem dX12_over_37 : decode cX12_over 37 = .ok (.iconst (-1), 1) := by decide +kernel
theorem dX12_over_38 : decode cX12_over 38 = .ok (.ireturn, 1) := by decide +kernel
theorem dX12_over_39 : decode cX12_over 39 = .ok (.aload_n 0, 1) := by decide +kernel
theorem dX12_over_40 : decode cX12_over 40 = .ok (.iload_n 1, 1) := by decide +kernel
theorem dX12_over_41 : decode cX12_over 41 = .ok (.invokevirtual 155, 3) := by decide +kernel
theorem dX12_over_44 : decode cX12_over 44 = .ok (.ifCond .ne 8, 3) := by decide +kernel
theorem dX12_over_47 : decode cX12_over 47 = .ok (.bipush (-2), 2) := by decide +kernel
theorem dX12_over_49 : decode cX12_over 49 = .ok (.goto 21, 3) := by decide +kernel
theorem dX12_over_52 : decode cX12_over 52 = .ok (.aload_n 0, 1) := by decide +kernel
theorem dX12_over_53 : decode cX12_over 53 = .ok (.iload_n 1, 1) := by decide +kernel
theorem dX12_over_54 : decode cX12_over 54 = .ok (.iload_n 2, 1) := by decide +kernel
theorem dX12_over_55 : decode cX12_over 55 = .ok (.invokevirtual 158, 3) := by decide +kernel
theorem dX12_over_58 : decode cX12_over 58 = .ok (.aload_n 0, 1) := by decide +kernel
theorem dX12_over_59 : decode cX12_over 59 = .ok (.iload_n 1, 1) := by decide +kernel
theorem dX12_over_60 : decode cX12_over 60 = .ok (.iload_n 2, 1) := by decide +kernel
theorem dX12_over_61 : decode cX12_over 61 = .ok (.invokevirtual 162, 3) := by decide +kernel
theorem dX12_over_64 : decode cX12_over 64 = .ok (.iload_n 3, 1) := by decide +kernel
theorem dX12_over_65 : decode cX12_over 65 = .ok (.iload 4, 2) := by decide +kernel
theorem dX12_over_67 : decode cX12_over 67 = .ok (.invokestatic 169, 3) := by decide +kernel
theorem dX12_over_70 : decode cX12_over 70 = .ok (.ireturn, 1) := by decide +kernel
theorem dX12_hiding_0 : decode cX12_hiding 0 = .ok (.iload_n 1, 1) := by decide +kernel
theorem dX12_hiding_1 : decode cX12_hiding 1 = .ok (.invokestatic 152, 3) := by decide +kernel
theorem dX12_hiding_4 : decode cX12_hiding 4 = .ok (.ifCond .eq 14, 3) := by decide +kernel
theorem dX12_hiding_7 : decode cX12_hiding 7 = .ok (.iload_n 2, 1) := by decide +kernel
theorem dX12_hiding_8 : decode cX12_hiding 8 = .ok (.iconst 0, 1) := by decide +kernel
theorem dX12_hiding_9 : decode cX12_hiding 9 = .ok (.sipush 10000, 3) := by decide +kernel
theorem dX12_hiding_12 : decode cX12_hiding 12 = .ok (.invokestatic 95, 3) := by decide +kernel
theorem dX12_hiding_15 : decode cX12_hiding 15 = .ok (.ifCond .ne 5, 3) := by decide +kernel
theorem dX12_hiding_18 : decode cX12_hiding 18 = .ok (.iconst (-1), 1) := by decide +kernel
theorem dX12_hiding_19 : decode cX12_hiding 19 = .ok (.ireturn, 1) := by decide +kernel
theorem dX12_hiding_20 : decode cX12_hiding 20 = .ok (.aload_n 0, 1) := by decide +kernel
theorem dX12_hiding_21 : decode cX12_hiding 21 = .ok (.iload_n 1, 1) := by decide +kernel
theorem dX12_hiding_22 : decode cX12_hiding 22 = .ok (.invokevirtual 155, 3) := by decide +kernel
theorem dX12_hiding_25 : decode cX12_hiding 25 = .ok (.ifCond .ne 6, 3) := by decide +kernel
theorem dX12_hiding_28 : decode cX12_hiding 28 = .ok (.bipush (-2), 2) := by decide +kernel
theorem dX12_hiding_30 : decode cX12_hiding 30 = .ok (.ireturn, 1) := by decide +kernel
theorem dX12_hiding_31 : decode cX12_hiding 31 = .ok (.iconst 0, 1) := by decide +kernel
theorem dX12_hiding_32 : decode cX12_hiding 32 = .ok (.istore_n 3, 1) := by decide +kernel
theorem dX12_hiding_33 : decode cX12_hiding 33 = .ok (.iload_n 3, 1) := by decide +kernel
theorem dX12_hiding_34 : decode cX12_hiding 34 = .ok (.bipush 8, 2) := by decide +kernel
theorem dX12_hiding_36 : decode cX12_hiding 36 = .ok (.if_icmp .ge 25, 3) := by decide +kernel
theorem dX12_hiding_39 : decode cX12_hiding 39 = .ok (.aload_n 0, 1) := by decide +kernel
theorem dX12_hiding_40 : decode cX12_hiding 40 = .ok (.getfield 47, 3) := by decide +kernel
theorem dX12_hiding_43 : decode cX12_hiding 43 = .ok (.iload_n 3, 1) := by decide +kernel
theorem dX12_hiding_44 : decode cX12_hiding 44 = .ok (.iconst 0, 1) := by decide +kernel
theorem dX12_hiding_45 : decode cX12_hiding 45 = .ok (.iastore, 1) := by decide +kernel
theorem dX12_hiding_46 : decode cX12_hiding 46 = .ok (.aload_n 0, 1) := by decide +kernel
theorem dX12_hiding_47 : decode cX12_hiding 47 = .ok (.getfield 50, 3) := by decide +kernel
theorem dX12_hiding_50 : decode cX12_hiding 50 = .ok (.iload_n 3, 1) := by decide +kernel
theorem dX12_hiding_51 : decode cX12_hiding 51 = .ok (.sipush 10000, 3) := by decide +kernel
theorem dX12_hiding_54 : decode cX12_hiding 54 = .ok (.iastore, 1) := by decide +kernel
theorem dX12_hiding_55 : decode cX12_hiding 55 = .ok (.iinc 3 1, 3) := by decide +kernel
theorem dX12_hiding_58 : decode cX12_hiding 58 = .ok (.goto (-25), 3) := by decide +kernel
theorem dX12_hiding_61 : decode cX12_hiding 61 = .ok (.iconst 1, 1) := by decide +kernel
theorem dX12_hiding_62 : decode cX12_hiding 62 = .ok (.istore_n 3, 1) := by decide +kernel
theorem dX12_hiding_63 : decode cX12_hiding 63 = .ok (.iload_n 3, 1) := by decide +kernel
theorem dX12_hiding_64 : decode cX12_hiding 64 = .ok (.sipush 200, 3) := by decide +kernel
theorem dX12_hiding_67 : decode cX12_hiding 67 = .ok (.if_icmp .gt 130, 3) := by decide +kernel
theorem dX12_hiding_70 : decode cX12_hiding 70 = .ok (.iconst 1, 1) := by decide +kernel
theorem dX12_hiding_71 : decode cX12_hiding 71 = .ok (.istore 4, 2) := by decide +kernel
theorem dX12_hiding_73 : decode cX12_hiding 73 = .ok (.iconst 0, 1) := by decide +kernel
theorem dX12_hiding_74 : decode cX12_hiding 74 = .ok (.istore 5, 2) := by decide +kernel
theorem dX12_hiding_76 : decode cX12_hiding 76 = .ok (.iload 5, 2) := by decide +kernel
theorem dX12_hiding_78 : decode cX12_hiding 78 = .ok (.bipush 8, 2) := by decide +kernel
theorem dX12_hiding_80 : decode cX12_hiding 80 = .ok (.if_icmp .ge 104, 3) := by decide +kernel
theorem dX12_hiding_83 : decode cX12_hiding 83 = .ok (.aload_n 0, 1) := by decide +kernel
theorem dX12_hiding_84 : decode cX12_hiding 84 = .ok (.getfield 47, 3) := by decide +kernel
theorem dX12_hiding_87 : decode cX12_hiding 87 = .ok (.iload 5, 2) := by decide +kernel
theorem dX12_hiding_89 : decode cX12_hiding 89 = .ok (.aload_n 0, 1) := by decide +kernel
theorem dX12_hiding_90 : decode cX12_hiding 90 = .ok (.iload_n 1, 1) := by decide +kernel
theorem dX12_hiding_91 : decode cX12_hiding 91 = .ok (.iload 5, 2) := by decide +kernel
theorem dX12_hiding_93 : decode cX12_hiding 93 = .ok (.invokevirtual 158, 3) := by decide +kernel
theorem dX12_hiding_96 : decode cX12_hiding 96 = .ok (.aload_n 0, 1) := by decide +kernel
theorem dX12_hiding_97 : decode cX12_hiding 97 = .ok (.iload_n 1, 1) := by decide +kernel
theorem dX12_hiding_98 : decode cX12_hiding 98 = .ok (.iload 5, 2) := by decide +kernel
theorem dX12_hiding_100 : decode cX12_hiding 100 = .ok (.invokevirtual 162, 3) := by decide +kernel
theorem dX12_hiding_103 : decode cX12_hiding 103 = .ok (.aload_n 0, 1) := by decide +kernel
theorem dX12_hiding_104 : decode cX12_hiding 104 = .ok (.getfield 47, 3) := by decide +kernel
theorem dX12_hiding_107 : decode cX12_hiding 107 = .ok (.iload 5, 2) := by decide +kernel
theorem dX12_hiding_109 : decode cX12_hiding 109 = .ok (.iaload, 1) := by decide +kernel
theorem dX12_hiding_110 : decode cX12_hiding 110 = .ok (.invokestatic 141, 3) := by decide +kernel
theorem dX12_hiding_113 : decode cX12_hiding 113 = .ok (.iastore, 1) := by decide +kernel
theorem dX12_hiding_114 : decode cX12_hiding 114 = .ok (.aload_n 0, 1) := by decide +kernel
theorem dX12_hiding_115 : decode cX12_hiding 115 = .ok (.getfield 50, 3) := by decide +kernel
theorem dX12_hiding_118 : decode cX12_hiding 118 = .ok (.iload 5, 2) := by decide +kernel
theorem dX12_hiding_120 : decode cX12_hiding 120 = .ok (.aload_n 0, 1) := by decide +kernel
theorem dX12_hiding_121 : decode cX12_hiding 121 = .ok (.iload_n 1, 1) := by decide +kernel
theorem dX12_hiding_122 : decode cX12_hiding 122 = .ok (.iload 5, 2) := by decide +kernel
theorem dX12_hiding_124 : decode cX12_hiding 124 = .ok (.invokevirtual 158, 3) := by decide +kernel
theorem dX12_hiding_127 : decode cX12_hiding 127 = .ok (.aload_n 0, 1) := by decide +kernel
theorem dX12_hiding_128 : decode cX12_hiding 128 = .ok (.iload_n 1, 1) := by decide +kernel
theorem dX12_hiding_129 : decode cX12_hiding 129 = .ok (.iload 5, 2) := by decide +kernel
theorem dX12_hiding_131 : decode cX12_hiding 131 = .ok (.invokevirtual 162, 3) := by decide +kernel
theorem dX12_hiding_134 : decode cX12_hiding 134 = .ok (.aload_n 0, 1) := by decide +kernel
theorem dX12_hiding_135 : decode cX12_hiding 135 = .ok (.getfield 50, 3) := by decide +kernel
theorem dX12_hiding_138 : decode cX12_hiding 138 = .ok (.iload 5, 2) := by decide +kernel
theorem dX12_hiding_140 : decode cX12_hiding 140 = .ok (.iaload, 1) := by decide +kernel
theorem dX12_hiding_141 : decode cX12_hiding 141 = .ok (.invokestatic 141, 3) := by decide +kernel
theorem dX12_hiding_144 : decode cX12_hiding 144 = .ok (.iastore, 1) := by decide +kernel
theorem dX12_hiding_145 : decode cX12_hiding 145 = .ok (.iload 4, 2) := by decide +kernel
theorem dX12_hiding_147 : decode cX12_hiding 147 = .ok (.ifCond .eq 28, 3) := by decide +kernel
theorem dX12_hiding_150 : decode cX12_hiding 150 = .ok (.aload_n 0, 1) := by decide +kernel
theorem dX12_hiding_151 : decode cX12_hiding 151 = .ok (.getfield 47, 3) := by decide +kernel
theorem dX12_hiding_154 : decode cX12_hiding 154 = .ok (.iload 5, 2) := by decide +kernel
theorem dX12_hiding_156 : decode cX12_hiding 156 = .ok (.iaload, 1) := by decide +kernel
theorem dX12_hiding_157 : decode cX12_hiding 157 = .ok (.aload_n 0, 1) := by decide +kernel
theorem dX12_hiding_158 : decode cX12_hiding 158 = .ok (.getfield 50, 3) := by decide +kernel
theorem dX12_hiding_161 : decode cX12_hiding 161 = .ok (.iload 5, 2) := by decide +kernel
theorem dX12_hiding_163 : decode cX12_hiding 163 = .ok (.iaload, 1) := by decide +kernel
theorem dX12_hiding_164 : decode cX12_hiding 164 = .ok (.invokestatic 149, 3) := by decide +kernel
theorem dX12_hiding_167 : decode cX12_hiding 167 = .ok (.iload_n 2, 1) := by decide +kernel
theorem dX12_hiding_168 : decode cX12_hiding 168 = .ok (.if_icmp .gt 7, 3) := by decide +kernel
theorem dX12_hiding_171 : decode cX12_hiding 171 = .ok (.iconst 1, 1) := by decide +kernel
theorem dX12_hiding_172 : decode cX12_hiding 172 = .ok (.goto 4, 3) := by decide +kernel
theorem dX12_hiding_175 : decode cX12_hiding 175 = .ok (.iconst 0, 1) := by decide +kernel
theorem dX12_hiding_176 : decode cX12_hiding 176 = .ok (.istore 4, 2) := by decide +kernel
theorem dX12_hiding_178 : decode cX12_hiding 178 = .ok (.iinc 5 1, 3) := by decide +kernel
theorem dX12_hiding_181 : decode cX12_hiding 181 = .ok (.goto (-105), 3) := by decide +kernel
theorem dX12_hiding_184 : decode cX12_hiding 184 = .ok (.iload 4, 2) := by decide +kernel
theorem dX12_hiding_186 : decode cX12_hiding 186 = .ok (.ifCond .eq 5, 3) := by decide +kernel
theorem dX12_hiding_189 : decode cX12_hiding 189 = .ok (.iload_n 3, 1) := by decide +kernel
theorem dX12_hiding_190 : decode cX12_hiding 190 = .ok (.ireturn, 1) := by decide +kernel
theorem dX12_hiding_191 : decode cX12_hiding 191 = .ok (.iinc 3 1, 3) := by decide +kernel
theorem dX12_hiding_194 : decode cX12_hiding 194 = .ok (.goto (-131), 3) := by decide +kernel
theorem dX12_hiding_197 : decode cX12_hiding 197 = .ok (.bipush (-2), 2) := by decide +kernel
theorem dX12_hiding_199 : decode cX12_hiding 199 = .ok (.ireturn, 1) := by decide +kernel
theorem dX12_ground_0 : decode cX12_ground 0 = .ok (.iload_n 1, 1) := by decide +kernel
theorem dX12_ground_1 : decode cX12_ground 1 = .ok (.invokestatic 173, 3) := by decide +kernel
theorem dX12_ground_4 : decode cX12_ground 4 = .ok (.ifCond .eq 14, 3) := by decide +kernel
theorem dX12_ground_7 : decode cX12_ground 7 = .ok (.iload_n 2, 1) := by decide +kernel
theorem dX12_ground_8 : decode cX12_ground 8 = .ok (.iconst 0, 1) := by decide +kernel
theorem dX12_ground_9 : decode cX12_ground 9 = .ok (.sipush 10000, 3) := by decide +kernel
theorem dX12_ground_12 : decode cX12_ground 12 = .ok (.invokestatic 95, 3) := by decide +kernel
theorem dX12_ground_15 : decode cX12_ground 15 = .ok (.ifCond .ne 5, 3) := by decide +kernel
theorem dX12_ground_18 : decode cX12_ground 18 = .ok (.iconst (-1), 1) := by decide +kernel
theorem dX12_ground_19 : decode cX12_ground 19 = .ok (.ireturn, 1) := by decide +kernel
theorem dX12_ground_20 : decode cX12_ground 20 = .ok (.aload_n 0, 1) := by decide +kernel
theorem dX12_ground_21 : decode cX12_ground 21 = .ok (.getfield 56, 3) := by decide +kernel
theorem dX12_ground_24 : decode cX12_ground 24 = .ok (.iload_n 1, 1) := by decide +kernel
theorem dX12_ground_25 : decode cX12_ground 25 = .ok (.iaload, 1) := by decide +kernel
theorem dX12_ground_26 : decode cX12_ground 26 = .ok (.ifCond .le 6, 3) := by decide +kernel
theorem dX12_ground_29 : decode cX12_ground 29 = .ok (.bipush (-2), 2) := by decide +kernel
theorem dX12_ground_31 : decode cX12_ground 31 = .ok (.ireturn, 1) := by decide +kernel
theorem dX12_ground_32 : decode cX12_ground 32 = .ok (.aload_n 0, 1) := by decide +kernel
theorem dX12_ground_33 : decode cX12_ground 33 = .ok (.getfield 53, 3) := by decide +kernel
theorem dX12_ground_36 : decode cX12_ground 36 = .ok (.iload_n 1, 1) := by decide +kernel
theorem dX12_ground_37 : decode cX12_ground 37 = .ok (.iaload, 1) := by decide +kernel
theorem dX12_ground_38 : decode cX12_ground 38 = .ok (.istore_n 3, 1) := by decide +kernel
theorem dX12_ground_39 : decode cX12_ground 39 = .ok (.aload_n 0, 1) := by decide +kernel
theorem dX12_ground_40 : decode cX12_ground 40 = .ok (.getfield 53, 3) := by decide +kernel
theorem dX12_ground_43 : decode cX12_ground 43 = .ok (.iload_n 1, 1) := by decide +kernel
theorem dX12_ground_44 : decode cX12_ground 44 = .ok (.iload_n 2, 1) := by decide +kernel
theorem dX12_ground_45 : decode cX12_ground 45 = .ok (.iastore, 1) := by decide +kernel
theorem dX12_ground_46 : decode cX12_ground 46 = .ok (.iload_n 3, 1) := by decide +kernel
theorem dX12_ground_47 : decode cX12_ground 47 = .ok (.ireturn, 1) := by decide +kernel
theorem dX12_lay_0 : decode cX12_lay 0 = .ok (.iload_n 1, 1) := by decide +kernel
theorem dX12_lay_1 : decode cX12_lay 1 = .ok (.invokestatic 152, 3) := by decide +kernel
theorem dX12_lay_4 : decode cX12_lay 4 = .ok (.ifCond .eq 21, 3) := by decide +kernel
theorem dX12_lay_7 : decode cX12_lay 7 = .ok (.iload_n 2, 1) := by decide +kernel
theorem dX12_lay_8 : decode cX12_lay 8 = .ok (.invokestatic 173, 3) := by decide +kernel
theorem dX12_lay_11 : decode cX12_lay 11 = .ok (.ifCond .eq 14, 3) := by decide +kernel
theorem dX12_lay_14 : decode cX12_lay 14 = .ok (.iload_n 3, 1) := by decide +kernel
theorem dX12_lay_15 : decode cX12_lay 15 = .ok (.iconst 1, 1) := by decide +kernel
theorem dX12_lay_16 : decode cX12_lay 16 = .ok (.sipush 200, 3) := by decide +kernel
theorem dX12_lay_19 : decode cX12_lay 19 = .ok (.invokestatic 95, 3) := by decide +kernel
theorem dX12_lay_22 : decode cX12_lay 22 = .ok (.ifCond .ne 5, 3) := by decide +kernel
theorem dX12_lay_25 : decode cX12_lay 25 = .ok (.iconst (-1), 1) := by decide +kernel
theorem dX12_lay_26 : decode cX12_lay 26 = .ok (.ireturn, 1) := by decide +kernel
theorem dX12_lay_27 : decode cX12_lay 27 = .ok (.aload_n 0, 1) := by decide +kernel
theorem dX12_lay_28 : decode cX12_lay 28 = .ok (.iload_n 1, 1) := by decide +kernel
theorem dX12_lay_29 : decode cX12_lay 29 = .ok (.invokevirtual 155, 3) := by decide +kernel
theorem dX12_lay_32 : decode cX12_lay 32 = .ok (.ifCond .ne 6, 3) := by decide +kernel
theorem dX12_lay_35 : decode cX12_lay 35 = .ok (.bipush (-2), 2) := by decide +kernel
theorem dX12_lay_37 : decode cX12_lay 37 = .ok (.ireturn, 1) := by decide +kernel
theorem dX12_lay_38 : decode cX12_lay 38 = .ok (.aload_n 0, 1) := by decide +kernel
theorem dX12_lay_39 : decode cX12_lay 39 = .ok (.getfield 56, 3) := by decide +kernel
theorem dX12_lay_42 : decode cX12_lay 42 = .ok (.iload_n 2, 1) := by decide +kernel
theorem dX12_lay_43 : decode cX12_lay 43 = .ok (.iaload, 1) := by decide +kernel
theorem dX12_lay_44 : decode cX12_lay 44 = .ok (.bipush 10, 2) := by decide +kernel
theorem dX12_lay_46 : decode cX12_lay 46 = .ok (.if_icmp .ne 6, 3) := by decide +kernel
theorem dX12_lay_49 : decode cX12_lay 49 = .ok (.bipush (-3), 2) := by decide +kernel
theorem dX12_lay_51 : decode cX12_lay 51 = .ok (.ireturn, 1) := by decide +kernel
theorem dX12_lay_52 : decode cX12_lay 52 = .ok (.bipush 10, 2) := by decide +kernel
theorem dX12_lay_54 : decode cX12_lay 54 = .ok (.iload_n 2, 1) := by decide +kernel
theorem dX12_lay_55 : decode cX12_lay 55 = .ok (.imul, 1) := by decide +kernel
theorem dX12_lay_56 : decode cX12_lay 56 = .ok (.aload_n 0, 1) := by decide +kernel
theorem dX12_lay_57 : decode cX12_lay 57 = .ok (.getfield 56, 3) := by decide +kernel
theorem dX12_lay_60 : decode cX12_lay 60 = .ok (.iload_n 2, 1) := by decide +kernel
theorem dX12_lay_61 : decode cX12_lay 61 = .ok (.iaload, 1) := by decide +kernel
theorem dX12_lay_62 : decode cX12_lay 62 = .ok (.iadd, 1) := by decide +kernel
theorem dX12_lay_63 : decode cX12_lay 63 = .ok (.istore 4, 2) := by decide +kernel
theorem dX12_lay_65 : decode cX12_lay 65 = .ok (.aload_n 0, 1) := by decide +kernel
theorem dX12_lay_66 : decode cX12_lay 66 = .ok (.getfield 59, 3) := by decide +kernel
theorem dX12_lay_69 : decode cX12_lay 69 = .ok (.iload 4, 2) := by decide +kernel
theorem dX12_lay_71 : decode cX12_lay 71 = .ok (.iload_n 3, 1) := by decide +kernel
theorem dX12_lay_72 : decode cX12_lay 72 = .ok (.iastore, 1) := by decide +kernel
theorem dX12_lay_73 : decode cX12_lay 73 = .ok (.aload_n 0, 1) := by decide +kernel
theorem dX12_lay_74 : decode cX12_lay 74 = .ok (.getfield 62, 3) := by decide +kernel
theorem dX12_lay_77 : decode cX12_lay 77 = .ok (.iload 4, 2) := by decide +kernel
theorem dX12_lay_79 : decode cX12_lay 79 = .ok (.aload_n 0, 1) := by decide +kernel
theorem dX12_lay_80 : decode cX12_lay 80 = .ok (.getfield 120, 3) := by decide +kernel
theorem dX12_lay_83 : decode cX12_lay 83 = .ok (.iastore, 1) := by decide +kernel
theorem dX12_lay_84 : decode cX12_lay 84 = .ok (.iconst 0, 1) := by decide +kernel
theorem dX12_lay_85 : decode cX12_lay 85 = .ok (.istore 5, 2) := by decide +kernel
theorem dX12_lay_87 : decode cX12_lay 87 = .ok (.iload 5, 2) := by decide +kernel
theorem dX12_lay_89 : decode cX12_lay 89 = .ok (.bipush 12, 2) := by decide +kernel
theorem dX12_lay_91 : decode cX12_lay 91 = .ok (.if_icmp .ge 63, 3) := by decide +kernel
theorem dX12_lay_94 : decode cX12_lay 94 = .ok (.aload_n 0, 1) := by decide +kernel
theorem dX12_lay_95 : decode cX12_lay 95 = .ok (.getfield 44, 3) := by decide +kernel
theorem dX12_lay_98 : decode cX12_lay 98 = .ok (.bipush 12, 2) := by decide +kernel
theorem dX12_lay_100 : decode cX12_lay 100 = .ok (.iload_n 1, 1) := by decide +kernel
theorem dX12_lay_101 : decode cX12_lay 101 = .ok (.imul, 1) := by decide +kernel
theorem dX12_lay_102 : decode cX12_lay 102 = .ok (.iload 5, 2) := by decide +kernel
theorem dX12_lay_104 : decode cX12_lay 104 = .ok (.iadd, 1) := by decide +kernel
theorem dX12_lay_105 : decode cX12_lay 105 = .ok (.iaload, 1) := by decide +kernel
theorem dX12_lay_106 : decode cX12_lay 106 = .ok (.istore 6, 2) := by decide +kernel
theorem dX12_lay_108 : decode cX12_lay 108 = .ok (.aload_n 0, 1) := by decide +kernel
theorem dX12_lay_109 : decode cX12_lay 109 = .ok (.getfield 65, 3) := by decide +kernel
theorem dX12_lay_112 : decode cX12_lay 112 = .ok (.bipush 12, 2) := by decide +kernel
theorem dX12_lay_114 : decode cX12_lay 114 = .ok (.iload 4, 2) := by decide +kernel
theorem dX12_lay_116 : decode cX12_lay 116 = .ok (.imul, 1) := by decide +kernel
theorem dX12_lay_117 : decode cX12_lay 117 = .ok (.iload 5, 2) := by decide +kernel
theorem dX12_lay_119 : decode cX12_lay 119 = .ok (.iadd, 1) := by decide +kernel
theorem dX12_lay_120 : decode cX12_lay 120 = .ok (.iload 6, 2) := by decide +kernel
theorem dX12_lay_122 : decode cX12_lay 122 = .ok (.iastore, 1) := by decide +kernel
theorem dX12_lay_123 : decode cX12_lay 123 = .ok (.aload_n 0, 1) := by decide +kernel
theorem dX12_lay_124 : decode cX12_lay 124 = .ok (.getfield 29, 3) := by decide +kernel
theorem dX12_lay_127 : decode cX12_lay 127 = .ok (.iload 5, 2) := by decide +kernel
theorem dX12_lay_129 : decode cX12_lay 129 = .ok (.dup2, 1) := by decide +kernel
theorem dX12_lay_130 : decode cX12_lay 130 = .ok (.iaload, 1) := by decide +kernel
theorem dX12_lay_131 : decode cX12_lay 131 = .ok (.iload 6, 2) := by decide +kernel
theorem dX12_lay_133 : decode cX12_lay 133 = .ok (.iadd, 1) := by decide +kernel
theorem dX12_lay_134 : decode cX12_lay 134 = .ok (.iastore, 1) := by decide +kernel
theorem dX12_lay_135 : decode cX12_lay 135 = .ok (.aload_n 0, 1) := by decide +kernel
theorem dX12_lay_136 : decode cX12_lay 136 = .ok (.getfield 44, 3) := by decide +kernel
theorem dX12_lay_139 : decode cX12_lay 139 = .ok (.bipush 12, 2) := by decide +kernel
theorem dX12_lay_141 : decode cX12_lay 141 = .ok (.iload_n 1, 1) := by decide +kernel
theorem dX12_lay_142 : decode cX12_lay 142 = .ok (.imul, 1) := by decide +kernel
theorem dX12_lay_143 : decode cX12_lay 143 = .ok (.iload 5, 2) := by decide +kernel
theorem dX12_lay_145 : decode cX12_lay 145 = .ok (.iadd, 1) := by decide +kernel
theorem dX12_lay_146 : decode cX12_lay 146 = .ok (.iconst 0, 1) := by decide +kernel
theorem dX12_lay_147 : decode cX12_lay 147 = .ok (.iastore, 1) := by decide +kernel
theorem dX12_lay_148 : decode cX12_lay 148 = .ok (.iinc 5 1, 3) := by decide +kernel
theorem dX12_lay_151 : decode cX12_lay 151 = .ok (.goto (-64), 3) := by decide +kernel
theorem dX12_lay_154 : decode cX12_lay 154 = .ok (.aload_n 0, 1) := by decide +kernel
theorem dX12_lay_155 : decode cX12_lay 155 = .ok (.getfield 56, 3) := by decide +kernel
theorem dX12_lay_158 : decode cX12_lay 158 = .ok (.iload_n 2, 1) := by decide +kernel
theorem dX12_lay_159 : decode cX12_lay 159 = .ok (.dup2, 1) := by decide +kernel
theorem dX12_lay_160 : decode cX12_lay 160 = .ok (.iaload, 1) := by decide +kernel
theorem dX12_lay_161 : decode cX12_lay 161 = .ok (.iconst 1, 1) := by decide +kernel
theorem dX12_lay_162 : decode cX12_lay 162 = .ok (.iadd, 1) := by decide +kernel
theorem dX12_lay_163 : decode cX12_lay 163 = .ok (.iastore, 1) := by decide +kernel
theorem dX12_lay_164 : decode cX12_lay 164 = .ok (.aload_n 0, 1) := by decide +kernel
theorem dX12_lay_165 : decode cX12_lay 165 = .ok (.getfield 56, 3) := by decide +kernel
theorem dX12_lay_168 : decode cX12_lay 168 = .ok (.iload_n 2, 1) := by decide +kernel
theorem dX12_lay_169 : decode cX12_lay 169 = .ok (.iaload, 1) := by decide +kernel
theorem dX12_lay_170 : decode cX12_lay 170 = .ok (.ireturn, 1) := by decide +kernel
theorem dX12_backOf_0 : decode cX12_backOf 0 = .ok (.aload_n 0, 1) := by decide +kernel
theorem dX12_backOf_1 : decode cX12_backOf 1 = .ok (.getfield 53, 3) := by decide +kernel
theorem dX12_backOf_4 : decode cX12_backOf 4 = .ok (.iload_n 1, 1) := by decide +kernel
theorem dX12_backOf_5 : decode cX12_backOf 5 = .ok (.iaload, 1) := by decide +kernel
theorem dX12_backOf_6 : decode cX12_backOf 6 = .ok (.istore 4, 2) := by decide +kernel
theorem dX12_backOf_8 : decode cX12_backOf 8 = .ok (.bipush 10, 2) := by decide +kernel
theorem dX12_backOf_10 : decode cX12_backOf 10 = .ok (.iload_n 1, 1) := by decide +kernel
theorem dX12_backOf_11 : decode cX12_backOf 11 = .ok (.imul, 1) := by decide +kernel
theorem dX12_backOf_12 : decode cX12_backOf 12 = .ok (.istore 5, 2) := by decide +kernel
theorem dX12_backOf_14 : decode cX12_backOf 14 = .ok (.iload 5, 2) := by decide +kernel
theorem dX12_backOf_16 : decode cX12_backOf 16 = .ok (.bipush 10, 2) := by decide +kernel
theorem dX12_backOf_18 : decode cX12_backOf 18 = .ok (.iload_n 1, 1) := by decide +kernel
theorem dX12_backOf_19 : decode cX12_backOf 19 = .ok (.imul, 1) := by decide +kernel
theorem dX12_backOf_20 : decode cX12_backOf 20 = .ok (.aload_n 0, 1) := by decide +kernel
theorem dX12_backOf_21 : decode cX12_backOf 21 = .ok (.getfield 56, 3) := by decide +kernel
theorem dX12_backOf_24 : decode cX12_backOf 24 = .ok (.iload_n 1, 1) := by decide +kernel
theorem dX12_backOf_25 : decode cX12_backOf 25 = .ok (.iaload, 1) := by decide +kernel
theorem dX12_backOf_26 : decode cX12_backOf 26 = .ok (.iadd, 1) := by decide +kernel
theorem dX12_backOf_27 : decode cX12_backOf 27 = .ok (.if_icmp .ge 123, 3) := by decide +kernel
theorem dX12_backOf_30 : decode cX12_backOf 30 = .ok (.lconst 0, 1) := by decide +kernel
theorem dX12_backOf_31 : decode cX12_backOf 31 = .ok (.lstore 6, 2) := by decide +kernel
theorem dX12_backOf_33 : decode cX12_backOf 33 = .ok (.lconst 0, 1) := by decide +kernel
theorem dX12_backOf_34 : decode cX12_backOf 34 = .ok (.lstore 8, 2) := by decide +kernel
theorem dX12_backOf_36 : decode cX12_backOf 36 = .ok (.iconst 0, 1) := by decide +kernel
theorem dX12_backOf_37 : decode cX12_backOf 37 = .ok (.istore 10, 2) := by decide +kernel
theorem dX12_backOf_39 : decode cX12_backOf 39 = .ok (.iload 10, 2) := by decide +kernel
theorem dX12_backOf_41 : decode cX12_backOf 41 = .ok (.aload_n 0, 1) := by decide +kernel
theorem dX12_backOf_42 : decode cX12_backOf 42 = .ok (.getfield 92, 3) := by decide +kernel
theorem dX12_backOf_45 : decode cX12_backOf 45 = .ok (.if_icmp .ge 81, 3) := by decide +kernel
theorem dX12_backOf_48 : decode cX12_backOf 48 = .ok (.aload_n 0, 1) := by decide +kernel
theorem dX12_backOf_49 : decode cX12_backOf 49 = .ok (.getfield 65, 3) := by decide +kernel
theorem dX12_backOf_52 : decode cX12_backOf 52 = .ok (.bipush 12, 2) := by decide +kernel
theorem dX12_backOf_54 : decode cX12_backOf 54 = .ok (.iload 5, 2) := by decide +kernel
theorem dX12_backOf_56 : decode cX12_backOf 56 = .ok (.imul, 1) := by decide +kernel
theorem dX12_backOf_57 : decode cX12_backOf 57 = .ok (.iload 10, 2) := by decide +kernel
theorem dX12_backOf_59 : decode cX12_backOf 59 = .ok (.iadd, 1) := by decide +kernel
theorem dX12_backOf_60 : decode cX12_backOf 60 = .ok (.iaload, 1) := by decide +kernel
theorem dX12_backOf_61 : decode cX12_backOf 61 = .ok (.i2l, 1) := by decide +kernel
theorem dX12_backOf_62 : decode cX12_backOf 62 = .ok (.lstore 11, 2) := by decide +kernel
theorem dX12_backOf_64 : decode cX12_backOf 64 = .ok (.lload 11, 2) := by decide +kernel
theorem dX12_backOf_66 : decode cX12_backOf 66 = .ok (.lconst 0, 1) := by decide +kernel
theorem dX12_backOf_67 : decode cX12_backOf 67 = .ok (.lcmp, 1) := by decide +kernel
theorem dX12_backOf_68 : decode cX12_backOf 68 = .ok (.ifCond .ne 6, 3) := by decide +kernel
theorem dX12_backOf_71 : decode cX12_backOf 71 = .ok (.goto 49, 3) := by decide +kernel
theorem dX12_backOf_74 : decode cX12_backOf 74 = .ok (.lload 6, 2) := by decide +kernel
theorem dX12_backOf_76 : decode cX12_backOf 76 = .ok (.lload 11, 2) := by decide +kernel
theorem dX12_backOf_78 : decode cX12_backOf 78 = .ok (.aload_n 0, 1) := by decide +kernel
theorem dX12_backOf_79 : decode cX12_backOf 79 = .ok (.iload 10, 2) := by decide +kernel
theorem dX12_backOf_81 : decode cX12_backOf 81 = .ok (.iload_n 2, 1) := by decide +kernel
theorem dX12_backOf_82 : decode cX12_backOf 82 = .ok (.iload_n 3, 1) := by decide +kernel
theorem dX12_backOf_83 : decode cX12_backOf 83 = .ok (.aload_n 0, 1) := by decide +kernel
theorem dX12_backOf_84 : decode cX12_backOf 84 = .ok (.getfield 62, 3) := by decide +kernel
theorem dX12_backOf_87 : decode cX12_backOf 87 = .ok (.iload 5, 2) := by decide +kernel
theorem dX12_backOf_89 : decode cX12_backOf 89 = .ok (.iaload, 1) := by decide +kernel
theorem dX12_backOf_90 : decode cX12_backOf 90 = .ok (.isub, 1) := by decide +kernel
theorem dX12_backOf_91 : decode cX12_backOf 91 = .ok (.invokevirtual 110, 3) := by decide +kernel
theorem dX12_backOf_94 : decode cX12_backOf 94 = .ok (.i2l, 1) := by decide +kernel
theorem dX12_backOf_95 : decode cX12_backOf 95 = .ok (.lmul, 1) := by decide +kernel
theorem dX12_backOf_96 : decode cX12_backOf 96 = .ok (.ladd, 1) := by decide +kernel
theorem dX12_backOf_97 : decode cX12_backOf 97 = .ok (.lstore 6, 2) := by decide +kernel
theorem dX12_backOf_99 : decode cX12_backOf 99 = .ok (.lload 8, 2) := by decide +kernel
theorem dX12_backOf_101 : decode cX12_backOf 101 = .ok (.lload 11, 2) := by decide +kernel
theorem dX12_backOf_103 : decode cX12_backOf 103 = .ok (.aload_n 0, 1) := by decide +kernel
theorem dX12_backOf_104 : decode cX12_backOf 104 = .ok (.getfield 17, 3) := by decide +kernel
theorem dX12_backOf_107 : decode cX12_backOf 107 = .ok (.bipush 8, 2) := by decide +kernel
theorem dX12_backOf_109 : decode cX12_backOf 109 = .ok (.iload 10, 2) := by decide +kernel
theorem dX12_backOf_111 : decode cX12_backOf 111 = .ok (.imul, 1) := by decide +kernel
theorem dX12_backOf_112 : decode cX12_backOf 112 = .ok (.iload_n 2, 1) := by decide +kernel
theorem dX12_backOf_113 : decode cX12_backOf 113 = .ok (.iadd, 1) := by decide +kernel
theorem dX12_backOf_114 : decode cX12_backOf 114 = .ok (.iaload, 1) := by decide +kernel
theorem dX12_backOf_115 : decode cX12_backOf 115 = .ok (.i2l, 1) := by decide +kernel
theorem dX12_backOf_116 : decode cX12_backOf 116 = .ok (.lmul, 1) := by decide +kernel
theorem dX12_backOf_117 : decode cX12_backOf 117 = .ok (.ladd, 1) := by decide +kernel
theorem dX12_backOf_118 : decode cX12_backOf 118 = .ok (.lstore 8, 2) := by decide +kernel
theorem dX12_backOf_120 : decode cX12_backOf 120 = .ok (.iinc 10 1, 3) := by decide +kernel
theorem dX12_backOf_123 : decode cX12_backOf 123 = .ok (.goto (-84), 3) := by decide +kernel
theorem dX12_backOf_126 : decode cX12_backOf 126 = .ok (.lload 6, 2) := by decide +kernel
theorem dX12_backOf_128 : decode cX12_backOf 128 = .ok (.lload 8, 2) := by decide +kernel
theorem dX12_backOf_130 : decode cX12_backOf 130 = .ok (.aload_n 0, 1) := by decide +kernel
theorem dX12_backOf_131 : decode cX12_backOf 131 = .ok (.getfield 59, 3) := by decide +kernel
theorem dX12_backOf_134 : decode cX12_backOf 134 = .ok (.iload 5, 2) := by decide +kernel
theorem dX12_backOf_136 : decode cX12_backOf 136 = .ok (.iaload, 1) := by decide +kernel
theorem dX12_backOf_137 : decode cX12_backOf 137 = .ok (.iload 4, 2) := by decide +kernel
theorem dX12_backOf_139 : decode cX12_backOf 139 = .ok (.invokestatic 169, 3) := by decide +kernel
theorem dX12_backOf_142 : decode cX12_backOf 142 = .ok (.istore 4, 2) := by decide +kernel
theorem dX12_backOf_144 : decode cX12_backOf 144 = .ok (.iinc 5 1, 3) := by decide +kernel
theorem dX12_backOf_147 : decode cX12_backOf 147 = .ok (.goto (-133), 3) := by decide +kernel
theorem dX12_backOf_150 : decode cX12_backOf 150 = .ok (.iload 4, 2) := by decide +kernel
theorem dX12_backOf_152 : decode cX12_backOf 152 = .ok (.ireturn, 1) := by decide +kernel
theorem dX12_lightOf_0 : decode cX12_lightOf 0 = .ok (.iconst 0, 1) := by decide +kernel
theorem dX12_lightOf_1 : decode cX12_lightOf 1 = .ok (.istore_n 3, 1) := by decide +kernel
theorem dX12_lightOf_2 : decode cX12_lightOf 2 = .ok (.iload_n 3, 1) := by decide +kernel
theorem dX12_lightOf_3 : decode cX12_lightOf 3 = .ok (.bipush 8, 2) := by decide +kernel
theorem dX12_lightOf_5 : decode cX12_lightOf 5 = .ok (.if_icmp .ge 22, 3) := by decide +kernel
theorem dX12_lightOf_8 : decode cX12_lightOf 8 = .ok (.aload_n 0, 1) := by decide +kernel
theorem dX12_lightOf_9 : decode cX12_lightOf 9 = .ok (.getfield 41, 3) := by decide +kernel
theorem dX12_lightOf_12 : decode cX12_lightOf 12 = .ok (.iload_n 3, 1) := by decide +kernel
theorem dX12_lightOf_13 : decode cX12_lightOf 13 = .ok (.aload_n 0, 1) := by decide +kernel
theorem dX12_lightOf_14 : decode cX12_lightOf 14 = .ok (.iload_n 1, 1) := by decide +kernel
theorem dX12_lightOf_15 : decode cX12_lightOf 15 = .ok (.iload_n 3, 1) := by decide +kernel
theorem dX12_lightOf_16 : decode cX12_lightOf 16 = .ok (.iload_n 2, 1) := by decide +kernel
theorem dX12_lightOf_17 : decode cX12_lightOf 17 = .ok (.invokevirtual 176, 3) := by decide +kernel
theorem dX12_lightOf_20 : decode cX12_lightOf 20 = .ok (.iastore, 1) := by decide +kernel
theorem dX12_lightOf_21 : decode cX12_lightOf 21 = .ok (.iinc 3 1, 3) := by decide +kernel
theorem dX12_lightOf_24 : decode cX12_lightOf 24 = .ok (.goto (-22), 3) := by decide +kernel
theorem dX12_lightOf_27 : decode cX12_lightOf 27 = .ok (.return_, 1) := by decide +kernel
theorem dX12_back_0 : decode cX12_back 0 = .ok (.iload_n 1, 1) := by decide +kernel
theorem dX12_back_1 : decode cX12_back 1 = .ok (.invokestatic 173, 3) := by decide +kernel
theorem dX12_back_4 : decode cX12_back 4 = .ok (.ifCond .eq 33, 3) := by decide +kernel
theorem dX12_back_7 : decode cX12_back 7 = .ok (.iload_n 2, 1) := by decide +kernel
theorem dX12_back_8 : decode cX12_back 8 = .ok (.invokestatic 103, 3) := by decide +kernel
theorem dX12_back_11 : decode cX12_back 11 = .ok (.ifCond .eq 26, 3) := by decide +kernel
theorem dX12_back_14 : decode cX12_back 14 = .ok (.iload_n 3, 1) := by decide +kernel
theorem dX12_back_15 : decode cX12_back 15 = .ok (.aload_n 0, 1) := by decide +kernel
theorem dX12_back_16 : decode cX12_back 16 = .ok (.getfield 120, 3) := by decide +kernel
theorem dX12_back_19 : decode cX12_back 19 = .ok (.bipush 99, 2) := by decide +kernel
theorem dX12_back_21 : decode cX12_back 21 = .ok (.invokestatic 95, 3) := by decide +kernel
theorem dX12_back_24 : decode cX12_back 24 = .ok (.ifCond .eq 13, 3) := by decide +kernel
theorem dX12_back_27 : decode cX12_back 27 = .ok (.aload_n 0, 1) := by decide +kernel
theorem dX12_back_28 : decode cX12_back 28 = .ok (.iload_n 1, 1) := by decide +kernel
theorem dX12_back_29 : decode cX12_back 29 = .ok (.iload_n 2, 1) := by decide +kernel
theorem dX12_back_30 : decode cX12_back 30 = .ok (.iload_n 3, 1) := by decide +kernel
theorem dX12_back_31 : decode cX12_back 31 = .ok (.invokevirtual 176, 3) := by decide +kernel
theorem dX12_back_34 : decode cX12_back 34 = .ok (.goto 4, 3) := by decide +kernel
theorem dX12_back_37 : decode cX12_back 37 = .ok (.iconst (-1), 1) := by decide +kernel
theorem dX12_back_38 : decode cX12_back 38 = .ok (.ireturn, 1) := by decide +kernel
theorem dX12_look_0 : decode cX12_look 0 = .ok (.iload_n 1, 1) := by decide +kernel
theorem dX12_look_1 : decode cX12_look 1 = .ok (.invokestatic 173, 3) := by decide +kernel
theorem dX12_look_4 : decode cX12_look 4 = .ok (.ifCond .eq 17, 3) := by decide +kernel
theorem dX12_look_7 : decode cX12_look 7 = .ok (.iload_n 2, 1) := by decide +kernel
theorem dX12_look_8 : decode cX12_look 8 = .ok (.invokestatic 114, 3) := by decide +kernel
theorem dX12_look_11 : decode cX12_look 11 = .ok (.ifCond .eq 10, 3) := by decide +kernel
theorem dX12_look_14 : decode cX12_look 14 = .ok (.iload_n 3, 1) := by decide +kernel
theorem dX12_look_15 : decode cX12_look 15 = .ok (.invokestatic 117, 3) := by decide +kernel
theorem dX12_look_18 : decode cX12_look 18 = .ok (.ifCond .ne 5, 3) := by decide +kernel
theorem dX12_look_21 : decode cX12_look 21 = .ok (.iconst (-1), 1) := by decide +kernel
theorem dX12_look_22 : decode cX12_look 22 = .ok (.ireturn, 1) := by decide +kernel
theorem dX12_look_23 : decode cX12_look 23 = .ok (.aload_n 0, 1) := by decide +kernel
theorem dX12_look_24 : decode cX12_look 24 = .ok (.iload_n 1, 1) := by decide +kernel
theorem dX12_look_25 : decode cX12_look 25 = .ok (.aload_n 0, 1) := by decide +kernel
theorem dX12_look_26 : decode cX12_look 26 = .ok (.getfield 120, 3) := by decide +kernel
theorem dX12_look_29 : decode cX12_look 29 = .ok (.invokevirtual 179, 3) := by decide +kernel
theorem dX12_look_32 : decode cX12_look 32 = .ok (.aload_n 0, 1) := by decide +kernel
theorem dX12_look_33 : decode cX12_look 33 = .ok (.iload_n 2, 1) := by decide +kernel
theorem dX12_look_34 : decode cX12_look 34 = .ok (.iload_n 3, 1) := by decide +kernel
theorem dX12_look_35 : decode cX12_look 35 = .ok (.invokevirtual 145, 3) := by decide +kernel
theorem dX12_look_38 : decode cX12_look 38 = .ok (.ireturn, 1) := by decide +kernel
theorem dX12_missed_0 : decode cX12_missed 0 = .ok (.iload_n 1, 1) := by decide +kernel
theorem dX12_missed_1 : decode cX12_missed 1 = .ok (.invokestatic 173, 3) := by decide +kernel
theorem dX12_missed_4 : decode cX12_missed 4 = .ok (.ifCond .eq 21, 3) := by decide +kernel
theorem dX12_missed_7 : decode cX12_missed 7 = .ok (.iload_n 2, 1) := by decide +kernel
theorem dX12_missed_8 : decode cX12_missed 8 = .ok (.invokestatic 114, 3) := by decide +kernel
theorem dX12_missed_11 : decode cX12_missed 11 = .ok (.ifCond .eq 14, 3) := by decide +kernel
theorem dX12_missed_14 : decode cX12_missed 14 = .ok (.iload_n 3, 1) := by decide +kernel
theorem dX12_missed_15 : decode cX12_missed 15 = .ok (.iconst 0, 1) := by decide +kernel
theorem dX12_missed_16 : decode cX12_missed 16 = .ok (.sipush 30000, 3) := by decide +kernel
theorem dX12_missed_19 : decode cX12_missed 19 = .ok (.invokestatic 95, 3) := by decide +kernel
theorem dX12_missed_22 : decode cX12_missed 22 = .ok (.ifCond .ne 5, 3) := by decide +kernel
theorem dX12_missed_25 : decode cX12_missed 25 = .ok (.iconst (-1), 1) := by decide +kernel
theorem dX12_missed_26 : decode cX12_missed 26 = .ok (.ireturn, 1) := by decide +kernel
theorem dX12_missed_27 : decode cX12_missed 27 = .ok (.aload_n 0, 1) := by decide +kernel
theorem dX12_missed_28 : decode cX12_missed 28 = .ok (.getfield 120, 3) := by decide +kernel
theorem dX12_missed_31 : decode cX12_missed 31 = .ok (.istore 4, 2) := by decide +kernel
theorem dX12_missed_33 : decode cX12_missed 33 = .ok (.iload 4, 2) := by decide +kernel
theorem dX12_missed_35 : decode cX12_missed 35 = .ok (.bipush 99, 2) := by decide +kernel
theorem dX12_missed_37 : decode cX12_missed 37 = .ok (.if_icmp .gt 46, 3) := by decide +kernel
theorem dX12_missed_40 : decode cX12_missed 40 = .ok (.aload_n 0, 1) := by decide +kernel
theorem dX12_missed_41 : decode cX12_missed 41 = .ok (.iload_n 1, 1) := by decide +kernel
theorem dX12_missed_42 : decode cX12_missed 42 = .ok (.iload 4, 2) := by decide +kernel
theorem dX12_missed_44 : decode cX12_missed 44 = .ok (.invokevirtual 179, 3) := by decide +kernel
theorem dX12_missed_47 : decode cX12_missed 47 = .ok (.aload_n 0, 1) := by decide +kernel
theorem dX12_missed_48 : decode cX12_missed 48 = .ok (.aload_n 0, 1) := by decide +kernel
theorem dX12_missed_49 : decode cX12_missed 49 = .ok (.getfield 68, 3) := by decide +kernel
theorem dX12_missed_52 : decode cX12_missed 52 = .ok (.iconst 0, 1) := by decide +kernel
theorem dX12_missed_53 : decode cX12_missed 53 = .ok (.iaload, 1) := by decide +kernel
theorem dX12_missed_54 : decode cX12_missed 54 = .ok (.aload_n 0, 1) := by decide +kernel
theorem dX12_missed_55 : decode cX12_missed 55 = .ok (.getfield 68, 3) := by decide +kernel
theorem dX12_missed_58 : decode cX12_missed 58 = .ok (.iconst 1, 1) := by decide +kernel
theorem dX12_missed_59 : decode cX12_missed 59 = .ok (.iaload, 1) := by decide +kernel
theorem dX12_missed_60 : decode cX12_missed 60 = .ok (.aload_n 0, 1) := by decide +kernel
theorem dX12_missed_61 : decode cX12_missed 61 = .ok (.getfield 68, 3) := by decide +kernel
theorem dX12_missed_64 : decode cX12_missed 64 = .ok (.iconst 2, 1) := by decide +kernel
theorem dX12_missed_65 : decode cX12_missed 65 = .ok (.iaload, 1) := by decide +kernel
theorem dX12_missed_66 : decode cX12_missed 66 = .ok (.iload_n 2, 1) := by decide +kernel
theorem dX12_missed_67 : decode cX12_missed 67 = .ok (.invokevirtual 183, 3) := by decide +kernel
theorem dX12_missed_70 : decode cX12_missed 70 = .ok (.iload_n 3, 1) := by decide +kernel
theorem dX12_missed_71 : decode cX12_missed 71 = .ok (.if_icmp .le 6, 3) := by decide +kernel
theorem dX12_missed_74 : decode cX12_missed 74 = .ok (.iload 4, 2) := by decide +kernel
theorem dX12_missed_76 : decode cX12_missed 76 = .ok (.ireturn, 1) := by decide +kernel
theorem dX12_missed_77 : decode cX12_missed 77 = .ok (.iinc 4 1, 3) := by decide +kernel
theorem dX12_missed_80 : decode cX12_missed 80 = .ok (.goto (-47), 3) := by decide +kernel
theorem dX12_missed_83 : decode cX12_missed 83 = .ok (.bipush (-2), 2) := by decide +kernel
theorem dX12_missed_85 : decode cX12_missed 85 = .ok (.ireturn, 1) := by decide +kernel
theorem dX12_tone_0 : decode cX12_tone 0 = .ok (.iload_n 1, 1) := by decide +kernel
theorem dX12_tone_1 : decode cX12_tone 1 = .ok (.iconst 0, 1) := by decide +kernel
theorem dX12_tone_2 : decode cX12_tone 2 = .ok (.sipush 10000, 3) := by decide +kernel
theorem dX12_tone_5 : decode cX12_tone 5 = .ok (.invokestatic 95, 3) := by decide +kernel
theorem dX12_tone_8 : decode cX12_tone 8 = .ok (.ifCond .eq 25, 3) := by decide +kernel
theorem dX12_tone_11 : decode cX12_tone 11 = .ok (.iload_n 2, 1) := by decide +kernel
theorem dX12_tone_12 : decode cX12_tone 12 = .ok (.iconst 0, 1) := by decide +kernel
theorem dX12_tone_13 : decode cX12_tone 13 = .ok (.sipush 10000, 3) := by decide +kernel
theorem dX12_tone_16 : decode cX12_tone 16 = .ok (.invokestatic 95, 3) := by decide +kernel
theorem dX12_tone_19 : decode cX12_tone 19 = .ok (.ifCond .eq 14, 3) := by decide +kernel
theorem dX12_tone_22 : decode cX12_tone 22 = .ok (.iload_n 3, 1) := by decide +kernel
theorem dX12_tone_23 : decode cX12_tone 23 = .ok (.iconst 0, 1) := by decide +kernel
theorem dX12_tone_24 : decode cX12_tone 24 = .ok (.sipush 10000, 3) := by decide +kernel
theorem dX12_tone_27 : decode cX12_tone 27 = .ok (.invokestatic 95, 3) := by decide +kernel
theorem dX12_tone_30 : decode cX12_tone 30 = .ok (.ifCond .ne 5, 3) := by decide +kernel
theorem dX12_tone_33 : decode cX12_tone 33 = .ok (.iconst (-1), 1) := by decide +kernel
theorem dX12_tone_34 : decode cX12_tone 34 = .ok (.ireturn, 1) := by decide +kernel
theorem dX12_tone_35 : decode cX12_tone 35 = .ok (.aload_n 0, 1) := by decide +kernel
theorem dX12_tone_36 : decode cX12_tone 36 = .ok (.getfield 68, 3) := by decide +kernel
theorem dX12_tone_39 : decode cX12_tone 39 = .ok (.iconst 0, 1) := by decide +kernel
theorem dX12_tone_40 : decode cX12_tone 40 = .ok (.iload_n 1, 1) := by decide +kernel
theorem dX12_tone_41 : decode cX12_tone 41 = .ok (.iastore, 1) := by decide +kernel
theorem dX12_tone_42 : decode cX12_tone 42 = .ok (.aload_n 0, 1) := by decide +kernel
theorem dX12_tone_43 : decode cX12_tone 43 = .ok (.getfield 68, 3) := by decide +kernel
theorem dX12_tone_46 : decode cX12_tone 46 = .ok (.iconst 1, 1) := by decide +kernel
theorem dX12_tone_47 : decode cX12_tone 47 = .ok (.iload_n 2, 1) := by decide +kernel
theorem dX12_tone_48 : decode cX12_tone 48 = .ok (.iastore, 1) := by decide +kernel
theorem dX12_tone_49 : decode cX12_tone 49 = .ok (.aload_n 0, 1) := by decide +kernel
theorem dX12_tone_50 : decode cX12_tone 50 = .ok (.getfield 68, 3) := by decide +kernel
theorem dX12_tone_53 : decode cX12_tone 53 = .ok (.iconst 2, 1) := by decide +kernel
theorem dX12_tone_54 : decode cX12_tone 54 = .ok (.iload_n 3, 1) := by decide +kernel
theorem dX12_tone_55 : decode cX12_tone 55 = .ok (.iastore, 1) := by decide +kernel
theorem dX12_tone_56 : decode cX12_tone 56 = .ok (.iconst 1, 1) := by decide +kernel
theorem dX12_tone_57 : decode cX12_tone 57 = .ok (.ireturn, 1) := by decide +kernel
theorem dX12_apart_0 : decode cX12_apart 0 = .ok (.iload_n 1, 1) := by decide +kernel
theorem dX12_apart_1 : decode cX12_apart 1 = .ok (.invokestatic 173, 3) := by decide +kernel
theorem dX12_apart_4 : decode cX12_apart 4 = .ok (.ifCond .eq 10, 3) := by decide +kernel
theorem dX12_apart_7 : decode cX12_apart 7 = .ok (.iload_n 2, 1) := by decide +kernel
theorem dX12_apart_8 : decode cX12_apart 8 = .ok (.invokestatic 114, 3) := by decide +kernel
theorem dX12_apart_11 : decode cX12_apart 11 = .ok (.ifCond .ne 5, 3) := by decide +kernel
theorem dX12_apart_14 : decode cX12_apart 14 = .ok (.iconst (-1), 1) := by decide +kernel
theorem dX12_apart_15 : decode cX12_apart 15 = .ok (.ireturn, 1) := by decide +kernel
theorem dX12_apart_16 : decode cX12_apart 16 = .ok (.aload_n 0, 1) := by decide +kernel
theorem dX12_apart_17 : decode cX12_apart 17 = .ok (.iload_n 1, 1) := by decide +kernel
theorem dX12_apart_18 : decode cX12_apart 18 = .ok (.aload_n 0, 1) := by decide +kernel
theorem dX12_apart_19 : decode cX12_apart 19 = .ok (.getfield 120, 3) := by decide +kernel
theorem dX12_apart_22 : decode cX12_apart 22 = .ok (.invokevirtual 179, 3) := by decide +kernel
theorem dX12_apart_25 : decode cX12_apart 25 = .ok (.aload_n 0, 1) := by decide +kernel
theorem dX12_apart_26 : decode cX12_apart 26 = .ok (.aload_n 0, 1) := by decide +kernel
theorem dX12_apart_27 : decode cX12_apart 27 = .ok (.getfield 68, 3) := by decide +kernel
theorem dX12_apart_30 : decode cX12_apart 30 = .ok (.iconst 0, 1) := by decide +kernel
theorem dX12_apart_31 : decode cX12_apart 31 = .ok (.iaload, 1) := by decide +kernel
theorem dX12_apart_32 : decode cX12_apart 32 = .ok (.aload_n 0, 1) := by decide +kernel
theorem dX12_apart_33 : decode cX12_apart 33 = .ok (.getfield 68, 3) := by decide +kernel
theorem dX12_apart_36 : decode cX12_apart 36 = .ok (.iconst 1, 1) := by decide +kernel
theorem dX12_apart_37 : decode cX12_apart 37 = .ok (.iaload, 1) := by decide +kernel
theorem dX12_apart_38 : decode cX12_apart 38 = .ok (.aload_n 0, 1) := by decide +kernel
theorem dX12_apart_39 : decode cX12_apart 39 = .ok (.getfield 68, 3) := by decide +kernel
theorem dX12_apart_42 : decode cX12_apart 42 = .ok (.iconst 2, 1) := by decide +kernel
theorem dX12_apart_43 : decode cX12_apart 43 = .ok (.iaload, 1) := by decide +kernel
theorem dX12_apart_44 : decode cX12_apart 44 = .ok (.iload_n 2, 1) := by decide +kernel
theorem dX12_apart_45 : decode cX12_apart 45 = .ok (.invokevirtual 183, 3) := by decide +kernel
theorem dX12_apart_48 : decode cX12_apart 48 = .ok (.ireturn, 1) := by decide +kernel
theorem dX12_lightOfTrial_0 : decode cX12_lightOfTrial 0 = .ok (.iconst 0, 1) := by decide +kernel
theorem dX12_lightOfTrial_1 : decode cX12_lightOfTrial 1 = .ok (.istore_n 1, 1) := by decide +kernel
theorem dX12_lightOfTrial_2 : decode cX12_lightOfTrial 2 = .ok (.iload_n 1, 1) := by decide +kernel
theorem dX12_lightOfTrial_3 : decode cX12_lightOfTrial 3 = .ok (.bipush 8, 2) := by decide +kernel
theorem dX12_lightOfTrial_5 : decode cX12_lightOfTrial 5 = .ok (.if_icmp .ge 94, 3) := by decide +kernel
theorem dX12_lightOfTrial_8 : decode cX12_lightOfTrial 8 = .ok (.lconst 0, 1) := by decide +kernel
theorem dX12_lightOfTrial_9 : decode cX12_lightOfTrial 9 = .ok (.lstore_n 2, 1) := by decide +kernel
theorem dX12_lightOfTrial_10 : decode cX12_lightOfTrial 10 = .ok (.lconst 0, 1) := by decide +kernel
theorem dX12_lightOfTrial_11 : decode cX12_lightOfTrial 11 = .ok (.lstore 4, 2) := by decide +kernel
theorem dX12_lightOfTrial_13 : decode cX12_lightOfTrial 13 = .ok (.iconst 0, 1) := by decide +kernel
theorem dX12_lightOfTrial_14 : decode cX12_lightOfTrial 14 = .ok (.istore 6, 2) := by decide +kernel
theorem dX12_lightOfTrial_16 : decode cX12_lightOfTrial 16 = .ok (.iload 6, 2) := by decide +kernel
theorem dX12_lightOfTrial_18 : decode cX12_lightOfTrial 18 = .ok (.aload_n 0, 1) := by decide +kernel
theorem dX12_lightOfTrial_19 : decode cX12_lightOfTrial 19 = .ok (.getfield 92, 3) := by decide +kernel
theorem dX12_lightOfTrial_22 : decode cX12_lightOfTrial 22 = .ok (.if_icmp .ge 59, 3) := by decide +kernel
theorem dX12_lightOfTrial_25 : decode cX12_lightOfTrial 25 = .ok (.lload_n 2, 1) := by decide +kernel
theorem dX12_lightOfTrial_26 : decode cX12_lightOfTrial 26 = .ok (.aload_n 0, 1) := by decide +kernel
theorem dX12_lightOfTrial_27 : decode cX12_lightOfTrial 27 = .ok (.getfield 71, 3) := by decide +kernel
theorem dX12_lightOfTrial_30 : decode cX12_lightOfTrial 30 = .ok (.iload 6, 2) := by decide +kernel
theorem dX12_lightOfTrial_32 : decode cX12_lightOfTrial 32 = .ok (.iaload, 1) := by decide +kernel
theorem dX12_lightOfTrial_33 : decode cX12_lightOfTrial 33 = .ok (.aload_n 0, 1) := by decide +kernel
theorem dX12_lightOfTrial_34 : decode cX12_lightOfTrial 34 = .ok (.getfield 13, 3) := by decide +kernel
theorem dX12_lightOfTrial_37 : decode cX12_lightOfTrial 37 = .ok (.bipush 8, 2) := by decide +kernel
theorem dX12_lightOfTrial_39 : decode cX12_lightOfTrial 39 = .ok (.iload 6, 2) := by decide +kernel
theorem dX12_lightOfTrial_41 : decode cX12_lightOfTrial 41 = .ok (.imul, 1) := by decide +kernel
theorem dX12_lightOfTrial_42 : decode cX12_lightOfTrial 42 = .ok (.iload_n 1, 1) := by decide +kernel
theorem dX12_lightOfTrial_43 : decode cX12_lightOfTrial 43 = .ok (.iadd, 1) := by decide +kernel
theorem dX12_lightOfTrial_44 : decode cX12_lightOfTrial 44 = .ok (.iaload, 1) := by decide +kernel
theorem dX12_lightOfTrial_45 : decode cX12_lightOfTrial 45 = .ok (.imul, 1) := by decide +kernel
theorem dX12_lightOfTrial_46 : decode cX12_lightOfTrial 46 = .ok (.i2l, 1) := by decide +kernel
theorem dX12_lightOfTrial_47 : decode cX12_lightOfTrial 47 = .ok (.ladd, 1) := by decide +kernel
theorem dX12_lightOfTrial_48 : decode cX12_lightOfTrial 48 = .ok (.lstore_n 2, 1) := by decide +kernel
theorem dX12_lightOfTrial_49 : decode cX12_lightOfTrial 49 = .ok (.lload 4, 2) := by decide +kernel
theorem dX12_lightOfTrial_51 : decode cX12_lightOfTrial 51 = .ok (.aload_n 0, 1) := by decide +kernel
theorem dX12_lightOfTrial_52 : decode cX12_lightOfTrial 52 = .ok (.getfield 71, 3) := by decide +kernel
theorem dX12_lightOfTrial_55 : decode cX12_lightOfTrial 55 = .ok (.iload 6, 2) := by decide +kernel
theorem dX12_lightOfTrial_57 : decode cX12_lightOfTrial 57 = .ok (.iaload, 1) := by decide +kernel
theorem dX12_lightOfTrial_58 : decode cX12_lightOfTrial 58 = .ok (.aload_n 0, 1) := by decide +kernel
theorem dX12_lightOfTrial_59 : decode cX12_lightOfTrial 59 = .ok (.getfield 17, 3) := by decide +kernel
theorem dX12_lightOfTrial_62 : decode cX12_lightOfTrial 62 = .ok (.bipush 8, 2) := by decide +kernel
theorem dX12_lightOfTrial_64 : decode cX12_lightOfTrial 64 = .ok (.iload 6, 2) := by decide +kernel
theorem dX12_lightOfTrial_66 : decode cX12_lightOfTrial 66 = .ok (.imul, 1) := by decide +kernel
theorem dX12_lightOfTrial_67 : decode cX12_lightOfTrial 67 = .ok (.iload_n 1, 1) := by decide +kernel
theorem dX12_lightOfTrial_68 : decode cX12_lightOfTrial 68 = .ok (.iadd, 1) := by decide +kernel
theorem dX12_lightOfTrial_69 : decode cX12_lightOfTrial 69 = .ok (.iaload, 1) := by decide +kernel
theorem dX12_lightOfTrial_70 : decode cX12_lightOfTrial 70 = .ok (.imul, 1) := by decide +kernel
theorem dX12_lightOfTrial_71 : decode cX12_lightOfTrial 71 = .ok (.i2l, 1) := by decide +kernel
theorem dX12_lightOfTrial_72 : decode cX12_lightOfTrial 72 = .ok (.ladd, 1) := by decide +kernel
theorem dX12_lightOfTrial_73 : decode cX12_lightOfTrial 73 = .ok (.lstore 4, 2) := by decide +kernel
theorem dX12_lightOfTrial_75 : decode cX12_lightOfTrial 75 = .ok (.iinc 6 1, 3) := by decide +kernel
theorem dX12_lightOfTrial_78 : decode cX12_lightOfTrial 78 = .ok (.goto (-62), 3) := by decide +kernel
theorem dX12_lightOfTrial_81 : decode cX12_lightOfTrial 81 = .ok (.aload_n 0, 1) := by decide +kernel
theorem dX12_lightOfTrial_82 : decode cX12_lightOfTrial 82 = .ok (.getfield 41, 3) := by decide +kernel
theorem dX12_lightOfTrial_85 : decode cX12_lightOfTrial 85 = .ok (.iload_n 1, 1) := by decide +kernel
theorem dX12_lightOfTrial_86 : decode cX12_lightOfTrial 86 = .ok (.lload_n 2, 1) := by decide +kernel
theorem dX12_lightOfTrial_87 : decode cX12_lightOfTrial 87 = .ok (.lload 4, 2) := by decide +kernel
theorem dX12_lightOfTrial_89 : decode cX12_lightOfTrial 89 = .ok (.invokestatic 165, 3) := by decide +kernel
theorem dX12_lightOfTrial_92 : decode cX12_lightOfTrial 92 = .ok (.iastore, 1) := by decide +kernel
theorem dX12_lightOfTrial_93 : decode cX12_lightOfTrial 93 = .ok (.iinc 1 1, 3) := by decide +kernel
theorem dX12_lightOfTrial_96 : decode cX12_lightOfTrial 96 = .ok (.goto (-94), 3) := by decide +kernel
theorem dX12_lightOfTrial_99 : decode cX12_lightOfTrial 99 = .ok (.return_, 1) := by decide +kernel
theorem dX12_usedMany_0 : decode cX12_usedMany 0 = .ok (.iconst 0, 1) := by decide +kernel
theorem dX12_usedMany_1 : decode cX12_usedMany 1 = .ok (.istore_n 1, 1) := by decide +kernel
theorem dX12_usedMany_2 : decode cX12_usedMany 2 = .ok (.iconst 0, 1) := by decide +kernel
theorem dX12_usedMany_3 : decode cX12_usedMany 3 = .ok (.istore_n 2, 1) := by decide +kernel
theorem dX12_usedMany_4 : decode cX12_usedMany 4 = .ok (.iload_n 2, 1) := by decide +kernel
theorem dX12_usedMany_5 : decode cX12_usedMany 5 = .ok (.aload_n 0, 1) := by decide +kernel
theorem dX12_usedMany_6 : decode cX12_usedMany 6 = .ok (.getfield 92, 3) := by decide +kernel
theorem dX12_usedMany_9 : decode cX12_usedMany 9 = .ok (.if_icmp .ge 26, 3) := by decide +kernel
theorem dX12_usedMany_12 : decode cX12_usedMany 12 = .ok (.iload_n 1, 1) := by decide +kernel
theorem dX12_usedMany_13 : decode cX12_usedMany 13 = .ok (.aload_n 0, 1) := by decide +kernel
theorem dX12_usedMany_14 : decode cX12_usedMany 14 = .ok (.getfield 71, 3) := by decide +kernel
theorem dX12_usedMany_17 : decode cX12_usedMany 17 = .ok (.iload_n 2, 1) := by decide +kernel
theorem dX12_usedMany_18 : decode cX12_usedMany 18 = .ok (.iaload, 1) := by decide +kernel
theorem dX12_usedMany_19 : decode cX12_usedMany 19 = .ok (.ifCond .le 7, 3) := by decide +kernel
theorem dX12_usedMany_22 : decode cX12_usedMany 22 = .ok (.iconst 1, 1) := by decide +kernel
theorem dX12_usedMany_23 : decode cX12_usedMany 23 = .ok (.goto 4, 3) := by decide +kernel
theorem dX12_usedMany_26 : decode cX12_usedMany 26 = .ok (.iconst 0, 1) := by decide +kernel
theorem dX12_usedMany_27 : decode cX12_usedMany 27 = .ok (.iadd, 1) := by decide +kernel
theorem dX12_usedMany_28 : decode cX12_usedMany 28 = .ok (.istore_n 1, 1) := by decide +kernel
theorem dX12_usedMany_29 : decode cX12_usedMany 29 = .ok (.iinc 2 1, 3) := by decide +kernel
theorem dX12_usedMany_32 : decode cX12_usedMany 32 = .ok (.goto (-28), 3) := by decide +kernel
theorem dX12_usedMany_35 : decode cX12_usedMany 35 = .ok (.iload_n 1, 1) := by decide +kernel
theorem dX12_usedMany_36 : decode cX12_usedMany 36 = .ok (.ireturn, 1) := by decide +kernel
theorem dX12_next_0 : decode cX12_next 0 = .ok (.aload_n 0, 1) := by decide +kernel
theorem dX12_next_1 : decode cX12_next 1 = .ok (.getfield 92, 3) := by decide +kernel
theorem dX12_next_4 : decode cX12_next 4 = .ok (.iconst 1, 1) := by decide +kernel
theorem dX12_next_5 : decode cX12_next 5 = .ok (.isub, 1) := by decide +kernel
theorem dX12_next_6 : decode cX12_next 6 = .ok (.istore_n 2, 1) := by decide +kernel
theorem dX12_next_7 : decode cX12_next 7 = .ok (.iload_n 1, 1) := by decide +kernel
theorem dX12_next_8 : decode cX12_next 8 = .ok (.iload_n 2, 1) := by decide +kernel
theorem dX12_next_9 : decode cX12_next 9 = .ok (.ishr, 1) := by decide +kernel
theorem dX12_next_10 : decode cX12_next 10 = .ok (.iconst 1, 1) := by decide +kernel
theorem dX12_next_11 : decode cX12_next 11 = .ok (.iand, 1) := by decide +kernel
theorem dX12_next_12 : decode cX12_next 12 = .ok (.ifCond .ne 9, 3) := by decide +kernel
theorem dX12_next_15 : decode cX12_next 15 = .ok (.iinc 2 (-1), 3) := by decide +kernel
theorem dX12_next_18 : decode cX12_next 18 = .ok (.goto (-11), 3) := by decide +kernel
theorem dX12_next_21 : decode cX12_next 21 = .ok (.aload_n 0, 1) := by decide +kernel
theorem dX12_next_22 : decode cX12_next 22 = .ok (.getfield 71, 3) := by decide +kernel
theorem dX12_next_25 : decode cX12_next 25 = .ok (.iload_n 2, 1) := by decide +kernel
theorem dX12_next_26 : decode cX12_next 26 = .ok (.iaload, 1) := by decide +kernel
theorem dX12_next_27 : decode cX12_next 27 = .ok (.istore_n 3, 1) := by decide +kernel
theorem dX12_next_28 : decode cX12_next 28 = .ok (.aload_n 0, 1) := by decide +kernel
theorem dX12_next_29 : decode cX12_next 29 = .ok (.getfield 71, 3) := by decide +kernel
theorem dX12_next_32 : decode cX12_next 32 = .ok (.iload_n 2, 1) := by decide +kernel
theorem dX12_next_33 : decode cX12_next 33 = .ok (.iconst 0, 1) := by decide +kernel
theorem dX12_next_34 : decode cX12_next 34 = .ok (.iastore, 1) := by decide +kernel
theorem dX12_next_35 : decode cX12_next 35 = .ok (.iload_n 2, 1) := by decide +kernel
theorem dX12_next_36 : decode cX12_next 36 = .ok (.iconst 1, 1) := by decide +kernel
theorem dX12_next_37 : decode cX12_next 37 = .ok (.isub, 1) := by decide +kernel
theorem dX12_next_38 : decode cX12_next 38 = .ok (.istore 4, 2) := by decide +kernel
theorem dX12_next_40 : decode cX12_next 40 = .ok (.iload 4, 2) := by decide +kernel
theorem dX12_next_42 : decode cX12_next 42 = .ok (.ifCond .lt 19, 3) := by decide +kernel
theorem dX12_next_45 : decode cX12_next 45 = .ok (.aload_n 0, 1) := by decide +kernel
theorem dX12_next_46 : decode cX12_next 46 = .ok (.getfield 71, 3) := by decide +kernel
theorem dX12_next_49 : decode cX12_next 49 = .ok (.iload 4, 2) := by decide +kernel
theorem dX12_next_51 : decode cX12_next 51 = .ok (.iaload, 1) := by decide +kernel
theorem dX12_next_52 : decode cX12_next 52 = .ok (.ifCond .ne 9, 3) := by decide +kernel
theorem dX12_next_55 : decode cX12_next 55 = .ok (.iinc 4 (-1), 3) := by decide +kernel
theorem dX12_next_58 : decode cX12_next 58 = .ok (.goto (-18), 3) := by decide +kernel
theorem dX12_next_61 : decode cX12_next 61 = .ok (.iload 4, 2) := by decide +kernel
theorem dX12_next_63 : decode cX12_next 63 = .ok (.ifCond .ge 5, 3) := by decide +kernel
theorem dX12_next_66 : decode cX12_next 66 = .ok (.iconst 0, 1) := by decide +kernel
theorem dX12_next_67 : decode cX12_next 67 = .ok (.ireturn, 1) := by decide +kernel
theorem dX12_next_68 : decode cX12_next 68 = .ok (.aload_n 0, 1) := by decide +kernel
theorem dX12_next_69 : decode cX12_next 69 = .ok (.getfield 71, 3) := by decide +kernel
theorem dX12_next_72 : decode cX12_next 72 = .ok (.iload 4, 2) := by decide +kernel
theorem dX12_next_74 : decode cX12_next 74 = .ok (.dup2, 1) := by decide +kernel
theorem dX12_next_75 : decode cX12_next 75 = .ok (.iaload, 1) := by decide +kernel
theorem dX12_next_76 : decode cX12_next 76 = .ok (.iconst 1, 1) := by decide +kernel
theorem dX12_next_77 : decode cX12_next 77 = .ok (.isub, 1) := by decide +kernel
theorem dX12_next_78 : decode cX12_next 78 = .ok (.iastore, 1) := by decide +kernel
theorem dX12_next_79 : decode cX12_next 79 = .ok (.iload 4, 2) := by decide +kernel
theorem dX12_next_81 : decode cX12_next 81 = .ok (.iconst 1, 1) := by decide +kernel
theorem dX12_next_82 : decode cX12_next 82 = .ok (.iadd, 1) := by decide +kernel
theorem dX12_next_83 : decode cX12_next 83 = .ok (.istore 5, 2) := by decide +kernel
theorem dX12_next_85 : decode cX12_next 85 = .ok (.iload_n 1, 1) := by decide +kernel
theorem dX12_next_86 : decode cX12_next 86 = .ok (.iload 5, 2) := by decide +kernel
theorem dX12_next_88 : decode cX12_next 88 = .ok (.ishr, 1) := by decide +kernel
theorem dX12_next_89 : decode cX12_next 89 = .ok (.iconst 1, 1) := by decide +kernel
theorem dX12_next_90 : decode cX12_next 90 = .ok (.iand, 1) := by decide +kernel
theorem dX12_next_91 : decode cX12_next 91 = .ok (.ifCond .ne 9, 3) := by decide +kernel
theorem dX12_next_94 : decode cX12_next 94 = .ok (.iinc 5 1, 3) := by decide +kernel
theorem dX12_next_97 : decode cX12_next 97 = .ok (.goto (-12), 3) := by decide +kernel
theorem dX12_next_100 : decode cX12_next 100 = .ok (.aload_n 0, 1) := by decide +kernel
theorem dX12_next_101 : decode cX12_next 101 = .ok (.getfield 71, 3) := by decide +kernel
theorem dX12_next_104 : decode cX12_next 104 = .ok (.iload 5, 2) := by decide +kernel
theorem dX12_next_106 : decode cX12_next 106 = .ok (.dup2, 1) := by decide +kernel
theorem dX12_next_107 : decode cX12_next 107 = .ok (.iaload, 1) := by decide +kernel
theorem dX12_next_108 : decode cX12_next 108 = .ok (.iload_n 3, 1) := by decide +kernel
theorem dX12_next_109 : decode cX12_next 109 = .ok (.iconst 1, 1) := by decide +kernel
theorem dX12_next_110 : decode cX12_next 110 = .ok (.iadd, 1) := by decide +kernel
theorem dX12_next_111 : decode cX12_next 111 = .ok (.iadd, 1) := by decide +kernel
theorem dX12_next_112 : decode cX12_next 112 = .ok (.iastore, 1) := by decide +kernel
theorem dX12_next_113 : decode cX12_next 113 = .ok (.iconst 1, 1) := by decide +kernel
theorem dX12_next_114 : decode cX12_next 114 = .ok (.ireturn, 1) := by decide +kernel
theorem dX12_begin_0 : decode cX12_begin 0 = .ok (.iconst 1, 1) := by decide +kernel
theorem dX12_begin_1 : decode cX12_begin 1 = .ok (.istore_n 3, 1) := by decide +kernel
theorem dX12_begin_2 : decode cX12_begin 2 = .ok (.iconst 0, 1) := by decide +kernel
theorem dX12_begin_3 : decode cX12_begin 3 = .ok (.istore 4, 2) := by decide +kernel
theorem dX12_begin_5 : decode cX12_begin 5 = .ok (.iload 4, 2) := by decide +kernel
theorem dX12_begin_7 : decode cX12_begin 7 = .ok (.bipush 12, 2) := by decide +kernel
theorem dX12_begin_9 : decode cX12_begin 9 = .ok (.if_icmp .ge 62, 3) := by decide +kernel
theorem dX12_begin_12 : decode cX12_begin 12 = .ok (.iload_n 3, 1) := by decide +kernel
theorem dX12_begin_13 : decode cX12_begin 13 = .ok (.ifCond .eq 17, 3) := by decide +kernel
theorem dX12_begin_16 : decode cX12_begin 16 = .ok (.iload_n 1, 1) := by decide +kernel
theorem dX12_begin_17 : decode cX12_begin 17 = .ok (.iload 4, 2) := by decide +kernel
theorem dX12_begin_19 : decode cX12_begin 19 = .ok (.ishr, 1) := by decide +kernel
theorem dX12_begin_20 : decode cX12_begin 20 = .ok (.iconst 1, 1) := by decide +kernel
theorem dX12_begin_21 : decode cX12_begin 21 = .ok (.iand, 1) := by decide +kernel
theorem dX12_begin_22 : decode cX12_begin 22 = .ok (.iconst 1, 1) := by decide +kernel
theorem dX12_begin_23 : decode cX12_begin 23 = .ok (.if_icmp .ne 7, 3) := by decide +kernel
theorem dX12_begin_26 : decode cX12_begin 26 = .ok (.iconst 1, 1) := by decide +kernel
theorem dX12_begin_27 : decode cX12_begin 27 = .ok (.goto 4, 3) := by decide +kernel
theorem dX12_begin_30 : decode cX12_begin 30 = .ok (.iconst 0, 1) := by decide +kernel
theorem dX12_begin_31 : decode cX12_begin 31 = .ok (.istore 5, 2) := by decide +kernel
theorem dX12_begin_33 : decode cX12_begin 33 = .ok (.aload_n 0, 1) := by decide +kernel
theorem dX12_begin_34 : decode cX12_begin 34 = .ok (.getfield 71, 3) := by decide +kernel
theorem dX12_begin_37 : decode cX12_begin 37 = .ok (.iload 4, 2) := by decide +kernel
theorem dX12_begin_39 : decode cX12_begin 39 = .ok (.iload 5, 2) := by decide +kernel
theorem dX12_begin_41 : decode cX12_begin 41 = .ok (.ifCond .eq 7, 3) := by decide +kernel
theorem dX12_begin_44 : decode cX12_begin 44 = .ok (.iload_n 2, 1) := by decide +kernel
theorem dX12_begin_45 : decode cX12_begin 45 = .ok (.goto 4, 3) := by decide +kernel
theorem dX12_begin_48 : decode cX12_begin 48 = .ok (.iconst 0, 1) := by decide +kernel
theorem dX12_begin_49 : decode cX12_begin 49 = .ok (.iastore, 1) := by decide +kernel
theorem dX12_begin_50 : decode cX12_begin 50 = .ok (.iload_n 3, 1) := by decide +kernel
theorem dX12_begin_51 : decode cX12_begin 51 = .ok (.ifCond .eq 12, 3) := by decide +kernel
theorem dX12_begin_54 : decode cX12_begin 54 = .ok (.iload 5, 2) := by decide +kernel
theorem dX12_begin_56 : decode cX12_begin 56 = .ok (.ifCond .ne 7, 3) := by decide +kernel
theorem dX12_begin_59 : decode cX12_begin 59 = .ok (.iconst 1, 1) := by decide +kernel
theorem dX12_begin_60 : decode cX12_begin 60 = .ok (.goto 4, 3) := by decide +kernel
theorem dX12_begin_63 : decode cX12_begin 63 = .ok (.iconst 0, 1) := by decide +kernel
theorem dX12_begin_64 : decode cX12_begin 64 = .ok (.istore_n 3, 1) := by decide +kernel
theorem dX12_begin_65 : decode cX12_begin 65 = .ok (.iinc 4 1, 3) := by decide +kernel
theorem dX12_begin_68 : decode cX12_begin 68 = .ok (.goto (-63), 3) := by decide +kernel
theorem dX12_begin_71 : decode cX12_begin 71 = .ok (.return_, 1) := by decide +kernel
theorem dX12_isSet_0 : decode cX12_isSet 0 = .ok (.iload_n 1, 1) := by decide +kernel
theorem dX12_isSet_1 : decode cX12_isSet 1 = .ok (.ifCond .le 17, 3) := by decide +kernel
theorem dX12_isSet_4 : decode cX12_isSet 4 = .ok (.iload_n 1, 1) := by decide +kernel
theorem dX12_isSet_5 : decode cX12_isSet 5 = .ok (.iconst 1, 1) := by decide +kernel
theorem dX12_isSet_6 : decode cX12_isSet 6 = .ok (.aload_n 0, 1) := by decide +kernel
theorem dX12_isSet_7 : decode cX12_isSet 7 = .ok (.getfield 92, 3) := by decide +kernel
theorem dX12_isSet_10 : decode cX12_isSet 10 = .ok (.ishl, 1) := by decide +kernel
theorem dX12_isSet_11 : decode cX12_isSet 11 = .ok (.if_icmp .ge 7, 3) := by decide +kernel
theorem dX12_isSet_14 : decode cX12_isSet 14 = .ok (.iconst 1, 1) := by decide +kernel
theorem dX12_isSet_15 : decode cX12_isSet 15 = .ok (.goto 4, 3) := by decide +kernel
theorem dX12_isSet_18 : decode cX12_isSet 18 = .ok (.iconst 0, 1) := by decide +kernel
theorem dX12_isSet_19 : decode cX12_isSet 19 = .ok (.ireturn, 1) := by decide +kernel
theorem dX12_costOfTrial_0 : decode cX12_costOfTrial 0 = .ok (.iconst 0, 1) := by decide +kernel
theorem dX12_costOfTrial_1 : decode cX12_costOfTrial 1 = .ok (.istore_n 1, 1) := by decide +kernel
theorem dX12_costOfTrial_2 : decode cX12_costOfTrial 2 = .ok (.iconst 0, 1) := by decide +kernel
theorem dX12_costOfTrial_3 : decode cX12_costOfTrial 3 = .ok (.istore_n 2, 1) := by decide +kernel
theorem dX12_costOfTrial_4 : decode cX12_costOfTrial 4 = .ok (.iload_n 2, 1) := by decide +kernel
theorem dX12_costOfTrial_5 : decode cX12_costOfTrial 5 = .ok (.aload_n 0, 1) := by decide +kernel
theorem dX12_costOfTrial_6 : decode cX12_costOfTrial 6 = .ok (.getfield 92, 3) := by decide +kernel
theorem dX12_costOfTrial_9 : decode cX12_costOfTrial 9 = .ok (.if_icmp .ge 25, 3) := by decide +kernel
theorem dX12_costOfTrial_12 : decode cX12_costOfTrial 12 = .ok (.iload_n 1, 1) := by decide +kernel
theorem dX12_costOfTrial_13 : decode cX12_costOfTrial 13 = .ok (.aload_n 0, 1) := by decide +kernel
theorem dX12_costOfTrial_14 : decode cX12_costOfTrial 14 = .ok (.getfield 71, 3) := by decide +kernel
theorem dX12_costOfTrial_17 : decode cX12_costOfTrial 17 = .ok (.iload_n 2, 1) := by decide +kernel
theorem dX12_costOfTrial_18 : decode cX12_costOfTrial 18 = .ok (.iaload, 1) := by decide +kernel
theorem dX12_costOfTrial_19 : decode cX12_costOfTrial 19 = .ok (.aload_n 0, 1) := by decide +kernel
theorem dX12_costOfTrial_20 : decode cX12_costOfTrial 20 = .ok (.getfield 20, 3) := by decide +kernel
theorem dX12_costOfTrial_23 : decode cX12_costOfTrial 23 = .ok (.iload_n 2, 1) := by decide +kernel
theorem dX12_costOfTrial_24 : decode cX12_costOfTrial 24 = .ok (.iaload, 1) := by decide +kernel
theorem dX12_costOfTrial_25 : decode cX12_costOfTrial 25 = .ok (.imul, 1) := by decide +kernel
theorem dX12_costOfTrial_26 : decode cX12_costOfTrial 26 = .ok (.iadd, 1) := by decide +kernel
theorem dX12_costOfTrial_27 : decode cX12_costOfTrial 27 = .ok (.istore_n 1, 1) := by decide +kernel
theorem dX12_costOfTrial_28 : decode cX12_costOfTrial 28 = .ok (.iinc 2 1, 3) := by decide +kernel
theorem dX12_costOfTrial_31 : decode cX12_costOfTrial 31 = .ok (.goto (-27), 3) := by decide +kernel
theorem dX12_costOfTrial_34 : decode cX12_costOfTrial 34 = .ok (.iload_n 1, 1) := by decide +kernel
theorem dX12_costOfTrial_35 : decode cX12_costOfTrial 35 = .ok (.ireturn, 1) := by decide +kernel
theorem dX12_match_0 : decode cX12_match 0 = .ok (.iload_n 1, 1) := by decide +kernel
theorem dX12_match_1 : decode cX12_match 1 = .ok (.invokestatic 114, 3) := by decide +kernel
theorem dX12_match_4 : decode cX12_match 4 = .ok (.ifCond .eq 21, 3) := by decide +kernel
theorem dX12_match_7 : decode cX12_match 7 = .ok (.aload_n 0, 1) := by decide +kernel
theorem dX12_match_8 : decode cX12_match 8 = .ok (.iload_n 2, 1) := by decide +kernel
theorem dX12_match_9 : decode cX12_match 9 = .ok (.invokevirtual 187, 3) := by decide +kernel
theorem dX12_match_12 : decode cX12_match 12 = .ok (.ifCond .eq 13, 3) := by decide +kernel
theorem dX12_match_15 : decode cX12_match 15 = .ok (.iload_n 3, 1) := by decide +kernel
theorem dX12_match_16 : decode cX12_match 16 = .ok (.iconst 1, 1) := by decide +kernel
theorem dX12_match_17 : decode cX12_match 17 = .ok (.bipush 8, 2) := by decide +kernel
theorem dX12_match_19 : decode cX12_match 19 = .ok (.invokestatic 95, 3) := by decide +kernel
theorem dX12_match_22 : decode cX12_match 22 = .ok (.ifCond .ne 5, 3) := by decide +kernel
theorem dX12_match_25 : decode cX12_match 25 = .ok (.iconst (-1), 1) := by decide +kernel
theorem dX12_match_26 : decode cX12_match 26 = .ok (.ireturn, 1) := by decide +kernel
theorem dX12_match_27 : decode cX12_match 27 = .ok (.iconst (-1), 1) := by decide +kernel
theorem dX12_match_28 : decode cX12_match 28 = .ok (.istore 4, 2) := by decide +kernel
theorem dX12_match_30 : decode cX12_match 30 = .ok (.aload_n 0, 1) := by decide +kernel
theorem dX12_match_31 : decode cX12_match 31 = .ok (.iload_n 2, 1) := by decide +kernel
theorem dX12_match_32 : decode cX12_match 32 = .ok (.iload_n 3, 1) := by decide +kernel
theorem dX12_match_33 : decode cX12_match 33 = .ok (.invokevirtual 190, 3) := by decide +kernel
theorem dX12_match_36 : decode cX12_match 36 = .ok (.iconst 1, 1) := by decide +kernel
theorem dX12_match_37 : decode cX12_match 37 = .ok (.istore 5, 2) := by decide +kernel
theorem dX12_match_39 : decode cX12_match 39 = .ok (.iload 5, 2) := by decide +kernel
theorem dX12_match_41 : decode cX12_match 41 = .ok (.ifCond .eq 122, 3) := by decide +kernel
theorem dX12_match_44 : decode cX12_match 44 = .ok (.aload_n 0, 1) := by decide +kernel
theorem dX12_match_45 : decode cX12_match 45 = .ok (.invokevirtual 193, 3) := by decide +kernel
theorem dX12_match_48 : decode cX12_match 48 = .ok (.iconst 4, 1) := by decide +kernel
theorem dX12_match_49 : decode cX12_match 49 = .ok (.if_icmp .gt 104, 3) := by decide +kernel
theorem dX12_match_52 : decode cX12_match 52 = .ok (.aload_n 0, 1) := by decide +kernel
theorem dX12_match_53 : decode cX12_match 53 = .ok (.invokevirtual 197, 3) := by decide +kernel
theorem dX12_match_56 : decode cX12_match 56 = .ok (.aload_n 0, 1) := by decide +kernel
theorem dX12_match_57 : decode cX12_match 57 = .ok (.aload_n 0, 1) := by decide +kernel
theorem dX12_match_58 : decode cX12_match 58 = .ok (.getfield 68, 3) := by decide +kernel
theorem dX12_match_61 : decode cX12_match 61 = .ok (.iconst 0, 1) := by decide +kernel
theorem dX12_match_62 : decode cX12_match 62 = .ok (.iaload, 1) := by decide +kernel
theorem dX12_match_63 : decode cX12_match 63 = .ok (.aload_n 0, 1) := by decide +kernel
theorem dX12_match_64 : decode cX12_match 64 = .ok (.getfield 68, 3) := by decide +kernel
theorem dX12_match_67 : decode cX12_match 67 = .ok (.iconst 1, 1) := by decide +kernel
theorem dX12_match_68 : decode cX12_match 68 = .ok (.iaload, 1) := by decide +kernel
theorem dX12_match_69 : decode cX12_match 69 = .ok (.aload_n 0, 1) := by decide +kernel
theorem dX12_match_70 : decode cX12_match 70 = .ok (.getfield 68, 3) := by decide +kernel
theorem dX12_match_73 : decode cX12_match 73 = .ok (.iconst 2, 1) := by decide +kernel
theorem dX12_match_74 : decode cX12_match 74 = .ok (.iaload, 1) := by decide +kernel
theorem dX12_match_75 : decode cX12_match 75 = .ok (.iload_n 1, 1) := by decide +kernel
theorem dX12_match_76 : decode cX12_match 76 = .ok (.invokevirtual 183, 3) := by decide +kernel
theorem dX12_match_79 : decode cX12_match 79 = .ok (.istore 6, 2) := by decide +kernel
theorem dX12_match_81 : decode cX12_match 81 = .ok (.iload 4, 2) := by decide +kernel
theorem dX12_match_83 : decode cX12_match 83 = .ok (.ifCond .lt 28, 3) := by decide +kernel
theorem dX12_match_86 : decode cX12_match 86 = .ok (.iload 6, 2) := by decide +kernel
theorem dX12_match_88 : decode cX12_match 88 = .ok (.iload 4, 2) := by decide +kernel
theorem dX12_match_90 : decode cX12_match 90 = .ok (.if_icmp .lt 21, 3) := by decide +kernel
theorem dX12_match_93 : decode cX12_match 93 = .ok (.iload 6, 2) := by decide +kernel
theorem dX12_match_95 : decode cX12_match 95 = .ok (.iload 4, 2) := by decide +kernel
theorem dX12_match_97 : decode cX12_match 97 = .ok (.if_icmp .ne 56, 3) := by decide +kernel
theorem dX12_match_100 : decode cX12_match 100 = .ok (.aload_n 0, 1) := by decide +kernel
theorem dX12_match_101 : decode cX12_match 101 = .ok (.invokevirtual 200, 3) := by decide +kernel
theorem dX12_match_104 : decode cX12_match 104 = .ok (.aload_n 0, 1) := by decide +kernel
theorem dX12_match_105 : decode cX12_match 105 = .ok (.getfield 203, 3) := by decide +kernel
theorem dX12_match_108 : decode cX12_match 108 = .ok (.if_icmp .ge 45, 3) := by decide +kernel
theorem dX12_match_111 : decode cX12_match 111 = .ok (.iload 6, 2) := by decide +kernel
theorem dX12_match_113 : decode cX12_match 113 = .ok (.istore 4, 2) := by decide +kernel
theorem dX12_match_115 : decode cX12_match 115 = .ok (.aload_n 0, 1) := by decide +kernel
theorem dX12_match_116 : decode cX12_match 116 = .ok (.aload_n 0, 1) := by decide +kernel
theorem dX12_match_117 : decode cX12_match 117 = .ok (.invokevirtual 200, 3) := by decide +kernel
theorem dX12_match_120 : decode cX12_match 120 = .ok (.putfield 203, 3) := by decide +kernel
theorem dX12_match_123 : decode cX12_match 123 = .ok (.iconst 0, 1) := by decide +kernel
theorem dX12_match_124 : decode cX12_match 124 = .ok (.istore 7, 2) := by decide +kernel
theorem dX12_match_126 : decode cX12_match 126 = .ok (.iload 7, 2) := by decide +kernel
theorem dX12_match_128 : decode cX12_match 128 = .ok (.bipush 12, 2) := by decide +kernel
theorem dX12_match_130 : decode cX12_match 130 = .ok (.if_icmp .ge 23, 3) := by decide +kernel
theorem dX12_match_133 : decode cX12_match 133 = .ok (.aload_n 0, 1) := by decide +kernel
theorem dX12_match_134 : decode cX12_match 134 = .ok (.getfield 74, 3) := by decide +kernel
theorem dX12_match_137 : decode cX12_match 137 = .ok (.iload 7, 2) := by decide +kernel
theorem dX12_match_139 : decode cX12_match 139 = .ok (.aload_n 0, 1) := by decide +kernel
theorem dX12_match_140 : decode cX12_match 140 = .ok (.getfield 71, 3) := by decide +kernel
theorem dX12_match_143 : decode cX12_match 143 = .ok (.iload 7, 2) := by decide +kernel
