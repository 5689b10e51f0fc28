theorem dX11_hiding_86 : decode cX11_hiding 86 = .ok (.iload 7, 2) := by decide +kernel
theorem dX11_hiding_88 : decode cX11_hiding 88 = .ok (.invokestatic 197, 3) := by decide +kernel
theorem dX11_hiding_91 : decode cX11_hiding 91 = .ok (.iload_n 2, 1) := by decide +kernel
theorem dX11_hiding_92 : decode cX11_hiding 92 = .ok (.invokestatic 204, 3) := by decide +kernel
theorem dX11_hiding_95 : decode cX11_hiding 95 = .ok (.invokestatic 208, 3) := by decide +kernel
theorem dX11_hiding_98 : decode cX11_hiding 98 = .ok (.istore 4, 2) := by decide +kernel
theorem dX11_hiding_100 : decode cX11_hiding 100 = .ok (.iinc 5 1, 3) := by decide +kernel
theorem dX11_hiding_103 : decode cX11_hiding 103 = .ok (.goto (-68), 3) := by decide +kernel
theorem dX11_hiding_106 : decode cX11_hiding 106 = .ok (.iload 4, 2) := by decide +kernel
theorem dX11_hiding_108 : decode cX11_hiding 108 = .ok (.sipush 200, 3) := by decide +kernel
theorem dX11_hiding_111 : decode cX11_hiding 111 = .ok (.if_icmp .le 8, 3) := by decide +kernel
theorem dX11_hiding_114 : decode cX11_hiding 114 = .ok (.bipush (-2), 2) := by decide +kernel
theorem dX11_hiding_116 : decode cX11_hiding 116 = .ok (.goto 5, 3) := by decide +kernel
theorem dX11_hiding_119 : decode cX11_hiding 119 = .ok (.iload 4, 2) := by decide +kernel
theorem dX11_hiding_121 : decode cX11_hiding 121 = .ok (.ireturn, 1) := by decide +kernel
theorem dX11_ground_0 : decode cX11_ground 0 = .ok (.aload_n 0, 1) := by decide +kernel
theorem dX11_ground_1 : decode cX11_ground 1 = .ok (.iload_n 1, 1) := by decide +kernel
theorem dX11_ground_2 : decode cX11_ground 2 = .ok (.invokevirtual 213, 3) := by decide +kernel
theorem dX11_ground_5 : decode cX11_ground 5 = .ok (.astore_n 3, 1) := by decide +kernel
theorem dX11_ground_6 : decode cX11_ground 6 = .ok (.aload_n 3, 1) := by decide +kernel
theorem dX11_ground_7 : decode cX11_ground 7 = .ok (.ifnull 10, 3) := by decide +kernel
theorem dX11_ground_10 : decode cX11_ground 10 = .ok (.iload_n 2, 1) := by decide +kernel
theorem dX11_ground_11 : decode cX11_ground 11 = .ok (.invokestatic 182, 3) := by decide +kernel
theorem dX11_ground_14 : decode cX11_ground 14 = .ok (.ifCond .ne 5, 3) := by decide +kernel
theorem dX11_ground_17 : decode cX11_ground 17 = .ok (.iconst (-1), 1) := by decide +kernel
theorem dX11_ground_18 : decode cX11_ground 18 = .ok (.ireturn, 1) := by decide +kernel
theorem dX11_ground_19 : decode cX11_ground 19 = .ok (.aload_n 3, 1) := by decide +kernel
theorem dX11_ground_20 : decode cX11_ground 20 = .ok (.getfield 217, 3) := by decide +kernel
theorem dX11_ground_23 : decode cX11_ground 23 = .ok (.ifCond .le 6, 3) := by decide +kernel
theorem dX11_ground_26 : decode cX11_ground 26 = .ok (.bipush (-2), 2) := by decide +kernel
theorem dX11_ground_28 : decode cX11_ground 28 = .ok (.ireturn, 1) := by decide +kernel
theorem dX11_ground_29 : decode cX11_ground 29 = .ok (.aload_n 3, 1) := by decide +kernel
theorem dX11_ground_30 : decode cX11_ground 30 = .ok (.getfield 220, 3) := by decide +kernel
theorem dX11_ground_33 : decode cX11_ground 33 = .ok (.istore 4, 2) := by decide +kernel
theorem dX11_ground_35 : decode cX11_ground 35 = .ok (.aload_n 3, 1) := by decide +kernel
theorem dX11_ground_36 : decode cX11_ground 36 = .ok (.iload_n 2, 1) := by decide +kernel
theorem dX11_ground_37 : decode cX11_ground 37 = .ok (.putfield 220, 3) := by decide +kernel
theorem dX11_ground_40 : decode cX11_ground 40 = .ok (.iload 4, 2) := by decide +kernel
theorem dX11_ground_42 : decode cX11_ground 42 = .ok (.ireturn, 1) := by decide +kernel
theorem dX11_lay_0 : decode cX11_lay 0 = .ok (.aload_n 0, 1) := by decide +kernel
theorem dX11_lay_1 : decode cX11_lay 1 = .ok (.iload_n 1, 1) := by decide +kernel
theorem dX11_lay_2 : decode cX11_lay 2 = .ok (.invokevirtual 147, 3) := by decide +kernel
theorem dX11_lay_5 : decode cX11_lay 5 = .ok (.astore 4, 2) := by decide +kernel
theorem dX11_lay_7 : decode cX11_lay 7 = .ok (.aload_n 0, 1) := by decide +kernel
theorem dX11_lay_8 : decode cX11_lay 8 = .ok (.iload_n 2, 1) := by decide +kernel
theorem dX11_lay_9 : decode cX11_lay 9 = .ok (.invokevirtual 213, 3) := by decide +kernel
theorem dX11_lay_12 : decode cX11_lay 12 = .ok (.astore 5, 2) := by decide +kernel
theorem dX11_lay_14 : decode cX11_lay 14 = .ok (.aload 4, 2) := by decide +kernel
theorem dX11_lay_16 : decode cX11_lay 16 = .ok (.ifnull 19, 3) := by decide +kernel
theorem dX11_lay_19 : decode cX11_lay 19 = .ok (.aload 5, 2) := by decide +kernel
theorem dX11_lay_21 : decode cX11_lay 21 = .ok (.ifnull 14, 3) := by decide +kernel
theorem dX11_lay_24 : decode cX11_lay 24 = .ok (.iload_n 3, 1) := by decide +kernel
theorem dX11_lay_25 : decode cX11_lay 25 = .ok (.iconst 1, 1) := by decide +kernel
theorem dX11_lay_26 : decode cX11_lay 26 = .ok (.sipush 200, 3) := by decide +kernel
theorem dX11_lay_29 : decode cX11_lay 29 = .ok (.invokestatic 77, 3) := by decide +kernel
theorem dX11_lay_32 : decode cX11_lay 32 = .ok (.ifCond .ne 5, 3) := by decide +kernel
theorem dX11_lay_35 : decode cX11_lay 35 = .ok (.iconst (-1), 1) := by decide +kernel
theorem dX11_lay_36 : decode cX11_lay 36 = .ok (.ireturn, 1) := by decide +kernel
theorem dX11_lay_37 : decode cX11_lay 37 = .ok (.aload 4, 2) := by decide +kernel
theorem dX11_lay_39 : decode cX11_lay 39 = .ok (.getfield 151, 3) := by decide +kernel
theorem dX11_lay_42 : decode cX11_lay 42 = .ok (.ifCond .ne 6, 3) := by decide +kernel
theorem dX11_lay_45 : decode cX11_lay 45 = .ok (.bipush (-2), 2) := by decide +kernel
theorem dX11_lay_47 : decode cX11_lay 47 = .ok (.ireturn, 1) := by decide +kernel
theorem dX11_lay_48 : decode cX11_lay 48 = .ok (.aload 5, 2) := by decide +kernel
theorem dX11_lay_50 : decode cX11_lay 50 = .ok (.invokevirtual 223, 3) := by decide +kernel
theorem dX11_lay_53 : decode cX11_lay 53 = .ok (.ifCond .eq 6, 3) := by decide +kernel
theorem dX11_lay_56 : decode cX11_lay 56 = .ok (.bipush (-3), 2) := by decide +kernel
theorem dX11_lay_58 : decode cX11_lay 58 = .ok (.ireturn, 1) := by decide +kernel
theorem dX11_lay_59 : decode cX11_lay 59 = .ok (.aload 5, 2) := by decide +kernel
theorem dX11_lay_61 : decode cX11_lay 61 = .ok (.new 224, 3) := by decide +kernel
theorem dX11_lay_64 : decode cX11_lay 64 = .ok (.dup, 1) := by decide +kernel
theorem dX11_lay_65 : decode cX11_lay 65 = .ok (.aload 4, 2) := by decide +kernel
theorem dX11_lay_67 : decode cX11_lay 67 = .ok (.iload_n 3, 1) := by decide +kernel
theorem dX11_lay_68 : decode cX11_lay 68 = .ok (.aload_n 0, 1) := by decide +kernel
theorem dX11_lay_69 : decode cX11_lay 69 = .ok (.getfield 72, 3) := by decide +kernel
theorem dX11_lay_72 : decode cX11_lay 72 = .ok (.invokespecial 226, 3) := by decide +kernel
theorem dX11_lay_75 : decode cX11_lay 75 = .ok (.invokevirtual 229, 3) := by decide +kernel
theorem dX11_lay_78 : decode cX11_lay 78 = .ok (.aload_n 0, 1) := by decide +kernel
theorem dX11_lay_79 : decode cX11_lay 79 = .ok (.getfield 12, 3) := by decide +kernel
theorem dX11_lay_82 : decode cX11_lay 82 = .ok (.aload 4, 2) := by decide +kernel
theorem dX11_lay_84 : decode cX11_lay 84 = .ok (.invokevirtual 232, 3) := by decide +kernel
theorem dX11_lay_87 : decode cX11_lay 87 = .ok (.aload 4, 2) := by decide +kernel
theorem dX11_lay_89 : decode cX11_lay 89 = .ok (.invokevirtual 161, 3) := by decide +kernel
theorem dX11_lay_92 : decode cX11_lay 92 = .ok (.aload 5, 2) := by decide +kernel
theorem dX11_lay_94 : decode cX11_lay 94 = .ok (.getfield 217, 3) := by decide +kernel
theorem dX11_lay_97 : decode cX11_lay 97 = .ok (.ireturn, 1) := by decide +kernel
theorem dX11_back_0 : decode cX11_back 0 = .ok (.aload_n 0, 1) := by decide +kernel
theorem dX11_back_1 : decode cX11_back 1 = .ok (.iload_n 1, 1) := by decide +kernel
theorem dX11_back_2 : decode cX11_back 2 = .ok (.invokevirtual 213, 3) := by decide +kernel
theorem dX11_back_5 : decode cX11_back 5 = .ok (.astore 4, 2) := by decide +kernel
theorem dX11_back_7 : decode cX11_back 7 = .ok (.aload 4, 2) := by decide +kernel
theorem dX11_back_9 : decode cX11_back 9 = .ok (.ifnull 23, 3) := by decide +kernel
theorem dX11_back_12 : decode cX11_back 12 = .ok (.iload_n 2, 1) := by decide +kernel
theorem dX11_back_13 : decode cX11_back 13 = .ok (.invokestatic 98, 3) := by decide +kernel
theorem dX11_back_16 : decode cX11_back 16 = .ok (.ifCond .eq 16, 3) := by decide +kernel
theorem dX11_back_19 : decode cX11_back 19 = .ok (.iload_n 3, 1) := by decide +kernel
theorem dX11_back_20 : decode cX11_back 20 = .ok (.aload_n 0, 1) := by decide +kernel
theorem dX11_back_21 : decode cX11_back 21 = .ok (.getfield 72, 3) := by decide +kernel
theorem dX11_back_24 : decode cX11_back 24 = .ok (.bipush 99, 2) := by decide +kernel
theorem dX11_back_26 : decode cX11_back 26 = .ok (.invokestatic 77, 3) := by decide +kernel
theorem dX11_back_29 : decode cX11_back 29 = .ok (.ifCond .ne 5, 3) := by decide +kernel
theorem dX11_back_32 : decode cX11_back 32 = .ok (.iconst (-1), 1) := by decide +kernel
theorem dX11_back_33 : decode cX11_back 33 = .ok (.ireturn, 1) := by decide +kernel
theorem dX11_back_34 : decode cX11_back 34 = .ok (.aload 4, 2) := by decide +kernel
theorem dX11_back_36 : decode cX11_back 36 = .ok (.aload_n 0, 1) := by decide +kernel
theorem dX11_back_37 : decode cX11_back 37 = .ok (.getfield 12, 3) := by decide +kernel
theorem dX11_back_40 : decode cX11_back 40 = .ok (.iload_n 2, 1) := by decide +kernel
theorem dX11_back_41 : decode cX11_back 41 = .ok (.iload_n 3, 1) := by decide +kernel
theorem dX11_back_42 : decode cX11_back 42 = .ok (.invokevirtual 235, 3) := by decide +kernel
theorem dX11_back_45 : decode cX11_back 45 = .ok (.ireturn, 1) := by decide +kernel
theorem dX11_look_0 : decode cX11_look 0 = .ok (.aload_n 0, 1) := by decide +kernel
theorem dX11_look_1 : decode cX11_look 1 = .ok (.iload_n 1, 1) := by decide +kernel
theorem dX11_look_2 : decode cX11_look 2 = .ok (.invokevirtual 213, 3) := by decide +kernel
theorem dX11_look_5 : decode cX11_look 5 = .ok (.astore 4, 2) := by decide +kernel
theorem dX11_look_7 : decode cX11_look 7 = .ok (.aload 4, 2) := by decide +kernel
theorem dX11_look_9 : decode cX11_look 9 = .ok (.ifnull 17, 3) := by decide +kernel
theorem dX11_look_12 : decode cX11_look 12 = .ok (.iload_n 2, 1) := by decide +kernel
theorem dX11_look_13 : decode cX11_look 13 = .ok (.invokestatic 131, 3) := by decide +kernel
theorem dX11_look_16 : decode cX11_look 16 = .ok (.ifCond .eq 10, 3) := by decide +kernel
theorem dX11_look_19 : decode cX11_look 19 = .ok (.iload_n 3, 1) := by decide +kernel
theorem dX11_look_20 : decode cX11_look 20 = .ok (.invokestatic 141, 3) := by decide +kernel
theorem dX11_look_23 : decode cX11_look 23 = .ok (.ifCond .ne 5, 3) := by decide +kernel
theorem dX11_look_26 : decode cX11_look 26 = .ok (.iconst (-1), 1) := by decide +kernel
theorem dX11_look_27 : decode cX11_look 27 = .ok (.ireturn, 1) := by decide +kernel
theorem dX11_look_28 : decode cX11_look 28 = .ok (.aload_n 0, 1) := by decide +kernel
theorem dX11_look_29 : decode cX11_look 29 = .ok (.getfield 19, 3) := by decide +kernel
theorem dX11_look_32 : decode cX11_look 32 = .ok (.iload_n 2, 1) := by decide +kernel
theorem dX11_look_33 : decode cX11_look 33 = .ok (.invokevirtual 174, 3) := by decide +kernel
theorem dX11_look_36 : decode cX11_look 36 = .ok (.aload_n 0, 1) := by decide +kernel
theorem dX11_look_37 : decode cX11_look 37 = .ok (.aload 4, 2) := by decide +kernel
theorem dX11_look_39 : decode cX11_look 39 = .ok (.aload_n 0, 1) := by decide +kernel
theorem dX11_look_40 : decode cX11_look 40 = .ok (.getfield 72, 3) := by decide +kernel
theorem dX11_look_43 : decode cX11_look 43 = .ok (.invokevirtual 238, 3) := by decide +kernel
theorem dX11_look_46 : decode cX11_look 46 = .ok (.aload_n 0, 1) := by decide +kernel
theorem dX11_look_47 : decode cX11_look 47 = .ok (.getfield 19, 3) := by decide +kernel
theorem dX11_look_50 : decode cX11_look 50 = .ok (.iload_n 3, 1) := by decide +kernel
theorem dX11_look_51 : decode cX11_look 51 = .ok (.aload_n 0, 1) := by decide +kernel
theorem dX11_look_52 : decode cX11_look 52 = .ok (.getfield 44, 3) := by decide +kernel
theorem dX11_look_55 : decode cX11_look 55 = .ok (.invokevirtual 178, 3) := by decide +kernel
theorem dX11_look_58 : decode cX11_look 58 = .ok (.ireturn, 1) := by decide +kernel
theorem dX11_missed_0 : decode cX11_missed 0 = .ok (.aload_n 0, 1) := by decide +kernel
theorem dX11_missed_1 : decode cX11_missed 1 = .ok (.iload_n 1, 1) := by decide +kernel
theorem dX11_missed_2 : decode cX11_missed 2 = .ok (.invokevirtual 213, 3) := by decide +kernel
theorem dX11_missed_5 : decode cX11_missed 5 = .ok (.astore 4, 2) := by decide +kernel
theorem dX11_missed_7 : decode cX11_missed 7 = .ok (.aload 4, 2) := by decide +kernel
theorem dX11_missed_9 : decode cX11_missed 9 = .ok (.ifnull 21, 3) := by decide +kernel
theorem dX11_missed_12 : decode cX11_missed 12 = .ok (.iload_n 2, 1) := by decide +kernel
theorem dX11_missed_13 : decode cX11_missed 13 = .ok (.invokestatic 131, 3) := by decide +kernel
theorem dX11_missed_16 : decode cX11_missed 16 = .ok (.ifCond .eq 14, 3) := by decide +kernel
theorem dX11_missed_19 : decode cX11_missed 19 = .ok (.iload_n 3, 1) := by decide +kernel
theorem dX11_missed_20 : decode cX11_missed 20 = .ok (.iconst 0, 1) := by decide +kernel
theorem dX11_missed_21 : decode cX11_missed 21 = .ok (.sipush 30000, 3) := by decide +kernel
theorem dX11_missed_24 : decode cX11_missed 24 = .ok (.invokestatic 77, 3) := by decide +kernel
theorem dX11_missed_27 : decode cX11_missed 27 = .ok (.ifCond .ne 5, 3) := by decide +kernel
theorem dX11_missed_30 : decode cX11_missed 30 = .ok (.iconst (-1), 1) := by decide +kernel
theorem dX11_missed_31 : decode cX11_missed 31 = .ok (.ireturn, 1) := by decide +kernel
theorem dX11_missed_32 : decode cX11_missed 32 = .ok (.aload_n 0, 1) := by decide +kernel
theorem dX11_missed_33 : decode cX11_missed 33 = .ok (.getfield 19, 3) := by decide +kernel
theorem dX11_missed_36 : decode cX11_missed 36 = .ok (.iload_n 2, 1) := by decide +kernel
theorem dX11_missed_37 : decode cX11_missed 37 = .ok (.invokevirtual 174, 3) := by decide +kernel
theorem dX11_missed_40 : decode cX11_missed 40 = .ok (.aload_n 0, 1) := by decide +kernel
theorem dX11_missed_41 : decode cX11_missed 41 = .ok (.getfield 72, 3) := by decide +kernel
theorem dX11_missed_44 : decode cX11_missed 44 = .ok (.istore 5, 2) := by decide +kernel
theorem dX11_missed_46 : decode cX11_missed 46 = .ok (.iload 5, 2) := by decide +kernel
theorem dX11_missed_48 : decode cX11_missed 48 = .ok (.bipush 99, 2) := by decide +kernel
theorem dX11_missed_50 : decode cX11_missed 50 = .ok (.if_icmp .gt 39, 3) := by decide +kernel
theorem dX11_missed_53 : decode cX11_missed 53 = .ok (.aload_n 0, 1) := by decide +kernel
theorem dX11_missed_54 : decode cX11_missed 54 = .ok (.aload 4, 2) := by decide +kernel
theorem dX11_missed_56 : decode cX11_missed 56 = .ok (.iload 5, 2) := by decide +kernel
theorem dX11_missed_58 : decode cX11_missed 58 = .ok (.invokevirtual 238, 3) := by decide +kernel
theorem dX11_missed_61 : decode cX11_missed 61 = .ok (.aload_n 0, 1) := by decide +kernel
theorem dX11_missed_62 : decode cX11_missed 62 = .ok (.getfield 19, 3) := by decide +kernel
theorem dX11_missed_65 : decode cX11_missed 65 = .ok (.aload_n 0, 1) := by decide +kernel
theorem dX11_missed_66 : decode cX11_missed 66 = .ok (.getfield 35, 3) := by decide +kernel
theorem dX11_missed_69 : decode cX11_missed 69 = .ok (.aload_n 0, 1) := by decide +kernel
theorem dX11_missed_70 : decode cX11_missed 70 = .ok (.getfield 44, 3) := by decide +kernel
theorem dX11_missed_73 : decode cX11_missed 73 = .ok (.invokevirtual 242, 3) := by decide +kernel
theorem dX11_missed_76 : decode cX11_missed 76 = .ok (.iload_n 3, 1) := by decide +kernel
theorem dX11_missed_77 : decode cX11_missed 77 = .ok (.if_icmp .le 6, 3) := by decide +kernel
theorem dX11_missed_80 : decode cX11_missed 80 = .ok (.iload 5, 2) := by decide +kernel
theorem dX11_missed_82 : decode cX11_missed 82 = .ok (.ireturn, 1) := by decide +kernel
theorem dX11_missed_83 : decode cX11_missed 83 = .ok (.iinc 5 1, 3) := by decide +kernel
theorem dX11_missed_86 : decode cX11_missed 86 = .ok (.goto (-40), 3) := by decide +kernel
theorem dX11_missed_89 : decode cX11_missed 89 = .ok (.bipush (-2), 2) := by decide +kernel
theorem dX11_missed_91 : decode cX11_missed 91 = .ok (.ireturn, 1) := by decide +kernel
theorem dX11_tone_0 : decode cX11_tone 0 = .ok (.iload_n 1, 1) := by decide +kernel
theorem dX11_tone_1 : decode cX11_tone 1 = .ok (.invokestatic 182, 3) := by decide +kernel
theorem dX11_tone_4 : decode cX11_tone 4 = .ok (.ifCond .eq 17, 3) := by decide +kernel
theorem dX11_tone_7 : decode cX11_tone 7 = .ok (.iload_n 2, 1) := by decide +kernel
theorem dX11_tone_8 : decode cX11_tone 8 = .ok (.invokestatic 182, 3) := by decide +kernel
theorem dX11_tone_11 : decode cX11_tone 11 = .ok (.ifCond .eq 10, 3) := by decide +kernel
theorem dX11_tone_14 : decode cX11_tone 14 = .ok (.iload_n 3, 1) := by decide +kernel
theorem dX11_tone_15 : decode cX11_tone 15 = .ok (.invokestatic 182, 3) := by decide +kernel
theorem dX11_tone_18 : decode cX11_tone 18 = .ok (.ifCond .ne 5, 3) := by decide +kernel
theorem dX11_tone_21 : decode cX11_tone 21 = .ok (.iconst (-1), 1) := by decide +kernel
theorem dX11_tone_22 : decode cX11_tone 22 = .ok (.ireturn, 1) := by decide +kernel
theorem dX11_tone_23 : decode cX11_tone 23 = .ok (.aload_n 0, 1) := by decide +kernel
theorem dX11_tone_24 : decode cX11_tone 24 = .ok (.getfield 35, 3) := by decide +kernel
theorem dX11_tone_27 : decode cX11_tone 27 = .ok (.iconst 0, 1) := by decide +kernel
theorem dX11_tone_28 : decode cX11_tone 28 = .ok (.iload_n 1, 1) := by decide +kernel
theorem dX11_tone_29 : decode cX11_tone 29 = .ok (.iastore, 1) := by decide +kernel
theorem dX11_tone_30 : decode cX11_tone 30 = .ok (.aload_n 0, 1) := by decide +kernel
theorem dX11_tone_31 : decode cX11_tone 31 = .ok (.getfield 35, 3) := by decide +kernel
theorem dX11_tone_34 : decode cX11_tone 34 = .ok (.iconst 1, 1) := by decide +kernel
theorem dX11_tone_35 : decode cX11_tone 35 = .ok (.iload_n 2, 1) := by decide +kernel
theorem dX11_tone_36 : decode cX11_tone 36 = .ok (.iastore, 1) := by decide +kernel
theorem dX11_tone_37 : decode cX11_tone 37 = .ok (.aload_n 0, 1) := by decide +kernel
theorem dX11_tone_38 : decode cX11_tone 38 = .ok (.getfield 35, 3) := by decide +kernel
theorem dX11_tone_41 : decode cX11_tone 41 = .ok (.iconst 2, 1) := by decide +kernel
theorem dX11_tone_42 : decode cX11_tone 42 = .ok (.iload_n 3, 1) := by decide +kernel
theorem dX11_tone_43 : decode cX11_tone 43 = .ok (.iastore, 1) := by decide +kernel
theorem dX11_tone_44 : decode cX11_tone 44 = .ok (.iconst 1, 1) := by decide +kernel
theorem dX11_tone_45 : decode cX11_tone 45 = .ok (.ireturn, 1) := by decide +kernel
theorem dX11_apart_0 : decode cX11_apart 0 = .ok (.aload_n 0, 1) := by decide +kernel
theorem dX11_apart_1 : decode cX11_apart 1 = .ok (.iload_n 1, 1) := by decide +kernel
theorem dX11_apart_2 : decode cX11_apart 2 = .ok (.invokevirtual 213, 3) := by decide +kernel
theorem dX11_apart_5 : decode cX11_apart 5 = .ok (.astore_n 3, 1) := by decide +kernel
theorem dX11_apart_6 : decode cX11_apart 6 = .ok (.aload_n 3, 1) := by decide +kernel
theorem dX11_apart_7 : decode cX11_apart 7 = .ok (.ifnull 10, 3) := by decide +kernel
theorem dX11_apart_10 : decode cX11_apart 10 = .ok (.iload_n 2, 1) := by decide +kernel
theorem dX11_apart_11 : decode cX11_apart 11 = .ok (.invokestatic 131, 3) := by decide +kernel
theorem dX11_apart_14 : decode cX11_apart 14 = .ok (.ifCond .ne 5, 3) := by decide +kernel
theorem dX11_apart_17 : decode cX11_apart 17 = .ok (.iconst (-1), 1) := by decide +kernel
theorem dX11_apart_18 : decode cX11_apart 18 = .ok (.ireturn, 1) := by decide +kernel
theorem dX11_apart_19 : decode cX11_apart 19 = .ok (.aload_n 0, 1) := by decide +kernel
theorem dX11_apart_20 : decode cX11_apart 20 = .ok (.getfield 19, 3) := by decide +kernel
theorem dX11_apart_23 : decode cX11_apart 23 = .ok (.iload_n 2, 1) := by decide +kernel
theorem dX11_apart_24 : decode cX11_apart 24 = .ok (.invokevirtual 174, 3) := by decide +kernel
theorem dX11_apart_27 : decode cX11_apart 27 = .ok (.aload_n 0, 1) := by decide +kernel
theorem dX11_apart_28 : decode cX11_apart 28 = .ok (.aload_n 3, 1) := by decide +kernel
theorem dX11_apart_29 : decode cX11_apart 29 = .ok (.aload_n 0, 1) := by decide +kernel
theorem dX11_apart_30 : decode cX11_apart 30 = .ok (.getfield 72, 3) := by decide +kernel
theorem dX11_apart_33 : decode cX11_apart 33 = .ok (.invokevirtual 238, 3) := by decide +kernel
theorem dX11_apart_36 : decode cX11_apart 36 = .ok (.aload_n 0, 1) := by decide +kernel
theorem dX11_apart_37 : decode cX11_apart 37 = .ok (.getfield 19, 3) := by decide +kernel
theorem dX11_apart_40 : decode cX11_apart 40 = .ok (.aload_n 0, 1) := by decide +kernel
theorem dX11_apart_41 : decode cX11_apart 41 = .ok (.getfield 35, 3) := by decide +kernel
theorem dX11_apart_44 : decode cX11_apart 44 = .ok (.aload_n 0, 1) := by decide +kernel
theorem dX11_apart_45 : decode cX11_apart 45 = .ok (.getfield 44, 3) := by decide +kernel
theorem dX11_apart_48 : decode cX11_apart 48 = .ok (.invokevirtual 242, 3) := by decide +kernel
theorem dX11_apart_51 : decode cX11_apart 51 = .ok (.ireturn, 1) := by decide +kernel
theorem dX11_match_0 : decode cX11_match 0 = .ok (.iload_n 1, 1) := by decide +kernel
theorem dX11_match_1 : decode cX11_match 1 = .ok (.invokestatic 131, 3) := by decide +kernel
theorem dX11_match_4 : decode cX11_match 4 = .ok (.ifCond .eq 24, 3) := by decide +kernel
theorem dX11_match_7 : decode cX11_match 7 = .ok (.aload_n 0, 1) := by decide +kernel
theorem dX11_match_8 : decode cX11_match 8 = .ok (.getfield 12, 3) := by decide +kernel
theorem dX11_match_11 : decode cX11_match 11 = .ok (.iload_n 2, 1) := by decide +kernel
theorem dX11_match_12 : decode cX11_match 12 = .ok (.invokevirtual 246, 3) := by decide +kernel
theorem dX11_match_15 : decode cX11_match 15 = .ok (.ifCond .eq 13, 3) := by decide +kernel
theorem dX11_match_18 : decode cX11_match 18 = .ok (.iload_n 3, 1) := by decide +kernel
theorem dX11_match_19 : decode cX11_match 19 = .ok (.iconst 1, 1) := by decide +kernel
theorem dX11_match_20 : decode cX11_match 20 = .ok (.bipush 8, 2) := by decide +kernel
theorem dX11_match_22 : decode cX11_match 22 = .ok (.invokestatic 77, 3) := by decide +kernel
theorem dX11_match_25 : decode cX11_match 25 = .ok (.ifCond .ne 5, 3) := by decide +kernel
theorem dX11_match_28 : decode cX11_match 28 = .ok (.iconst (-1), 1) := by decide +kernel
theorem dX11_match_29 : decode cX11_match 29 = .ok (.ireturn, 1) := by decide +kernel
theorem dX11_match_30 : decode cX11_match 30 = .ok (.aload_n 0, 1) := by decide +kernel
theorem dX11_match_31 : decode cX11_match 31 = .ok (.getfield 19, 3) := by decide +kernel
theorem dX11_match_34 : decode cX11_match 34 = .ok (.iload_n 1, 1) := by decide +kernel
theorem dX11_match_35 : decode cX11_match 35 = .ok (.invokevirtual 174, 3) := by decide +kernel
theorem dX11_match_38 : decode cX11_match 38 = .ok (.aload_n 0, 1) := by decide +kernel
theorem dX11_match_39 : decode cX11_match 39 = .ok (.getfield 50, 3) := by decide +kernel
theorem dX11_match_42 : decode cX11_match 42 = .ok (.aload_n 0, 1) := by decide +kernel
theorem dX11_match_43 : decode cX11_match 43 = .ok (.getfield 12, 3) := by decide +kernel
theorem dX11_match_46 : decode cX11_match 46 = .ok (.aload_n 0, 1) := by decide +kernel
theorem dX11_match_47 : decode cX11_match 47 = .ok (.getfield 19, 3) := by decide +kernel
theorem dX11_match_50 : decode cX11_match 50 = .ok (.aload_n 0, 1) := by decide +kernel
theorem dX11_match_51 : decode cX11_match 51 = .ok (.getfield 35, 3) := by decide +kernel
theorem dX11_match_54 : decode cX11_match 54 = .ok (.iload_n 2, 1) := by decide +kernel
theorem dX11_match_55 : decode cX11_match 55 = .ok (.iload_n 3, 1) := by decide +kernel
theorem dX11_match_56 : decode cX11_match 56 = .ok (.invokevirtual 249, 3) := by decide +kernel
theorem dX11_match_59 : decode cX11_match 59 = .ok (.ireturn, 1) := by decide +kernel
theorem dX11_matched_0 : decode cX11_matched 0 = .ok (.aload_n 0, 1) := by decide +kernel
theorem dX11_matched_1 : decode cX11_matched 1 = .ok (.getfield 12, 3) := by decide +kernel
theorem dX11_matched_4 : decode cX11_matched 4 = .ok (.iload_n 1, 1) := by decide +kernel
theorem dX11_matched_5 : decode cX11_matched 5 = .ok (.invokevirtual 94, 3) := by decide +kernel
theorem dX11_matched_8 : decode cX11_matched 8 = .ok (.ifnull 13, 3) := by decide +kernel
theorem dX11_matched_11 : decode cX11_matched 11 = .ok (.aload_n 0, 1) := by decide +kernel
theorem dX11_matched_12 : decode cX11_matched 12 = .ok (.getfield 50, 3) := by decide +kernel
theorem dX11_matched_15 : decode cX11_matched 15 = .ok (.getfield 253, 3) := by decide +kernel
theorem dX11_matched_18 : decode cX11_matched 18 = .ok (.ifCond .ne 7, 3) := by decide +kernel
theorem dX11_matched_21 : decode cX11_matched 21 = .ok (.iconst (-1), 1) := by decide +kernel
theorem dX11_matched_22 : decode cX11_matched 22 = .ok (.goto 11, 3) := by decide +kernel
theorem dX11_matched_25 : decode cX11_matched 25 = .ok (.aload_n 0, 1) := by decide +kernel
theorem dX11_matched_26 : decode cX11_matched 26 = .ok (.getfield 50, 3) := by decide +kernel
theorem dX11_matched_29 : decode cX11_matched 29 = .ok (.iload_n 1, 1) := by decide +kernel
theorem dX11_matched_30 : decode cX11_matched 30 = .ok (.invokevirtual 257, 3) := by decide +kernel
theorem dX11_matched_33 : decode cX11_matched 33 = .ok (.ireturn, 1) := by decide +kernel
theorem dX11_price_0 : decode cX11_price 0 = .ok (.aload_n 0, 1) := by decide +kernel
theorem dX11_price_1 : decode cX11_price 1 = .ok (.getfield 50, 3) := by decide +kernel
theorem dX11_price_4 : decode cX11_price 4 = .ok (.getfield 253, 3) := by decide +kernel
theorem dX11_price_7 : decode cX11_price 7 = .ok (.ifCond .eq 13, 3) := by decide +kernel
theorem dX11_price_10 : decode cX11_price 10 = .ok (.aload_n 0, 1) := by decide +kernel
theorem dX11_price_11 : decode cX11_price 11 = .ok (.getfield 50, 3) := by decide +kernel
theorem dX11_price_14 : decode cX11_price 14 = .ok (.getfield 260, 3) := by decide +kernel
theorem dX11_price_17 : decode cX11_price 17 = .ok (.goto 4, 3) := by decide +kernel
theorem dX11_price_20 : decode cX11_price 20 = .ok (.iconst (-1), 1) := by decide +kernel
theorem dX11_price_21 : decode cX11_price 21 = .ok (.ireturn, 1) := by decide +kernel
theorem dX11_glaze_0 : decode cX11_glaze 0 = .ok (.iload_n 1, 1) := by decide +kernel
theorem dX11_glaze_1 : decode cX11_glaze 1 = .ok (.invokestatic 131, 3) := by decide +kernel
theorem dX11_glaze_4 : decode cX11_glaze 4 = .ok (.ifCond .eq 21, 3) := by decide +kernel
theorem dX11_glaze_7 : decode cX11_glaze 7 = .ok (.aload_n 0, 1) := by decide +kernel
theorem dX11_glaze_8 : decode cX11_glaze 8 = .ok (.getfield 12, 3) := by decide +kernel
theorem dX11_glaze_11 : decode cX11_glaze 11 = .ok (.iload_n 2, 1) := by decide +kernel
theorem dX11_glaze_12 : decode cX11_glaze 12 = .ok (.invokevirtual 246, 3) := by decide +kernel
theorem dX11_glaze_15 : decode cX11_glaze 15 = .ok (.ifCond .eq 10, 3) := by decide +kernel
theorem dX11_glaze_18 : decode cX11_glaze 18 = .ok (.iload_n 3, 1) := by decide +kernel
theorem dX11_glaze_19 : decode cX11_glaze 19 = .ok (.invokestatic 182, 3) := by decide +kernel
theorem dX11_glaze_22 : decode cX11_glaze 22 = .ok (.ifCond .ne 5, 3) := by decide +kernel
theorem dX11_glaze_25 : decode cX11_glaze 25 = .ok (.iconst (-1), 1) := by decide +kernel
theorem dX11_glaze_26 : decode cX11_glaze 26 = .ok (.ireturn, 1) := by decide +kernel
theorem dX11_glaze_27 : decode cX11_glaze 27 = .ok (.aload_n 0, 1) := by decide +kernel
theorem dX11_glaze_28 : decode cX11_glaze 28 = .ok (.getfield 19, 3) := by decide +kernel
theorem dX11_glaze_31 : decode cX11_glaze 31 = .ok (.iload_n 1, 1) := by decide +kernel
theorem dX11_glaze_32 : decode cX11_glaze 32 = .ok (.invokevirtual 174, 3) := by decide +kernel
theorem dX11_glaze_35 : decode cX11_glaze 35 = .ok (.aload_n 0, 1) := by decide +kernel
theorem dX11_glaze_36 : decode cX11_glaze 36 = .ok (.getfield 64, 3) := by decide +kernel
theorem dX11_glaze_39 : decode cX11_glaze 39 = .ok (.aload_n 0, 1) := by decide +kernel
theorem dX11_glaze_40 : decode cX11_glaze 40 = .ok (.getfield 12, 3) := by decide +kernel
theorem dX11_glaze_43 : decode cX11_glaze 43 = .ok (.aload_n 0, 1) := by decide +kernel
theorem dX11_glaze_44 : decode cX11_glaze 44 = .ok (.getfield 19, 3) := by decide +kernel
theorem dX11_glaze_47 : decode cX11_glaze 47 = .ok (.aload_n 0, 1) := by decide +kernel
theorem dX11_glaze_48 : decode cX11_glaze 48 = .ok (.getfield 35, 3) := by decide +kernel
theorem dX11_glaze_51 : decode cX11_glaze 51 = .ok (.iload_n 2, 1) := by decide +kernel
theorem dX11_glaze_52 : decode cX11_glaze 52 = .ok (.iload_n 3, 1) := by decide +kernel
theorem dX11_glaze_53 : decode cX11_glaze 53 = .ok (.invokevirtual 263, 3) := by decide +kernel
theorem dX11_glaze_56 : decode cX11_glaze 56 = .ok (.ireturn, 1) := by decide +kernel
theorem dX11_glazed_0 : decode cX11_glazed 0 = .ok (.iload_n 1, 1) := by decide +kernel
theorem dX11_glazed_1 : decode cX11_glazed 1 = .ok (.iconst 0, 1) := by decide +kernel
theorem dX11_glazed_2 : decode cX11_glazed 2 = .ok (.aload_n 0, 1) := by decide +kernel
theorem dX11_glazed_3 : decode cX11_glazed 3 = .ok (.getfield 64, 3) := by decide +kernel
theorem dX11_glazed_6 : decode cX11_glazed 6 = .ok (.getfield 264, 3) := by decide +kernel
theorem dX11_glazed_9 : decode cX11_glazed 9 = .ok (.iconst 1, 1) := by decide +kernel
theorem dX11_glazed_10 : decode cX11_glazed 10 = .ok (.isub, 1) := by decide +kernel
theorem dX11_glazed_11 : decode cX11_glazed 11 = .ok (.invokestatic 77, 3) := by decide +kernel
theorem dX11_glazed_14 : decode cX11_glazed 14 = .ok (.ifCond .eq 14, 3) := by decide +kernel
theorem dX11_glazed_17 : decode cX11_glazed 17 = .ok (.aload_n 0, 1) := by decide +kernel
theorem dX11_glazed_18 : decode cX11_glazed 18 = .ok (.getfield 64, 3) := by decide +kernel
theorem dX11_glazed_21 : decode cX11_glazed 21 = .ok (.iload_n 1, 1) := by decide +kernel
theorem dX11_glazed_22 : decode cX11_glazed 22 = .ok (.invokevirtual 267, 3) := by decide +kernel
theorem dX11_glazed_25 : decode cX11_glazed 25 = .ok (.goto 4, 3) := by decide +kernel
theorem dX11_glazed_28 : decode cX11_glazed 28 = .ok (.iconst (-1), 1) := by decide +kernel
theorem dX11_glazed_29 : decode cX11_glazed 29 = .ok (.ireturn, 1) := by decide +kernel
theorem dX11_keep_0 : decode cX11_keep 0 = .ok (.aload_n 0, 1) := by decide +kernel
theorem dX11_keep_1 : decode cX11_keep 1 = .ok (.getfield 68, 3) := by decide +kernel
theorem dX11_keep_4 : decode cX11_keep 4 = .ok (.bipush 6, 2) := by decide +kernel
theorem dX11_keep_6 : decode cX11_keep 6 = .ok (.if_icmp .lt 6, 3) := by decide +kernel
theorem dX11_keep_9 : decode cX11_keep 9 = .ok (.bipush (-3), 2) := by decide +kernel
theorem dX11_keep_11 : decode cX11_keep 11 = .ok (.ireturn, 1) := by decide +kernel
theorem dX11_keep_12 : decode cX11_keep 12 = .ok (.iconst 0, 1) := by decide +kernel
theorem dX11_keep_13 : decode cX11_keep 13 = .ok (.istore_n 1, 1) := by decide +kernel
theorem dX11_keep_14 : decode cX11_keep 14 = .ok (.iload_n 1, 1) := by decide +kernel
theorem dX11_keep_15 : decode cX11_keep 15 = .ok (.iconst 3, 1) := by decide +kernel
theorem dX11_keep_16 : decode cX11_keep 16 = .ok (.if_icmp .ge 26, 3) := by decide +kernel
theorem dX11_keep_19 : decode cX11_keep 19 = .ok (.aload_n 0, 1) := by decide +kernel
theorem dX11_keep_20 : decode cX11_keep 20 = .ok (.getfield 41, 3) := by decide +kernel
theorem dX11_keep_23 : decode cX11_keep 23 = .ok (.aload_n 0, 1) := by decide +kernel
theorem dX11_keep_24 : decode cX11_keep 24 = .ok (.getfield 68, 3) := by decide +kernel
theorem dX11_keep_27 : decode cX11_keep 27 = .ok (.aaload, 1) := by decide +kernel
theorem dX11_keep_28 : decode cX11_keep 28 = .ok (.iload_n 1, 1) := by decide +kernel
theorem dX11_keep_29 : decode cX11_keep 29 = .ok (.aload_n 0, 1) := by decide +kernel
theorem dX11_keep_30 : decode cX11_keep 30 = .ok (.getfield 35, 3) := by decide +kernel
theorem dX11_keep_33 : decode cX11_keep 33 = .ok (.iload_n 1, 1) := by decide +kernel
theorem dX11_keep_34 : decode cX11_keep 34 = .ok (.iaload, 1) := by decide +kernel
theorem dX11_keep_35 : decode cX11_keep 35 = .ok (.iastore, 1) := by decide +kernel
theorem dX11_keep_36 : decode cX11_keep 36 = .ok (.iinc 1 1, 3) := by decide +kernel
theorem dX11_keep_39 : decode cX11_keep 39 = .ok (.goto (-25), 3) := by decide +kernel
theorem dX11_keep_42 : decode cX11_keep 42 = .ok (.aload_n 0, 1) := by decide +kernel
theorem dX11_keep_43 : decode cX11_keep 43 = .ok (.dup, 1) := by decide +kernel
theorem dX11_keep_44 : decode cX11_keep 44 = .ok (.getfield 68, 3) := by decide +kernel
theorem dX11_keep_47 : decode cX11_keep 47 = .ok (.iconst 1, 1) := by decide +kernel
theorem dX11_keep_48 : decode cX11_keep 48 = .ok (.iadd, 1) := by decide +kernel
theorem dX11_keep_49 : decode cX11_keep 49 = .ok (.putfield 68, 3) := by decide +kernel
theorem dX11_keep_52 : decode cX11_keep 52 = .ok (.aload_n 0, 1) := by decide +kernel
theorem dX11_keep_53 : decode cX11_keep 53 = .ok (.getfield 68, 3) := by decide +kernel
theorem dX11_keep_56 : decode cX11_keep 56 = .ok (.ireturn, 1) := by decide +kernel
theorem dX11_clear_0 : decode cX11_clear 0 = .ok (.aload_n 0, 1) := by decide +kernel
theorem dX11_clear_1 : decode cX11_clear 1 = .ok (.getfield 68, 3) := by decide +kernel
theorem dX11_clear_4 : decode cX11_clear 4 = .ok (.istore_n 1, 1) := by decide +kernel
theorem dX11_clear_5 : decode cX11_clear 5 = .ok (.aload_n 0, 1) := by decide +kernel
theorem dX11_clear_6 : decode cX11_clear 6 = .ok (.iconst 0, 1) := by decide +kernel
theorem dX11_clear_7 : decode cX11_clear 7 = .ok (.putfield 68, 3) := by decide +kernel
theorem dX11_clear_10 : decode cX11_clear 10 = .ok (.iload_n 1, 1) := by decide +kernel
theorem dX11_clear_11 : decode cX11_clear 11 = .ok (.ireturn, 1) := by decide +kernel
theorem dX11_fewest_0 : decode cX11_fewest 0 = .ok (.iload_n 1, 1) := by decide +kernel
theorem dX11_fewest_1 : decode cX11_fewest 1 = .ok (.invokestatic 131, 3) := by decide +kernel
theorem dX11_fewest_4 : decode cX11_fewest 4 = .ok (.ifCond .eq 24, 3) := by decide +kernel
theorem dX11_fewest_7 : decode cX11_fewest 7 = .ok (.iload_n 2, 1) := by decide +kernel
theorem dX11_fewest_8 : decode cX11_fewest 8 = .ok (.iconst 1, 1) := by decide +kernel
theorem dX11_fewest_9 : decode cX11_fewest 9 = .ok (.bipush 6, 2) := by decide +kernel
theorem dX11_fewest_11 : decode cX11_fewest 11 = .ok (.invokestatic 77, 3) := by decide +kernel
theorem dX11_fewest_14 : decode cX11_fewest 14 = .ok (.ifCond .eq 14, 3) := by decide +kernel
theorem dX11_fewest_17 : decode cX11_fewest 17 = .ok (.iload_n 3, 1) := by decide +kernel
theorem dX11_fewest_18 : decode cX11_fewest 18 = .ok (.iconst 0, 1) := by decide +kernel
theorem dX11_fewest_19 : decode cX11_fewest 19 = .ok (.sipush 30000, 3) := by decide +kernel
theorem dX11_fewest_22 : decode cX11_fewest 22 = .ok (.invokestatic 77, 3) := by decide +kernel
theorem dX11_fewest_25 : decode cX11_fewest 25 = .ok (.ifCond .ne 5, 3) := by decide +kernel
theorem dX11_fewest_28 : decode cX11_fewest 28 = .ok (.iconst (-1), 1) := by decide +kernel
theorem dX11_fewest_29 : decode cX11_fewest 29 = .ok (.ireturn, 1) := by decide +kernel
theorem dX11_fewest_30 : decode cX11_fewest 30 = .ok (.aload_n 0, 1) := by decide +kernel
theorem dX11_fewest_31 : decode cX11_fewest 31 = .ok (.getfield 68, 3) := by decide +kernel
theorem dX11_fewest_34 : decode cX11_fewest 34 = .ok (.ifCond .eq 13, 3) := by decide +kernel
theorem dX11_fewest_37 : decode cX11_fewest 37 = .ok (.aload_n 0, 1) := by decide +kernel
theorem dX11_fewest_38 : decode cX11_fewest 38 = .ok (.getfield 12, 3) := by decide +kernel
theorem dX11_fewest_41 : decode cX11_fewest 41 = .ok (.getfield 270, 3) := by decide +kernel
theorem dX11_fewest_44 : decode cX11_fewest 44 = .ok (.ifCond .ne 6, 3) := by decide +kernel
theorem dX11_fewest_47 : decode cX11_fewest 47 = .ok (.bipush (-2), 2) := by decide +kernel
theorem dX11_fewest_49 : decode cX11_fewest 49 = .ok (.ireturn, 1) := by decide +kernel
theorem dX11_fewest_50 : decode cX11_fewest 50 = .ok (.aload_n 0, 1) := by decide +kernel
theorem dX11_fewest_51 : decode cX11_fewest 51 = .ok (.getfield 19, 3) := by decide +kernel
theorem dX11_fewest_54 : decode cX11_fewest 54 = .ok (.iload_n 1, 1) := by decide +kernel
theorem dX11_fewest_55 : decode cX11_fewest 55 = .ok (.invokevirtual 174, 3) := by decide +kernel
theorem dX11_fewest_58 : decode cX11_fewest 58 = .ok (.aload_n 0, 1) := by decide +kernel
theorem dX11_fewest_59 : decode cX11_fewest 59 = .ok (.getfield 57, 3) := by decide +kernel
theorem dX11_fewest_62 : decode cX11_fewest 62 = .ok (.aload_n 0, 1) := by decide +kernel
theorem dX11_fewest_63 : decode cX11_fewest 63 = .ok (.getfield 41, 3) := by decide +kernel
theorem dX11_fewest_66 : decode cX11_fewest 66 = .ok (.aload_n 0, 1) := by decide +kernel
theorem dX11_fewest_67 : decode cX11_fewest 67 = .ok (.getfield 68, 3) := by decide +kernel
theorem dX11_fewest_70 : decode cX11_fewest 70 = .ok (.iload_n 3, 1) := by decide +kernel
theorem dX11_fewest_71 : decode cX11_fewest 71 = .ok (.invokevirtual 271, 3) := by decide +kernel
theorem dX11_fewest_74 : decode cX11_fewest 74 = .ok (.aload_n 0, 1) := by decide +kernel
theorem dX11_fewest_75 : decode cX11_fewest 75 = .ok (.getfield 57, 3) := by decide +kernel
theorem dX11_fewest_78 : decode cX11_fewest 78 = .ok (.aload_n 0, 1) := by decide +kernel
theorem dX11_fewest_79 : decode cX11_fewest 79 = .ok (.getfield 12, 3) := by decide +kernel
theorem dX11_fewest_82 : decode cX11_fewest 82 = .ok (.aload_n 0, 1) := by decide +kernel
theorem dX11_fewest_83 : decode cX11_fewest 83 = .ok (.getfield 19, 3) := by decide +kernel
theorem dX11_fewest_86 : decode cX11_fewest 86 = .ok (.iload_n 2, 1) := by decide +kernel
theorem dX11_fewest_87 : decode cX11_fewest 87 = .ok (.invokevirtual 275, 3) := by decide +kernel
theorem dX11_fewest_90 : decode cX11_fewest 90 = .ok (.ireturn, 1) := by decide +kernel
theorem dX11_count_0 : decode cX11_count 0 = .ok (.iload_n 1, 1) := by decide +kernel
theorem dX11_count_1 : decode cX11_count 1 = .ok (.tableswitch 99 0 7 #[47, 55, 60, 65, 70, 78, 86, 94], 47) := by decide +kernel
theorem dX11_count_48 : decode cX11_count 48 = .ok (.aload_n 0, 1) := by decide +kernel
theorem dX11_count_49 : decode cX11_count 49 = .ok (.getfield 12, 3) := by decide +kernel
theorem dX11_count_52 : decode cX11_count 52 = .ok (.getfield 270, 3) := by decide +kernel
theorem dX11_count_55 : decode cX11_count 55 = .ok (.ireturn, 1) := by decide +kernel
theorem dX11_count_56 : decode cX11_count 56 = .ok (.aload_n 0, 1) := by decide +kernel
theorem dX11_count_57 : decode cX11_count 57 = .ok (.getfield 72, 3) := by decide +kernel
theorem dX11_count_60 : decode cX11_count 60 = .ok (.ireturn, 1) := by decide +kernel
theorem dX11_count_61 : decode cX11_count 61 = .ok (.aload_n 0, 1) := by decide +kernel
theorem dX11_count_62 : decode cX11_count 62 = .ok (.getfield 68, 3) := by decide +kernel
theorem dX11_count_65 : decode cX11_count 65 = .ok (.ireturn, 1) := by decide +kernel
theorem dX11_count_66 : decode cX11_count 66 = .ok (.aload_n 0, 1) := by decide +kernel
theorem dX11_count_67 : decode cX11_count 67 = .ok (.invokevirtual 279, 3) := by decide +kernel
theorem dX11_count_70 : decode cX11_count 70 = .ok (.ireturn, 1) := by decide +kernel
theorem dX11_count_71 : decode cX11_count 71 = .ok (.aload_n 0, 1) := by decide +kernel
theorem dX11_count_72 : decode cX11_count 72 = .ok (.getfield 12, 3) := by decide +kernel
theorem dX11_count_75 : decode cX11_count 75 = .ok (.invokevirtual 283, 3) := by decide +kernel
theorem dX11_count_78 : decode cX11_count 78 = .ok (.ireturn, 1) := by decide +kernel
theorem dX11_count_79 : decode cX11_count 79 = .ok (.aload_n 0, 1) := by decide +kernel
theorem dX11_count_80 : decode cX11_count 80 = .ok (.getfield 12, 3) := by decide +kernel
theorem dX11_count_83 : decode cX11_count 83 = .ok (.invokevirtual 286, 3) := by decide +kernel
theorem dX11_count_86 : decode cX11_count 86 = .ok (.ireturn, 1) := by decide +kernel
theorem dX11_count_87 : decode cX11_count 87 = .ok (.aload_n 0, 1) := by decide +kernel
theorem dX11_count_88 : decode cX11_count 88 = .ok (.getfield 12, 3) := by decide +kernel
theorem dX11_count_91 : decode cX11_count 91 = .ok (.invokevirtual 289, 3) := by decide +kernel
theorem dX11_count_94 : decode cX11_count 94 = .ok (.ireturn, 1) := by decide +kernel
theorem dX11_count_95 : decode cX11_count 95 = .ok (.aload_n 0, 1) := by decide +kernel
theorem dX11_count_96 : decode cX11_count 96 = .ok (.invokevirtual 292, 3) := by decide +kernel
theorem dX11_count_99 : decode cX11_count 99 = .ok (.ireturn, 1) := by decide +kernel
theorem dX11_count_100 : decode cX11_count 100 = .ok (.iconst (-1), 1) := by decide +kernel
theorem dX11_count_101 : decode cX11_count 101 = .ok (.ireturn, 1) := by decide +kernel
theorem dX11_between_0 : decode cX11_between 0 = .ok (.iload_n 0, 1) := by decide +kernel
theorem dX11_between_1 : decode cX11_between 1 = .ok (.iload_n 1, 1) := by decide +kernel
theorem dX11_between_2 : decode cX11_between 2 = .ok (.if_icmp .lt 12, 3) := by decide +kernel
theorem dX11_between_5 : decode cX11_between 5 = .ok (.iload_n 0, 1) := by decide +kernel
theorem dX11_between_6 : decode cX11_between 6 = .ok (.iload_n 2, 1) := by decide +kernel
theorem dX11_between_7 : decode cX11_between 7 = .ok (.if_icmp .gt 7, 3) := by decide +kernel
theorem dX11_between_10 : decode cX11_between 10 = .ok (.iconst 1, 1) := by decide +kernel
theorem dX11_between_11 : decode cX11_between 11 = .ok (.goto 4, 3) := by decide +kernel
theorem dX11_between_14 : decode cX11_between 14 = .ok (.iconst 0, 1) := by decide +kernel
theorem dX11_between_15 : decode cX11_between 15 = .ok (.ireturn, 1) := by decide +kernel
theorem dX11_isBand_0 : decode cX11_isBand 0 = .ok (.iload_n 0, 1) := by decide +kernel
theorem dX11_isBand_1 : decode cX11_isBand 1 = .ok (.iconst 0, 1) := by decide +kernel
theorem dX11_isBand_2 : decode cX11_isBand 2 = .ok (.bipush 7, 2) := by decide +kernel
theorem dX11_isBand_4 : decode cX11_isBand 4 = .ok (.invokestatic 77, 3) := by decide +kernel
theorem dX11_isBand_7 : decode cX11_isBand 7 = .ok (.ireturn, 1) := by decide +kernel
theorem dX11_isLamp_0 : decode cX11_isLamp 0 = .ok (.iload_n 0, 1) := by decide +kernel
theorem dX11_isLamp_1 : decode cX11_isLamp 1 = .ok (.iconst 0, 1) := by decide +kernel
theorem dX11_isLamp_2 : decode cX11_isLamp 2 = .ok (.iconst 3, 1) := by decide +kernel
theorem dX11_isLamp_3 : decode cX11_isLamp 3 = .ok (.invokestatic 77, 3) := by decide +kernel
theorem dX11_isLamp_6 : decode cX11_isLamp 6 = .ok (.ireturn, 1) := by decide +kernel
theorem dX11_isSight_0 : decode cX11_isSight 0 = .ok (.iload_n 0, 1) := by decide +kernel
theorem dX11_isSight_1 : decode cX11_isSight 1 = .ok (.iconst 0, 1) := by decide +kernel
theorem dX11_isSight_2 : decode cX11_isSight 2 = .ok (.iconst 2, 1) := by decide +kernel
theorem dX11_isSight_3 : decode cX11_isSight 3 = .ok (.invokestatic 77, 3) := by decide +kernel
theorem dX11_isSight_6 : decode cX11_isSight 6 = .ok (.ireturn, 1) := by decide +kernel
theorem dX11_isShare_0 : decode cX11_isShare 0 = .ok (.iload_n 0, 1) := by decide +kernel
theorem dX11_isShare_1 : decode cX11_isShare 1 = .ok (.iconst 0, 1) := by decide +kernel
theorem dX11_isShare_2 : decode cX11_isShare 2 = .ok (.sipush 10000, 3) := by decide +kernel
theorem dX11_isShare_5 : decode cX11_isShare 5 = .ok (.invokestatic 77, 3) := by decide +kernel
theorem dX11_isShare_8 : decode cX11_isShare 8 = .ok (.ireturn, 1) := by decide +kernel
theorem dX11_replace_0 : decode cX11_replace 0 = .ok (.aload_n 0, 1) := by decide +kernel
theorem dX11_replace_1 : decode cX11_replace 1 = .ok (.iload_n 1, 1) := by decide +kernel
theorem dX11_replace_2 : decode cX11_replace 2 = .ok (.iaload, 1) := by decide +kernel
theorem dX11_replace_3 : decode cX11_replace 3 = .ok (.istore_n 3, 1) := by decide +kernel
theorem dX11_replace_4 : decode cX11_replace 4 = .ok (.aload_n 0, 1) := by decide +kernel
theorem dX11_replace_5 : decode cX11_replace 5 = .ok (.iload_n 1, 1) := by decide +kernel
theorem dX11_replace_6 : decode cX11_replace 6 = .ok (.iload_n 2, 1) := by decide +kernel
theorem dX11_replace_7 : decode cX11_replace 7 = .ok (.iastore, 1) := by decide +kernel
theorem dX11_replace_8 : decode cX11_replace 8 = .ok (.iload_n 3, 1) := by decide +kernel
theorem dX11_replace_9 : decode cX11_replace 9 = .ok (.ireturn, 1) := by decide +kernel
theorem dX11_potAt_0 : decode cX11_potAt 0 = .ok (.iload_n 1, 1) := by decide +kernel
theorem dX11_potAt_1 : decode cX11_potAt 1 = .ok (.iconst 0, 1) := by decide +kernel
theorem dX11_potAt_2 : decode cX11_potAt 2 = .ok (.bipush 9, 2) := by decide +kernel
theorem dX11_potAt_4 : decode cX11_potAt 4 = .ok (.invokestatic 77, 3) := by decide +kernel
theorem dX11_potAt_7 : decode cX11_potAt 7 = .ok (.ifCond .eq 12, 3) := by decide +kernel
theorem dX11_potAt_10 : decode cX11_potAt 10 = .ok (.aload_n 0, 1) := by decide +kernel
theorem dX11_potAt_11 : decode cX11_potAt 11 = .ok (.getfield 25, 3) := by decide +kernel
theorem dX11_potAt_14 : decode cX11_potAt 14 = .ok (.iload_n 1, 1) := by decide +kernel
theorem dX11_potAt_15 : decode cX11_potAt 15 = .ok (.aaload, 1) := by decide +kernel
theorem dX11_potAt_16 : decode cX11_potAt 16 = .ok (.goto 4, 3) := by decide +kernel
theorem dX11_potAt_19 : decode cX11_potAt 19 = .ok (.aconst_null, 1) := by decide +kernel
theorem dX11_potAt_20 : decode cX11_potAt 20 = .ok (.areturn, 1) := by decide +kernel
theorem dX11_areaAt_0 : decode cX11_areaAt 0 = .ok (.iload_n 1, 1) := by decide +kernel
theorem dX11_areaAt_1 : decode cX11_areaAt 1 = .ok (.iconst 0, 1) := by decide +kernel
theorem dX11_areaAt_2 : decode cX11_areaAt 2 = .ok (.bipush 9, 2) := by decide +kernel
theorem dX11_areaAt_4 : decode cX11_areaAt 4 = .ok (.invokestatic 77, 3) := by decide +kernel
theorem dX11_areaAt_7 : decode cX11_areaAt 7 = .ok (.ifCond .eq 12, 3) := by decide +kernel
theorem dX11_areaAt_10 : decode cX11_areaAt 10 = .ok (.aload_n 0, 1) := by decide +kernel
theorem dX11_areaAt_11 : decode cX11_areaAt 11 = .ok (.getfield 31, 3) := by decide +kernel
theorem dX11_areaAt_14 : decode cX11_areaAt 14 = .ok (.iload_n 1, 1) := by decide +kernel
theorem dX11_areaAt_15 : decode cX11_areaAt 15 = .ok (.aaload, 1) := by decide +kernel
theorem dX11_areaAt_16 : decode cX11_areaAt 16 = .ok (.goto 4, 3) := by decide +kernel
theorem dX11_areaAt_19 : decode cX11_areaAt 19 = .ok (.aconst_null, 1) := by decide +kernel
theorem dX11_areaAt_20 : decode cX11_areaAt 20 = .ok (.areturn, 1) := by decide +kernel
theorem dX11_inPots_0 : decode cX11_inPots 0 = .ok (.iconst 0, 1) := by decide +kernel
theorem dX11_inPots_1 : decode cX11_inPots 1 = .ok (.istore_n 2, 1) := by decide +kernel
theorem dX11_inPots_2 : decode cX11_inPots 2 = .ok (.iconst 0, 1) := by decide +kernel
theorem dX11_inPots_3 : decode cX11_inPots 3 = .ok (.istore_n 3, 1) := by decide +kernel
theorem dX11_inPots_4 : decode cX11_inPots 4 = .ok (.iload_n 3, 1) := by decide +kernel
theorem dX11_inPots_5 : decode cX11_inPots 5 = .ok (.bipush 10, 2) := by decide +kernel
theorem dX11_inPots_7 : decode cX11_inPots 7 = .ok (.if_icmp .ge 22, 3) := by decide +kernel
theorem dX11_inPots_10 : decode cX11_inPots 10 = .ok (.iload_n 2, 1) := by decide +kernel
theorem dX11_inPots_11 : decode cX11_inPots 11 = .ok (.aload_n 0, 1) := by decide +kernel
theorem dX11_inPots_12 : decode cX11_inPots 12 = .ok (.getfield 25, 3) := by decide +kernel
theorem dX11_inPots_15 : decode cX11_inPots 15 = .ok (.iload_n 3, 1) := by decide +kernel
theorem dX11_inPots_16 : decode cX11_inPots 16 = .ok (.aaload, 1) := by decide +kernel
theorem dX11_inPots_17 : decode cX11_inPots 17 = .ok (.iload_n 1, 1) := by decide +kernel
theorem dX11_inPots_18 : decode cX11_inPots 18 = .ok (.invokevirtual 167, 3) := by decide +kernel
theorem dX11_inPots_21 : decode cX11_inPots 21 = .ok (.iadd, 1) := by decide +kernel
theorem dX11_inPots_22 : decode cX11_inPots 22 = .ok (.istore_n 2, 1) := by decide +kernel
theorem dX11_inPots_23 : decode cX11_inPots 23 = .ok (.iinc 3 1, 3) := by decide +kernel
theorem dX11_inPots_26 : decode cX11_inPots 26 = .ok (.goto (-22), 3) := by decide +kernel
theorem dX11_inPots_29 : decode cX11_inPots 29 = .ok (.iload_n 2, 1) := by decide +kernel
theorem dX11_inPots_30 : decode cX11_inPots 30 = .ok (.ireturn, 1) := by decide +kernel
theorem dX11_allInPots_0 : decode cX11_allInPots 0 = .ok (.iconst 0, 1) := by decide +kernel
theorem dX11_allInPots_1 : decode cX11_allInPots 1 = .ok (.istore_n 1, 1) := by decide +kernel
theorem dX11_allInPots_2 : decode cX11_allInPots 2 = .ok (.iconst 0, 1) := by decide +kernel
theorem dX11_allInPots_3 : decode cX11_allInPots 3 = .ok (.istore_n 2, 1) := by decide +kernel
theorem dX11_allInPots_4 : decode cX11_allInPots 4 = .ok (.iload_n 2, 1) := by decide +kernel
theorem dX11_allInPots_5 : decode cX11_allInPots 5 = .ok (.bipush 10, 2) := by decide +kernel
theorem dX11_allInPots_7 : decode cX11_allInPots 7 = .ok (.if_icmp .ge 21, 3) := by decide +kernel
theorem dX11_allInPots_10 : decode cX11_allInPots 10 = .ok (.iload_n 1, 1) := by decide +kernel
theorem dX11_allInPots_11 : decode cX11_allInPots 11 = .ok (.aload_n 0, 1) := by decide +kernel
theorem dX11_allInPots_12 : decode cX11_allInPots 12 = .ok (.getfield 25, 3) := by decide +kernel
theorem dX11_allInPots_15 : decode cX11_allInPots 15 = .ok (.iload_n 2, 1) := by decide +kernel
theorem dX11_allInPots_16 : decode cX11_allInPots 16 = .ok (.aaload, 1) := by decide +kernel
theorem dX11_allInPots_17 : decode cX11_allInPots 17 = .ok (.getfield 151, 3) := by decide +kernel
theorem dX11_allInPots_20 : decode cX11_allInPots 20 = .ok (.iadd, 1) := by decide +kernel
theorem dX11_allInPots_21 : decode cX11_allInPots 21 = .ok (.istore_n 1, 1) := by decide +kernel
theorem dX11_allInPots_22 : decode cX11_allInPots 22 = .ok (.iinc 2 1, 3) := by decide +kernel
theorem dX11_allInPots_25 : decode cX11_allInPots 25 = .ok (.goto (-21), 3) := by decide +kernel
theorem dX11_allInPots_28 : decode cX11_allInPots 28 = .ok (.iload_n 1, 1) := by decide +kernel
theorem dX11_allInPots_29 : decode cX11_allInPots 29 = .ok (.ireturn, 1) := by decide +kernel
theorem dX11_allLayers_0 : decode cX11_allLayers 0 = .ok (.iconst 0, 1) := by decide +kernel
theorem dX11_allLayers_1 : decode cX11_allLayers 1 = .ok (.istore_n 1, 1) := by decide +kernel
theorem dX11_allLayers_2 : decode cX11_allLayers 2 = .ok (.iconst 0, 1) := by decide +kernel
theorem dX11_allLayers_3 : decode cX11_allLayers 3 = .ok (.istore_n 2, 1) := by decide +kernel
theorem dX11_allLayers_4 : decode cX11_allLayers 4 = .ok (.iload_n 2, 1) := by decide +kernel
theorem dX11_allLayers_5 : decode cX11_allLayers 5 = .ok (.bipush 10, 2) := by decide +kernel
theorem dX11_allLayers_7 : decode cX11_allLayers 7 = .ok (.if_icmp .ge 21, 3) := by decide +kernel
theorem dX11_allLayers_10 : decode cX11_allLayers 10 = .ok (.iload_n 1, 1) := by decide +kernel
theorem dX11_allLayers_11 : decode cX11_allLayers 11 = .ok (.aload_n 0, 1) := by decide +kernel
theorem dX11_allLayers_12 : decode cX11_allLayers 12 = .ok (.getfield 31, 3) := by decide +kernel
theorem dX11_allLayers_15 : decode cX11_allLayers 15 = .ok (.iload_n 2, 1) := by decide +kernel
theorem dX11_allLayers_16 : decode cX11_allLayers 16 = .ok (.aaload, 1) := by decide +kernel
theorem dX11_allLayers_17 : decode cX11_allLayers 17 = .ok (.getfield 217, 3) := by decide +kernel
theorem dX11_allLayers_20 : decode cX11_allLayers 20 = .ok (.iadd, 1) := by decide +kernel
theorem dX11_allLayers_21 : decode cX11_allLayers 21 = .ok (.istore_n 1, 1) := by decide +kernel
theorem dX11_allLayers_22 : decode cX11_allLayers 22 = .ok (.iinc 2 1, 3) := by decide +kernel
theorem dX11_allLayers_25 : decode cX11_allLayers 25 = .ok (.goto (-21), 3) := by decide +kernel
theorem dX11_allLayers_28 : decode cX11_allLayers 28 = .ok (.iload_n 1, 1) := by decide +kernel
theorem dX11_allLayers_29 : decode cX11_allLayers 29 = .ok (.ireturn, 1) := by decide +kernel
theorem dX11_sendFrom_0 : decode cX11_sendFrom 0 = .ok (.iconst 0, 1) := by decide +kernel
theorem dX11_sendFrom_1 : decode cX11_sendFrom 1 = .ok (.istore_n 3, 1) := by decide +kernel
theorem dX11_sendFrom_2 : decode cX11_sendFrom 2 = .ok (.iload_n 3, 1) := by decide +kernel
theorem dX11_sendFrom_3 : decode cX11_sendFrom 3 = .ok (.bipush 8, 2) := by decide +kernel
theorem dX11_sendFrom_5 : decode cX11_sendFrom 5 = .ok (.if_icmp .ge 37, 3) := by decide +kernel
theorem dX11_sendFrom_8 : decode cX11_sendFrom 8 = .ok (.aload_n 0, 1) := by decide +kernel
theorem dX11_sendFrom_9 : decode cX11_sendFrom 9 = .ok (.getfield 19, 3) := by decide +kernel
theorem dX11_sendFrom_12 : decode cX11_sendFrom 12 = .ok (.getfield 295, 3) := by decide +kernel
theorem dX11_sendFrom_15 : decode cX11_sendFrom 15 = .ok (.iload_n 3, 1) := by decide +kernel
theorem dX11_sendFrom_16 : decode cX11_sendFrom 16 = .ok (.baload, 1) := by decide +kernel
theorem dX11_sendFrom_17 : decode cX11_sendFrom 17 = .ok (.ifCond .eq 19, 3) := by decide +kernel
theorem dX11_sendFrom_20 : decode cX11_sendFrom 20 = .ok (.aload_n 0, 1) := by decide +kernel
theorem dX11_sendFrom_21 : decode cX11_sendFrom 21 = .ok (.getfield 44, 3) := by decide +kernel
theorem dX11_sendFrom_24 : decode cX11_sendFrom 24 = .ok (.iload_n 3, 1) := by decide +kernel
theorem dX11_sendFrom_25 : decode cX11_sendFrom 25 = .ok (.aload_n 1, 1) := by decide +kernel
theorem dX11_sendFrom_26 : decode cX11_sendFrom 26 = .ok (.aload_n 0, 1) := by decide +kernel
theorem dX11_sendFrom_27 : decode cX11_sendFrom 27 = .ok (.getfield 12, 3) := by decide +kernel
theorem dX11_sendFrom_30 : decode cX11_sendFrom 30 = .ok (.iload_n 3, 1) := by decide +kernel
theorem dX11_sendFrom_31 : decode cX11_sendFrom 31 = .ok (.iload_n 2, 1) := by decide +kernel
theorem dX11_sendFrom_32 : decode cX11_sendFrom 32 = .ok (.invokevirtual 235, 3) := by decide +kernel
theorem dX11_sendFrom_35 : decode cX11_sendFrom 35 = .ok (.iastore, 1) := by decide +kernel
theorem dX11_sendFrom_36 : decode cX11_sendFrom 36 = .ok (.iinc 3 1, 3) := by decide +kernel
theorem dX11_sendFrom_39 : decode cX11_sendFrom 39 = .ok (.goto (-37), 3) := by decide +kernel
theorem dX11_sendFrom_42 : decode cX11_sendFrom 42 = .ok (.return_, 1) := by decide +kernel
theorem dX12_in_0 : decode cX12_in 0 = .ok (.iload_n 0, 1) := by decide +kernel
theorem dX12_in_1 : decode cX12_in 1 = .ok (.iload_n 1, 1) := by decide +kernel
theorem dX12_in_2 : decode cX12_in 2 = .ok (.if_icmp .lt 12, 3) := by decide +kernel
theorem dX12_in_5 : decode cX12_in 5 = .ok (.iload_n 0, 1) := by decide +kernel
theorem dX12_in_6 : decode cX12_in 6 = .ok (.iload_n 2, 1) := by decide +kernel
theorem dX12_in_7 : decode cX12_in 7 = .ok (.if_icmp .gt 7, 3) := by decide +kernel
theorem dX12_in_10 : decode cX12_in 10 = .ok (.iconst 1, 1) := by decide +kernel
theorem dX12_in_11 : decode cX12_in 11 = .ok (.goto 4, 3) := by decide +kernel
theorem dX12_in_14 : decode cX12_in 14 = .ok (.iconst 0, 1) := by decide +kernel
theorem dX12_in_15 : decode cX12_in 15 = .ok (.ireturn, 1) := by decide +kernel
theorem dX12_init_0 : decode cX12_init 0 = .ok (.aload_n 0, 1) := by decide +kernel
theorem dX12_init_1 : decode cX12_init 1 = .ok (.invokespecial 7, 3) := by decide +kernel
theorem dX12_init_4 : decode cX12_init 4 = .ok (.aload_n 0, 1) := by decide +kernel
theorem dX12_init_5 : decode cX12_init 5 = .ok (.bipush 96, 2) := by decide +kernel
theorem dX12_init_7 : decode cX12_init 7 = .ok (.newarray .int, 2) := by decide +kernel
theorem dX12_init_9 : decode cX12_init 9 = .ok (.putfield 13, 3) := by decide +kernel
theorem dX12_init_12 : decode cX12_init 12 = .ok (.aload_n 0, 1) := by decide +kernel
theorem dX12_init_13 : decode cX12_init 13 = .ok (.bipush 96, 2) := by decide +kernel
theorem dX12_init_15 : decode cX12_init 15 = .ok (.newarray .int, 2) := by decide +kernel
theorem dX12_init_17 : decode cX12_init 17 = .ok (.putfield 17, 3) := by decide +kernel
theorem dX12_init_20 : decode cX12_init 20 = .ok (.aload_n 0, 1) := by decide +kernel
theorem dX12_init_21 : decode cX12_init 21 = .ok (.bipush 12, 2) := by decide +kernel
theorem dX12_init_23 : decode cX12_init 23 = .ok (.newarray .int, 2) := by decide +kernel
theorem dX12_init_25 : decode cX12_init 25 = .ok (.putfield 20, 3) := by decide +kernel
theorem dX12_init_28 : decode cX12_init 28 = .ok (.aload_n 0, 1) := by decide +kernel
theorem dX12_init_29 : decode cX12_init 29 = .ok (.bipush 12, 2) := by decide +kernel
theorem dX12_init_31 : decode cX12_init 31 = .ok (.newarray .int, 2) := by decide +kernel
theorem dX12_init_33 : decode cX12_init 33 = .ok (.putfield 23, 3) := by decide +kernel
theorem dX12_init_36 : decode cX12_init 36 = .ok (.aload_n 0, 1) := by decide +kernel
theorem dX12_init_37 : decode cX12_init 37 = .ok (.bipush 12, 2) := by decide +kernel
theorem dX12_init_39 : decode cX12_init 39 = .ok (.newarray .int, 2) := by decide +kernel
theorem dX12_init_41 : decode cX12_init 41 = .ok (.putfield 26, 3) := by decide +kernel
theorem dX12_init_44 : decode cX12_init 44 = .ok (.aload_n 0, 1) := by decide +kernel
theorem dX12_init_45 : decode cX12_init 45 = .ok (.bipush 12, 2) := by decide +kernel
theorem dX12_init_47 : decode cX12_init 47 = .ok (.newarray .int, 2) := by decide +kernel
theorem dX12_init_49 : decode cX12_init 49 = .ok (.putfield 29, 3) := by decide +kernel
theorem dX12_init_52 : decode cX12_init 52 = .ok (.aload_n 0, 1) := by decide +kernel
theorem dX12_init_53 : decode cX12_init 53 = .ok (.bipush 12, 2) := by decide +kernel
theorem dX12_init_55 : decode cX12_init 55 = .ok (.newarray .int, 2) := by decide +kernel
theorem dX12_init_57 : decode cX12_init 57 = .ok (.putfield 32, 3) := by decide +kernel
theorem dX12_init_60 : decode cX12_init 60 = .ok (.aload_n 0, 1) := by decide +kernel
theorem dX12_init_61 : decode cX12_init 61 = .ok (.bipush 32, 2) := by decide +kernel
theorem dX12_init_63 : decode cX12_init 63 = .ok (.newarray .int, 2) := by decide +kernel
theorem dX12_init_65 : decode cX12_init 65 = .ok (.putfield 35, 3) := by decide +kernel
theorem dX12_init_68 : decode cX12_init 68 = .ok (.aload_n 0, 1) := by decide +kernel
theorem dX12_init_69 : decode cX12_init 69 = .ok (.bipush 24, 2) := by decide +kernel
theorem dX12_init_71 : decode cX12_init 71 = .ok (.newarray .int, 2) := by decide +kernel
theorem dX12_init_73 : decode cX12_init 73 = .ok (.putfield 38, 3) := by decide +kernel
theorem dX12_init_76 : decode cX12_init 76 = .ok (.aload_n 0, 1) := by decide +kernel
theorem dX12_init_77 : decode cX12_init 77 = .ok (.bipush 8, 2) := by decide +kernel
theorem dX12_init_79 : decode cX12_init 79 = .ok (.newarray .int, 2) := by decide +kernel
theorem dX12_init_81 : decode cX12_init 81 = .ok (.putfield 41, 3) := by decide +kernel
theorem dX12_init_84 : decode cX12_init 84 = .ok (.aload_n 0, 1) := by decide +kernel
theorem dX12_init_85 : decode cX12_init 85 = .ok (.bipush 120, 2) := by decide +kernel
theorem dX12_init_87 : decode cX12_init 87 = .ok (.newarray .int, 2) := by decide +kernel
theorem dX12_init_89 : decode cX12_init 89 = .ok (.putfield 44, 3) := by decide +kernel
theorem dX12_init_92 : decode cX12_init 92 = .ok (.aload_n 0, 1) := by decide +kernel
theorem dX12_init_93 : decode cX12_init 93 = .ok (.bipush 8, 2) := by decide +kernel
theorem dX12_init_95 : decode cX12_init 95 = .ok (.newarray .int, 2) := by decide +kernel
theorem dX12_init_97 : decode cX12_init 97 = .ok (.putfield 47, 3) := by decide +kernel
theorem dX12_init_100 : decode cX12_init 100 = .ok (.aload_n 0, 1) := by decide +kernel
theorem dX12_init_101 : decode cX12_init 101 = .ok (.bipush 8, 2) := by decide +kernel
theorem dX12_init_103 : decode cX12_init 103 = .ok (.newarray .int, 2) := by decide +kernel
theorem dX12_init_105 : decode cX12_init 105 = .ok (.putfield 50, 3) := by decide +kernel
theorem dX12_init_108 : decode cX12_init 108 = .ok (.aload_n 0, 1) := by decide +kernel
theorem dX12_init_109 : decode cX12_init 109 = .ok (.bipush 10, 2) := by decide +kernel
theorem dX12_init_111 : decode cX12_init 111 = .ok (.newarray .int, 2) := by decide +kernel
theorem dX12_init_113 : decode cX12_init 113 = .ok (.putfield 53, 3) := by decide +kernel
theorem dX12_init_116 : decode cX12_init 116 = .ok (.aload_n 0, 1) := by decide +kernel
theorem dX12_init_117 : decode cX12_init 117 = .ok (.bipush 10, 2) := by decide +kernel
theorem dX12_init_119 : decode cX12_init 119 = .ok (.newarray .int, 2) := by decide +kernel
theorem dX12_init_121 : decode cX12_init 121 = .ok (.putfield 56, 3) := by decide +kernel
theorem dX12_init_124 : decode cX12_init 124 = .ok (.aload_n 0, 1) := by decide +kernel
theorem dX12_init_125 : decode cX12_init 125 = .ok (.bipush 100, 2) := by decide +kernel
theorem dX12_init_127 : decode cX12_init 127 = .ok (.newarray .int, 2) := by decide +kernel
theorem dX12_init_129 : decode cX12_init 129 = .ok (.putfield 59, 3) := by decide +kernel
theorem dX12_init_132 : decode cX12_init 132 = .ok (.aload_n 0, 1) := by decide +kernel
theorem dX12_init_133 : decode cX12_init 133 = .ok (.bipush 100, 2) := by decide +kernel
theorem dX12_init_135 : decode cX12_init 135 = .ok (.newarray .int, 2) := by decide +kernel
theorem dX12_init_137 : decode cX12_init 137 = .ok (.putfield 62, 3) := by decide +kernel
theorem dX12_init_140 : decode cX12_init 140 = .ok (.aload_n 0, 1) := by decide +kernel
theorem dX12_init_141 : decode cX12_init 141 = .ok (.sipush 1200, 3) := by decide +kernel
theorem dX12_init_144 : decode cX12_init 144 = .ok (.newarray .int, 2) := by decide +kernel
theorem dX12_init_146 : decode cX12_init 146 = .ok (.putfield 65, 3) := by decide +kernel
theorem dX12_init_149 : decode cX12_init 149 = .ok (.aload_n 0, 1) := by decide +kernel
theorem dX12_init_150 : decode cX12_init 150 = .ok (.iconst 3, 1) := by decide +kernel
theorem dX12_init_151 : decode cX12_init 151 = .ok (.newarray .int, 2) := by decide +kernel
theorem dX12_init_153 : decode cX12_init 153 = .ok (.putfield 68, 3) := by decide +kernel
theorem dX12_init_156 : decode cX12_init 156 = .ok (.aload_n 0, 1) := by decide +kernel
theorem dX12_init_157 : decode cX12_init 157 = .ok (.bipush 12, 2) := by decide +kernel
theorem dX12_init_159 : decode cX12_init 159 = .ok (.newarray .int, 2) := by decide +kernel
theorem dX12_init_161 : decode cX12_init 161 = .ok (.putfield 71, 3) := by decide +kernel
theorem dX12_init_164 : decode cX12_init 164 = .ok (.aload_n 0, 1) := by decide +kernel
theorem dX12_init_165 : decode cX12_init 165 = .ok (.bipush 12, 2) := by decide +kernel
theorem dX12_init_167 : decode cX12_init 167 = .ok (.newarray .int, 2) := by decide +kernel
theorem dX12_init_169 : decode cX12_init 169 = .ok (.putfield 74, 3) := by decide +kernel
theorem dX12_init_172 : decode cX12_init 172 = .ok (.aload_n 0, 1) := by decide +kernel
theorem dX12_init_173 : decode cX12_init 173 = .ok (.iconst (-1), 1) := by decide +kernel
theorem dX12_init_174 : decode cX12_init 174 = .ok (.putfield 77, 3) := by decide +kernel
theorem dX12_init_177 : decode cX12_init 177 = .ok (.aload_n 0, 1) := by decide +kernel
theorem dX12_init_178 : decode cX12_init 178 = .ok (.iconst 3, 1) := by decide +kernel
theorem dX12_init_179 : decode cX12_init 179 = .ok (.newarray .int, 2) := by decide +kernel
theorem dX12_init_181 : decode cX12_init 181 = .ok (.putfield 80, 3) := by decide +kernel
theorem dX12_init_184 : decode cX12_init 184 = .ok (.aload_n 0, 1) := by decide +kernel
theorem dX12_init_185 : decode cX12_init 185 = .ok (.iconst 3, 1) := by decide +kernel
theorem dX12_init_186 : decode cX12_init 186 = .ok (.newarray .int, 2) := by decide +kernel
theorem dX12_init_188 : decode cX12_init 188 = .ok (.putfield 83, 3) := by decide +kernel
theorem dX12_init_191 : decode cX12_init 191 = .ok (.aload_n 0, 1) := by decide +kernel
theorem dX12_init_192 : decode cX12_init 192 = .ok (.bipush 18, 2) := by decide +kernel
theorem dX12_init_194 : decode cX12_init 194 = .ok (.newarray .int, 2) := by decide +kernel
theorem dX12_init_196 : decode cX12_init 196 = .ok (.putfield 86, 3) := by decide +kernel
theorem dX12_init_199 : decode cX12_init 199 = .ok (.aload_n 0, 1) := by decide +kernel
theorem dX12_init_200 : decode cX12_init 200 = .ok (.sipush 4096, 3) := by decide +kernel
theorem dX12_init_203 : decode cX12_init 203 = .ok (.newarray .int, 2) := by decide +kernel
theorem dX12_init_205 : decode cX12_init 205 = .ok (.putfield 89, 3) := by decide +kernel
theorem dX12_init_208 : decode cX12_init 208 = .ok (.iconst 0, 1) := by decide +kernel
theorem dX12_init_209 : decode cX12_init 209 = .ok (.istore_n 1, 1) := by decide +kernel
theorem dX12_init_210 : decode cX12_init 210 = .ok (.iload_n 1, 1) := by decide +kernel
theorem dX12_init_211 : decode cX12_init 211 = .ok (.bipush 32, 2) := by decide +kernel
theorem dX12_init_213 : decode cX12_init 213 = .ok (.if_icmp .ge 17, 3) := by decide +kernel
theorem dX12_init_216 : decode cX12_init 216 = .ok (.aload_n 0, 1) := by decide +kernel
theorem dX12_init_217 : decode cX12_init 217 = .ok (.getfield 35, 3) := by decide +kernel
theorem dX12_init_220 : decode cX12_init 220 = .ok (.iload_n 1, 1) := by decide +kernel
theorem dX12_init_221 : decode cX12_init 221 = .ok (.bipush 10, 2) := by decide +kernel
theorem dX12_init_223 : decode cX12_init 223 = .ok (.iastore, 1) := by decide +kernel
theorem dX12_init_224 : decode cX12_init 224 = .ok (.iinc 1 1, 3) := by decide +kernel
theorem dX12_init_227 : decode cX12_init 227 = .ok (.goto (-17), 3) := by decide +kernel
theorem dX12_init_230 : decode cX12_init 230 = .ok (.iconst 5, 1) := by decide +kernel
theorem dX12_init_231 : decode cX12_init 231 = .ok (.istore_n 1, 1) := by decide +kernel
theorem dX12_init_232 : decode cX12_init 232 = .ok (.iload_n 1, 1) := by decide +kernel
theorem dX12_init_233 : decode cX12_init 233 = .ok (.bipush 8, 2) := by decide +kernel
theorem dX12_init_235 : decode cX12_init 235 = .ok (.if_icmp .ge 16, 3) := by decide +kernel
theorem dX12_init_238 : decode cX12_init 238 = .ok (.aload_n 0, 1) := by decide +kernel
theorem dX12_init_239 : decode cX12_init 239 = .ok (.getfield 38, 3) := by decide +kernel
theorem dX12_init_242 : decode cX12_init 242 = .ok (.iload_n 1, 1) := by decide +kernel
theorem dX12_init_243 : decode cX12_init 243 = .ok (.iconst 1, 1) := by decide +kernel
theorem dX12_init_244 : decode cX12_init 244 = .ok (.iastore, 1) := by decide +kernel
theorem dX12_init_245 : decode cX12_init 245 = .ok (.iinc 1 1, 3) := by decide +kernel
theorem dX12_init_248 : decode cX12_init 248 = .ok (.goto (-16), 3) := by decide +kernel
theorem dX12_init_251 : decode cX12_init 251 = .ok (.iconst 3, 1) := by decide +kernel
theorem dX12_init_252 : decode cX12_init 252 = .ok (.istore_n 1, 1) := by decide +kernel
theorem dX12_init_253 : decode cX12_init 253 = .ok (.iload_n 1, 1) := by decide +kernel
theorem dX12_init_254 : decode cX12_init 254 = .ok (.bipush 6, 2) := by decide +kernel
theorem dX12_init_256 : decode cX12_init 256 = .ok (.if_icmp .ge 19, 3) := by decide +kernel
theorem dX12_init_259 : decode cX12_init 259 = .ok (.aload_n 0, 1) := by decide +kernel
theorem dX12_init_260 : decode cX12_init 260 = .ok (.getfield 38, 3) := by decide +kernel
theorem dX12_init_263 : decode cX12_init 263 = .ok (.bipush 8, 2) := by decide +kernel
theorem dX12_init_265 : decode cX12_init 265 = .ok (.iload_n 1, 1) := by decide +kernel
theorem dX12_init_266 : decode cX12_init 266 = .ok (.iadd, 1) := by decide +kernel
theorem dX12_init_267 : decode cX12_init 267 = .ok (.iconst 1, 1) := by decide +kernel
theorem dX12_init_268 : decode cX12_init 268 = .ok (.iastore, 1) := by decide +kernel
theorem dX12_init_269 : decode cX12_init 269 = .ok (.iinc 1 1, 3) := by decide +kernel
theorem dX12_init_272 : decode cX12_init 272 = .ok (.goto (-19), 3) := by decide +kernel
theorem dX12_init_275 : decode cX12_init 275 = .ok (.iconst 0, 1) := by decide +kernel
theorem dX12_init_276 : decode cX12_init 276 = .ok (.istore_n 1, 1) := by decide +kernel
theorem dX12_init_277 : decode cX12_init 277 = .ok (.iload_n 1, 1) := by decide +kernel
theorem dX12_init_278 : decode cX12_init 278 = .ok (.iconst 3, 1) := by decide +kernel
theorem dX12_init_279 : decode cX12_init 279 = .ok (.if_icmp .ge 19, 3) := by decide +kernel
theorem dX12_init_282 : decode cX12_init 282 = .ok (.aload_n 0, 1) := by decide +kernel
theorem dX12_init_283 : decode cX12_init 283 = .ok (.getfield 38, 3) := by decide +kernel
theorem dX12_init_286 : decode cX12_init 286 = .ok (.bipush 16, 2) := by decide +kernel
theorem dX12_init_288 : decode cX12_init 288 = .ok (.iload_n 1, 1) := by decide +kernel
theorem dX12_init_289 : decode cX12_init 289 = .ok (.iadd, 1) := by decide +kernel
theorem dX12_init_290 : decode cX12_init 290 = .ok (.iconst 1, 1) := by decide +kernel
theorem dX12_init_291 : decode cX12_init 291 = .ok (.iastore, 1) := by decide +kernel
theorem dX12_init_292 : decode cX12_init 292 = .ok (.iinc 1 1, 3) := by decide +kernel
theorem dX12_init_295 : decode cX12_init 295 = .ok (.goto (-18), 3) := by decide +kernel
theorem dX12_init_298 : decode cX12_init 298 = .ok (.iconst 0, 1) := by decide +kernel
theorem dX12_init_299 : decode cX12_init 299 = .ok (.istore_n 1, 1) := by decide +kernel
theorem dX12_init_300 : decode cX12_init 300 = .ok (.iload_n 1, 1) := by decide +kernel
theorem dX12_init_301 : decode cX12_init 301 = .ok (.bipush 10, 2) := by decide +kernel
theorem dX12_init_303 : decode cX12_init 303 = .ok (.if_icmp .ge 18, 3) := by decide +kernel
theorem dX12_init_306 : decode cX12_init 306 = .ok (.aload_n 0, 1) := by decide +kernel
theorem dX12_init_307 : decode cX12_init 307 = .ok (.getfield 53, 3) := by decide +kernel
theorem dX12_init_310 : decode cX12_init 310 = .ok (.iload_n 1, 1) := by decide +kernel
theorem dX12_init_311 : decode cX12_init 311 = .ok (.sipush 9000, 3) := by decide +kernel
theorem dX12_init_314 : decode cX12_init 314 = .ok (.iastore, 1) := by decide +kernel
theorem dX12_init_315 : decode cX12_init 315 = .ok (.iinc 1 1, 3) := by decide +kernel
theorem dX12_init_318 : decode cX12_init 318 = .ok (.goto (-18), 3) := by decide +kernel
theorem dX12_init_321 : decode cX12_init 321 = .ok (.iconst 0, 1) := by decide +kernel
theorem dX12_init_322 : decode cX12_init 322 = .ok (.istore_n 1, 1) := by decide +kernel
theorem dX12_init_323 : decode cX12_init 323 = .ok (.iload_n 1, 1) := by decide +kernel
theorem dX12_init_324 : decode cX12_init 324 = .ok (.iconst 3, 1) := by decide +kernel
theorem dX12_init_325 : decode cX12_init 325 = .ok (.if_icmp .ge 18, 3) := by decide +kernel
theorem dX12_init_328 : decode cX12_init 328 = .ok (.aload_n 0, 1) := by decide +kernel
theorem dX12_init_329 : decode cX12_init 329 = .ok (.getfield 68, 3) := by decide +kernel
theorem dX12_init_332 : decode cX12_init 332 = .ok (.iload_n 1, 1) := by decide +kernel
theorem dX12_init_333 : decode cX12_init 333 = .ok (.sipush 5000, 3) := by decide +kernel
theorem dX12_init_336 : decode cX12_init 336 = .ok (.iastore, 1) := by decide +kernel
theorem dX12_init_337 : decode cX12_init 337 = .ok (.iinc 1 1, 3) := by decide +kernel
theorem dX12_init_340 : decode cX12_init 340 = .ok (.goto (-17), 3) := by decide +kernel
theorem dX12_init_343 : decode cX12_init 343 = .ok (.return_, 1) := by decide +kernel
theorem dX12_isTube_0 : decode cX12_isTube 0 = .ok (.iload_n 1, 1) := by decide +kernel
theorem dX12_isTube_1 : decode cX12_isTube 1 = .ok (.iconst 0, 1) := by decide +kernel
theorem dX12_isTube_2 : decode cX12_isTube 2 = .ok (.aload_n 0, 1) := by decide +kernel
theorem dX12_isTube_3 : decode cX12_isTube 3 = .ok (.getfield 92, 3) := by decide +kernel
theorem dX12_isTube_6 : decode cX12_isTube 6 = .ok (.iconst 1, 1) := by decide +kernel
theorem dX12_isTube_7 : decode cX12_isTube 7 = .ok (.isub, 1) := by decide +kernel
theorem dX12_isTube_8 : decode cX12_isTube 8 = .ok (.invokestatic 95, 3) := by decide +kernel
theorem dX12_isTube_11 : decode cX12_isTube 11 = .ok (.ireturn, 1) := by decide +kernel
theorem dX12_isBand_0 : decode cX12_isBand 0 = .ok (.iload_n 0, 1) := by decide +kernel
theorem dX12_isBand_1 : decode cX12_isBand 1 = .ok (.iconst 0, 1) := by decide +kernel
theorem dX12_isBand_2 : decode cX12_isBand 2 = .ok (.bipush 7, 2) := by decide +kernel
theorem dX12_isBand_4 : decode cX12_isBand 4 = .ok (.invokestatic 95, 3) := by decide +kernel
theorem dX12_isBand_7 : decode cX12_isBand 7 = .ok (.ireturn, 1) := by decide +kernel
theorem dX12_isLamp_0 : decode cX12_isLamp 0 = .ok (.iload_n 0, 1) := by decide +kernel
theorem dX12_isLamp_1 : decode cX12_isLamp 1 = .ok (.iconst 0, 1) := by decide +kernel
theorem dX12_isLamp_2 : decode cX12_isLamp 2 = .ok (.iconst 3, 1) := by decide +kernel
theorem dX12_isLamp_3 : decode cX12_isLamp 3 = .ok (.invokestatic 95, 3) := by decide +kernel
theorem dX12_isLamp_6 : decode cX12_isLamp 6 = .ok (.ireturn, 1) := by decide +kernel
theorem dX12_isSight_0 : decode cX12_isSight 0 = .ok (.iload_n 0, 1) := by decide +kernel
theorem dX12_isSight_1 : decode cX12_isSight 1 = .ok (.iconst 0, 1) := by decide +kernel
theorem dX12_isSight_2 : decode cX12_isSight 2 = .ok (.iconst 2, 1) := by decide +kernel
theorem dX12_isSight_3 : decode cX12_isSight 3 = .ok (.invokestatic 95, 3) := by decide +kernel
theorem dX12_isSight_6 : decode cX12_isSight 6 = .ok (.ireturn, 1) := by decide +kernel
theorem dX12_isPot_0 : decode cX12_isPot 0 = .ok (.iload_n 0, 1) := by decide +kernel
theorem dX12_isPot_1 : decode cX12_isPot 1 = .ok (.iconst 0, 1) := by decide +kernel
theorem dX12_isPot_2 : decode cX12_isPot 2 = .ok (.bipush 9, 2) := by decide +kernel
theorem dX12_isPot_4 : decode cX12_isPot 4 = .ok (.invokestatic 95, 3) := by decide +kernel
theorem dX12_isPot_7 : decode cX12_isPot 7 = .ok (.ireturn, 1) := by decide +kernel
theorem dX12_isArea_0 : decode cX12_isArea 0 = .ok (.iload_n 0, 1) := by decide +kernel
theorem dX12_isArea_1 : decode cX12_isArea 1 = .ok (.iconst 0, 1) := by decide +kernel
theorem dX12_isArea_2 : decode cX12_isArea 2 = .ok (.bipush 9, 2) := by decide +kernel
theorem dX12_isArea_4 : decode cX12_isArea 4 = .ok (.invokestatic 95, 3) := by decide +kernel
theorem dX12_isArea_7 : decode cX12_isArea 7 = .ok (.ireturn, 1) := by decide +kernel
theorem dX12_tube_0 : decode cX12_tube 0 = .ok (.iload_n 1, 1) := by decide +kernel
theorem dX12_tube_1 : decode cX12_tube 1 = .ok (.iconst 0, 1) := by decide +kernel
theorem dX12_tube_2 : decode cX12_tube 2 = .ok (.sipush 999, 3) := by decide +kernel
theorem dX12_tube_5 : decode cX12_tube 5 = .ok (.invokestatic 95, 3) := by decide +kernel
theorem dX12_tube_8 : decode cX12_tube 8 = .ok (.ifCond .eq 25, 3) := by decide +kernel
theorem dX12_tube_11 : decode cX12_tube 11 = .ok (.iload_n 2, 1) := by decide +kernel
theorem dX12_tube_12 : decode cX12_tube 12 = .ok (.iconst 0, 1) := by decide +kernel
theorem dX12_tube_13 : decode cX12_tube 13 = .ok (.sipush 999, 3) := by decide +kernel
theorem dX12_tube_16 : decode cX12_tube 16 = .ok (.invokestatic 95, 3) := by decide +kernel
theorem dX12_tube_19 : decode cX12_tube 19 = .ok (.ifCond .eq 14, 3) := by decide +kernel
theorem dX12_tube_22 : decode cX12_tube 22 = .ok (.iload_n 3, 1) := by decide +kernel
theorem dX12_tube_23 : decode cX12_tube 23 = .ok (.iconst 0, 1) := by decide +kernel
theorem dX12_tube_24 : decode cX12_tube 24 = .ok (.sipush 9999, 3) := by decide +kernel
theorem dX12_tube_27 : decode cX12_tube 27 = .ok (.invokestatic 95, 3) := by decide +kernel
theorem dX12_tube_30 : decode cX12_tube 30 = .ok (.ifCond .ne 5, 3) := by decide +kernel
theorem dX12_tube_33 : decode cX12_tube 33 = .ok (.iconst (-1), 1) := by decide +kernel
theorem dX12_tube_34 : decode cX12_tube 34 = .ok (.ireturn, 1) := by decide +kernel
theorem dX12_tube_35 : decode cX12_tube 35 = .ok (.aload_n 0, 1) := by decide +kernel
