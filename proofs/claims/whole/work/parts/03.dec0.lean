theorem dX0_init_0 : decode cX0_init 0 = .ok (.aload_n 0, 1) := by decide +kernel
theorem dX0_init_1 : decode cX0_init 1 = .ok (.invokespecial 3, 3) := by decide +kernel
theorem dX0_init_4 : decode cX0_init 4 = .ok (.aload_n 0, 1) := by decide +kernel
theorem dX0_init_5 : decode cX0_init 5 = .ok (.bipush 10, 2) := by decide +kernel
theorem dX0_init_7 : decode cX0_init 7 = .ok (.anewarray 9, 3) := by decide +kernel
theorem dX0_init_10 : decode cX0_init 10 = .ok (.putfield 11, 3) := by decide +kernel
theorem dX0_init_13 : decode cX0_init 13 = .ok (.aload_n 0, 1) := by decide +kernel
theorem dX0_init_14 : decode cX0_init 14 = .ok (.iconst 0, 1) := by decide +kernel
theorem dX0_init_15 : decode cX0_init 15 = .ok (.putfield 17, 3) := by decide +kernel
theorem dX0_init_18 : decode cX0_init 18 = .ok (.aload_n 0, 1) := by decide +kernel
theorem dX0_init_19 : decode cX0_init 19 = .ok (.sipush 9000, 3) := by decide +kernel
theorem dX0_init_22 : decode cX0_init 22 = .ok (.putfield 21, 3) := by decide +kernel
theorem dX0_init_25 : decode cX0_init 25 = .ok (.return_, 1) := by decide +kernel
theorem dX0_isFull_0 : decode cX0_isFull 0 = .ok (.aload_n 0, 1) := by decide +kernel
theorem dX0_isFull_1 : decode cX0_isFull 1 = .ok (.getfield 17, 3) := by decide +kernel
theorem dX0_isFull_4 : decode cX0_isFull 4 = .ok (.bipush 10, 2) := by decide +kernel
theorem dX0_isFull_6 : decode cX0_isFull 6 = .ok (.if_icmp .lt 7, 3) := by decide +kernel
theorem dX0_isFull_9 : decode cX0_isFull 9 = .ok (.iconst 1, 1) := by decide +kernel
theorem dX0_isFull_10 : decode cX0_isFull 10 = .ok (.goto 4, 3) := by decide +kernel
theorem dX0_isFull_13 : decode cX0_isFull 13 = .ok (.iconst 0, 1) := by decide +kernel
theorem dX0_isFull_14 : decode cX0_isFull 14 = .ok (.ireturn, 1) := by decide +kernel
theorem dX0_add_0 : decode cX0_add 0 = .ok (.aload_n 0, 1) := by decide +kernel
theorem dX0_add_1 : decode cX0_add 1 = .ok (.invokevirtual 24, 3) := by decide +kernel
theorem dX0_add_4 : decode cX0_add 4 = .ok (.ifCond .ne 23, 3) := by decide +kernel
theorem dX0_add_7 : decode cX0_add 7 = .ok (.aload_n 0, 1) := by decide +kernel
theorem dX0_add_8 : decode cX0_add 8 = .ok (.getfield 11, 3) := by decide +kernel
theorem dX0_add_11 : decode cX0_add 11 = .ok (.aload_n 0, 1) := by decide +kernel
theorem dX0_add_12 : decode cX0_add 12 = .ok (.getfield 17, 3) := by decide +kernel
theorem dX0_add_15 : decode cX0_add 15 = .ok (.aload_n 1, 1) := by decide +kernel
theorem dX0_add_16 : decode cX0_add 16 = .ok (.aastore, 1) := by decide +kernel
theorem dX0_add_17 : decode cX0_add 17 = .ok (.aload_n 0, 1) := by decide +kernel
theorem dX0_add_18 : decode cX0_add 18 = .ok (.dup, 1) := by decide +kernel
theorem dX0_add_19 : decode cX0_add 19 = .ok (.getfield 17, 3) := by decide +kernel
theorem dX0_add_22 : decode cX0_add 22 = .ok (.iconst 1, 1) := by decide +kernel
theorem dX0_add_23 : decode cX0_add 23 = .ok (.iadd, 1) := by decide +kernel
theorem dX0_add_24 : decode cX0_add 24 = .ok (.putfield 17, 3) := by decide +kernel
theorem dX0_add_27 : decode cX0_add 27 = .ok (.return_, 1) := by decide +kernel
theorem dX0_sentBack_0 : decode cX0_sentBack 0 = .ok (.aload_n 0, 1) := by decide +kernel
theorem dX0_sentBack_1 : decode cX0_sentBack 1 = .ok (.getfield 21, 3) := by decide +kernel
theorem dX0_sentBack_4 : decode cX0_sentBack 4 = .ok (.istore 4, 2) := by decide +kernel
theorem dX0_sentBack_6 : decode cX0_sentBack 6 = .ok (.iconst 0, 1) := by decide +kernel
theorem dX0_sentBack_7 : decode cX0_sentBack 7 = .ok (.istore 5, 2) := by decide +kernel
theorem dX0_sentBack_9 : decode cX0_sentBack 9 = .ok (.iload 5, 2) := by decide +kernel
theorem dX0_sentBack_11 : decode cX0_sentBack 11 = .ok (.aload_n 0, 1) := by decide +kernel
theorem dX0_sentBack_12 : decode cX0_sentBack 12 = .ok (.getfield 17, 3) := by decide +kernel
theorem dX0_sentBack_15 : decode cX0_sentBack 15 = .ok (.if_icmp .ge 26, 3) := by decide +kernel
theorem dX0_sentBack_18 : decode cX0_sentBack 18 = .ok (.aload_n 0, 1) := by decide +kernel
theorem dX0_sentBack_19 : decode cX0_sentBack 19 = .ok (.getfield 11, 3) := by decide +kernel
theorem dX0_sentBack_22 : decode cX0_sentBack 22 = .ok (.iload 5, 2) := by decide +kernel
theorem dX0_sentBack_24 : decode cX0_sentBack 24 = .ok (.aaload, 1) := by decide +kernel
theorem dX0_sentBack_25 : decode cX0_sentBack 25 = .ok (.aload_n 1, 1) := by decide +kernel
theorem dX0_sentBack_26 : decode cX0_sentBack 26 = .ok (.iload_n 2, 1) := by decide +kernel
theorem dX0_sentBack_27 : decode cX0_sentBack 27 = .ok (.iload_n 3, 1) := by decide +kernel
theorem dX0_sentBack_28 : decode cX0_sentBack 28 = .ok (.iload 4, 2) := by decide +kernel
theorem dX0_sentBack_30 : decode cX0_sentBack 30 = .ok (.invokevirtual 28, 3) := by decide +kernel
theorem dX0_sentBack_33 : decode cX0_sentBack 33 = .ok (.istore 4, 2) := by decide +kernel
theorem dX0_sentBack_35 : decode cX0_sentBack 35 = .ok (.iinc 5 1, 3) := by decide +kernel
theorem dX0_sentBack_38 : decode cX0_sentBack 38 = .ok (.goto (-29), 3) := by decide +kernel
theorem dX0_sentBack_41 : decode cX0_sentBack 41 = .ok (.iload 4, 2) := by decide +kernel
theorem dX0_sentBack_43 : decode cX0_sentBack 43 = .ok (.ireturn, 1) := by decide +kernel
theorem dX1_init_0 : decode cX1_init 0 = .ok (.aload_n 0, 1) := by decide +kernel
theorem dX1_init_1 : decode cX1_init 1 = .ok (.invokespecial 3, 3) := by decide +kernel
theorem dX1_init_4 : decode cX1_init 4 = .ok (.aload_n 0, 1) := by decide +kernel
theorem dX1_init_5 : decode cX1_init 5 = .ok (.iconst 0, 1) := by decide +kernel
theorem dX1_init_6 : decode cX1_init 6 = .ok (.newarray .int, 2) := by decide +kernel
theorem dX1_init_8 : decode cX1_init 8 = .ok (.putfield 9, 3) := by decide +kernel
theorem dX1_init_11 : decode cX1_init 11 = .ok (.aload_n 0, 1) := by decide +kernel
theorem dX1_init_12 : decode cX1_init 12 = .ok (.bipush 6, 2) := by decide +kernel
theorem dX1_init_14 : decode cX1_init 14 = .ok (.iconst 3, 1) := by decide +kernel
theorem dX1_init_15 : decode cX1_init 15 = .ok (.multianewarray 15 2, 4) := by decide +kernel
theorem dX1_init_19 : decode cX1_init 19 = .ok (.putfield 17, 3) := by decide +kernel
theorem dX1_init_22 : decode cX1_init 22 = .ok (.aload_n 0, 1) := by decide +kernel
theorem dX1_init_23 : decode cX1_init 23 = .ok (.iconst 0, 1) := by decide +kernel
theorem dX1_init_24 : decode cX1_init 24 = .ok (.putfield 20, 3) := by decide +kernel
theorem dX1_init_27 : decode cX1_init 27 = .ok (.aload_n 0, 1) := by decide +kernel
theorem dX1_init_28 : decode cX1_init 28 = .ok (.iconst 0, 1) := by decide +kernel
theorem dX1_init_29 : decode cX1_init 29 = .ok (.putfield 24, 3) := by decide +kernel
theorem dX1_init_32 : decode cX1_init 32 = .ok (.aload_n 0, 1) := by decide +kernel
theorem dX1_init_33 : decode cX1_init 33 = .ok (.iconst 0, 1) := by decide +kernel
theorem dX1_init_34 : decode cX1_init 34 = .ok (.putfield 27, 3) := by decide +kernel
theorem dX1_init_37 : decode cX1_init 37 = .ok (.return_, 1) := by decide +kernel
theorem dX1_aimAt_0 : decode cX1_aimAt 0 = .ok (.aload_n 0, 1) := by decide +kernel
theorem dX1_aimAt_1 : decode cX1_aimAt 1 = .ok (.iload_n 2, 1) := by decide +kernel
theorem dX1_aimAt_2 : decode cX1_aimAt 2 = .ok (.putfield 20, 3) := by decide +kernel
theorem dX1_aimAt_5 : decode cX1_aimAt 5 = .ok (.aload_n 0, 1) := by decide +kernel
theorem dX1_aimAt_6 : decode cX1_aimAt 6 = .ok (.iconst 1, 1) := by decide +kernel
theorem dX1_aimAt_7 : decode cX1_aimAt 7 = .ok (.iload_n 2, 1) := by decide +kernel
theorem dX1_aimAt_8 : decode cX1_aimAt 8 = .ok (.ishl, 1) := by decide +kernel
theorem dX1_aimAt_9 : decode cX1_aimAt 9 = .ok (.iconst 1, 1) := by decide +kernel
theorem dX1_aimAt_10 : decode cX1_aimAt 10 = .ok (.isub, 1) := by decide +kernel
theorem dX1_aimAt_11 : decode cX1_aimAt 11 = .ok (.putfield 24, 3) := by decide +kernel
theorem dX1_aimAt_14 : decode cX1_aimAt 14 = .ok (.aload_n 0, 1) := by decide +kernel
theorem dX1_aimAt_15 : decode cX1_aimAt 15 = .ok (.iload_n 3, 1) := by decide +kernel
theorem dX1_aimAt_16 : decode cX1_aimAt 16 = .ok (.putfield 27, 3) := by decide +kernel
theorem dX1_aimAt_19 : decode cX1_aimAt 19 = .ok (.iconst 0, 1) := by decide +kernel
theorem dX1_aimAt_20 : decode cX1_aimAt 20 = .ok (.istore 4, 2) := by decide +kernel
theorem dX1_aimAt_22 : decode cX1_aimAt 22 = .ok (.iload 4, 2) := by decide +kernel
theorem dX1_aimAt_24 : decode cX1_aimAt 24 = .ok (.iload_n 2, 1) := by decide +kernel
theorem dX1_aimAt_25 : decode cX1_aimAt 25 = .ok (.if_icmp .ge 26, 3) := by decide +kernel
theorem dX1_aimAt_28 : decode cX1_aimAt 28 = .ok (.aload_n 1, 1) := by decide +kernel
theorem dX1_aimAt_29 : decode cX1_aimAt 29 = .ok (.iload 4, 2) := by decide +kernel
theorem dX1_aimAt_31 : decode cX1_aimAt 31 = .ok (.aaload, 1) := by decide +kernel
theorem dX1_aimAt_32 : decode cX1_aimAt 32 = .ok (.iconst 0, 1) := by decide +kernel
theorem dX1_aimAt_33 : decode cX1_aimAt 33 = .ok (.aload_n 0, 1) := by decide +kernel
theorem dX1_aimAt_34 : decode cX1_aimAt 34 = .ok (.getfield 17, 3) := by decide +kernel
theorem dX1_aimAt_37 : decode cX1_aimAt 37 = .ok (.iload 4, 2) := by decide +kernel
theorem dX1_aimAt_39 : decode cX1_aimAt 39 = .ok (.aaload, 1) := by decide +kernel
theorem dX1_aimAt_40 : decode cX1_aimAt 40 = .ok (.iconst 0, 1) := by decide +kernel
theorem dX1_aimAt_41 : decode cX1_aimAt 41 = .ok (.iconst 3, 1) := by decide +kernel
theorem dX1_aimAt_42 : decode cX1_aimAt 42 = .ok (.invokestatic 30, 3) := by decide +kernel
theorem dX1_aimAt_45 : decode cX1_aimAt 45 = .ok (.iinc 4 1, 3) := by decide +kernel
theorem dX1_aimAt_48 : decode cX1_aimAt 48 = .ok (.goto (-26), 3) := by decide +kernel
theorem dX1_aimAt_51 : decode cX1_aimAt 51 = .ok (.return_, 1) := by decide +kernel
theorem dX1_fewestOf_0 : decode cX1_fewestOf 0 = .ok (.aload_n 0, 1) := by decide +kernel
theorem dX1_fewestOf_1 : decode cX1_fewestOf 1 = .ok (.getfield 9, 3) := by decide +kernel
theorem dX1_fewestOf_4 : decode cX1_fewestOf 4 = .ok (.arraylength, 1) := by decide +kernel
theorem dX1_fewestOf_5 : decode cX1_fewestOf 5 = .ok (.ifCond .ne 12, 3) := by decide +kernel
theorem dX1_fewestOf_8 : decode cX1_fewestOf 8 = .ok (.aload_n 0, 1) := by decide +kernel
theorem dX1_fewestOf_9 : decode cX1_fewestOf 9 = .ok (.sipush 4096, 3) := by decide +kernel
theorem dX1_fewestOf_12 : decode cX1_fewestOf 12 = .ok (.newarray .int, 2) := by decide +kernel
theorem dX1_fewestOf_14 : decode cX1_fewestOf 14 = .ok (.putfield 9, 3) := by decide +kernel
theorem dX1_fewestOf_17 : decode cX1_fewestOf 17 = .ok (.aload_n 0, 1) := by decide +kernel
theorem dX1_fewestOf_18 : decode cX1_fewestOf 18 = .ok (.getfield 9, 3) := by decide +kernel
theorem dX1_fewestOf_21 : decode cX1_fewestOf 21 = .ok (.iconst 0, 1) := by decide +kernel
theorem dX1_fewestOf_22 : decode cX1_fewestOf 22 = .ok (.invokestatic 36, 3) := by decide +kernel
theorem dX1_fewestOf_25 : decode cX1_fewestOf 25 = .ok (.iconst 1, 1) := by decide +kernel
theorem dX1_fewestOf_26 : decode cX1_fewestOf 26 = .ok (.aload_n 1, 1) := by decide +kernel
theorem dX1_fewestOf_27 : decode cX1_fewestOf 27 = .ok (.getfield 42, 3) := by decide +kernel
theorem dX1_fewestOf_30 : decode cX1_fewestOf 30 = .ok (.ishl, 1) := by decide +kernel
theorem dX1_fewestOf_31 : decode cX1_fewestOf 31 = .ok (.istore 4, 2) := by decide +kernel
theorem dX1_fewestOf_33 : decode cX1_fewestOf 33 = .ok (.aload_n 0, 1) := by decide +kernel
theorem dX1_fewestOf_34 : decode cX1_fewestOf 34 = .ok (.aload_n 1, 1) := by decide +kernel
theorem dX1_fewestOf_35 : decode cX1_fewestOf 35 = .ok (.aload_n 2, 1) := by decide +kernel
theorem dX1_fewestOf_36 : decode cX1_fewestOf 36 = .ok (.iload 4, 2) := by decide +kernel
theorem dX1_fewestOf_38 : decode cX1_fewestOf 38 = .ok (.iconst 1, 1) := by decide +kernel
theorem dX1_fewestOf_39 : decode cX1_fewestOf 39 = .ok (.isub, 1) := by decide +kernel
theorem dX1_fewestOf_40 : decode cX1_fewestOf 40 = .ok (.iload_n 3, 1) := by decide +kernel
theorem dX1_fewestOf_41 : decode cX1_fewestOf 41 = .ok (.invokevirtual 47, 3) := by decide +kernel
theorem dX1_fewestOf_44 : decode cX1_fewestOf 44 = .ok (.aload_n 0, 1) := by decide +kernel
theorem dX1_fewestOf_45 : decode cX1_fewestOf 45 = .ok (.iload 4, 2) := by decide +kernel
theorem dX1_fewestOf_47 : decode cX1_fewestOf 47 = .ok (.invokevirtual 51, 3) := by decide +kernel
theorem dX1_fewestOf_50 : decode cX1_fewestOf 50 = .ok (.aload_n 0, 1) := by decide +kernel
theorem dX1_fewestOf_51 : decode cX1_fewestOf 51 = .ok (.iload 4, 2) := by decide +kernel
theorem dX1_fewestOf_53 : decode cX1_fewestOf 53 = .ok (.invokevirtual 55, 3) := by decide +kernel
theorem dX1_fewestOf_56 : decode cX1_fewestOf 56 = .ok (.ireturn, 1) := by decide +kernel
theorem dX1_weigh_0 : decode cX1_weigh 0 = .ok (.aload_n 0, 1) := by decide +kernel
theorem dX1_weigh_1 : decode cX1_weigh 1 = .ok (.invokevirtual 59, 3) := by decide +kernel
theorem dX1_weigh_4 : decode cX1_weigh 4 = .ok (.istore_n 2, 1) := by decide +kernel
theorem dX1_weigh_5 : decode cX1_weigh 5 = .ok (.aload_n 0, 1) := by decide +kernel
theorem dX1_weigh_6 : decode cX1_weigh 6 = .ok (.getfield 9, 3) := by decide +kernel
theorem dX1_weigh_9 : decode cX1_weigh 9 = .ok (.iload_n 2, 1) := by decide +kernel
theorem dX1_weigh_10 : decode cX1_weigh 10 = .ok (.iaload, 1) := by decide +kernel
theorem dX1_weigh_11 : decode cX1_weigh 11 = .ok (.aload_n 0, 1) := by decide +kernel
theorem dX1_weigh_12 : decode cX1_weigh 12 = .ok (.getfield 24, 3) := by decide +kernel
theorem dX1_weigh_15 : decode cX1_weigh 15 = .ok (.if_icmp .ne 4, 3) := by decide +kernel
theorem dX1_weigh_18 : decode cX1_weigh 18 = .ok (.return_, 1) := by decide +kernel
theorem dX1_weigh_19 : decode cX1_weigh 19 = .ok (.aload_n 0, 1) := by decide +kernel
theorem dX1_weigh_20 : decode cX1_weigh 20 = .ok (.aload_n 1, 1) := by decide +kernel
theorem dX1_weigh_21 : decode cX1_weigh 21 = .ok (.iconst 0, 1) := by decide +kernel
theorem dX1_weigh_22 : decode cX1_weigh 22 = .ok (.invokevirtual 63, 3) := by decide +kernel
theorem dX1_weigh_25 : decode cX1_weigh 25 = .ok (.istore_n 3, 1) := by decide +kernel
theorem dX1_weigh_26 : decode cX1_weigh 26 = .ok (.aload_n 0, 1) := by decide +kernel
theorem dX1_weigh_27 : decode cX1_weigh 27 = .ok (.aload_n 1, 1) := by decide +kernel
theorem dX1_weigh_28 : decode cX1_weigh 28 = .ok (.iconst 1, 1) := by decide +kernel
theorem dX1_weigh_29 : decode cX1_weigh 29 = .ok (.invokevirtual 63, 3) := by decide +kernel
theorem dX1_weigh_32 : decode cX1_weigh 32 = .ok (.istore 4, 2) := by decide +kernel
theorem dX1_weigh_34 : decode cX1_weigh 34 = .ok (.aload_n 0, 1) := by decide +kernel
theorem dX1_weigh_35 : decode cX1_weigh 35 = .ok (.aload_n 1, 1) := by decide +kernel
theorem dX1_weigh_36 : decode cX1_weigh 36 = .ok (.iconst 2, 1) := by decide +kernel
theorem dX1_weigh_37 : decode cX1_weigh 37 = .ok (.invokevirtual 63, 3) := by decide +kernel
theorem dX1_weigh_40 : decode cX1_weigh 40 = .ok (.istore 5, 2) := by decide +kernel
theorem dX1_weigh_42 : decode cX1_weigh 42 = .ok (.iconst 0, 1) := by decide +kernel
theorem dX1_weigh_43 : decode cX1_weigh 43 = .ok (.istore 6, 2) := by decide +kernel
theorem dX1_weigh_45 : decode cX1_weigh 45 = .ok (.iload 6, 2) := by decide +kernel
theorem dX1_weigh_47 : decode cX1_weigh 47 = .ok (.aload_n 0, 1) := by decide +kernel
theorem dX1_weigh_48 : decode cX1_weigh 48 = .ok (.getfield 20, 3) := by decide +kernel
theorem dX1_weigh_51 : decode cX1_weigh 51 = .ok (.if_icmp .ge 69, 3) := by decide +kernel
theorem dX1_weigh_54 : decode cX1_weigh 54 = .ok (.aload_n 0, 1) := by decide +kernel
theorem dX1_weigh_55 : decode cX1_weigh 55 = .ok (.getfield 17, 3) := by decide +kernel
theorem dX1_weigh_58 : decode cX1_weigh 58 = .ok (.iload 6, 2) := by decide +kernel
theorem dX1_weigh_60 : decode cX1_weigh 60 = .ok (.aaload, 1) := by decide +kernel
theorem dX1_weigh_61 : decode cX1_weigh 61 = .ok (.astore 7, 2) := by decide +kernel
theorem dX1_weigh_63 : decode cX1_weigh 63 = .ok (.iload_n 3, 1) := by decide +kernel
theorem dX1_weigh_64 : decode cX1_weigh 64 = .ok (.aload 7, 2) := by decide +kernel
theorem dX1_weigh_66 : decode cX1_weigh 66 = .ok (.iconst 0, 1) := by decide +kernel
theorem dX1_weigh_67 : decode cX1_weigh 67 = .ok (.iaload, 1) := by decide +kernel
theorem dX1_weigh_68 : decode cX1_weigh 68 = .ok (.isub, 1) := by decide +kernel
theorem dX1_weigh_69 : decode cX1_weigh 69 = .ok (.invokestatic 67, 3) := by decide +kernel
theorem dX1_weigh_72 : decode cX1_weigh 72 = .ok (.iload 4, 2) := by decide +kernel
theorem dX1_weigh_74 : decode cX1_weigh 74 = .ok (.aload 7, 2) := by decide +kernel
theorem dX1_weigh_76 : decode cX1_weigh 76 = .ok (.iconst 1, 1) := by decide +kernel
theorem dX1_weigh_77 : decode cX1_weigh 77 = .ok (.iaload, 1) := by decide +kernel
theorem dX1_weigh_78 : decode cX1_weigh 78 = .ok (.isub, 1) := by decide +kernel
theorem dX1_weigh_79 : decode cX1_weigh 79 = .ok (.invokestatic 67, 3) := by decide +kernel
theorem dX1_weigh_82 : decode cX1_weigh 82 = .ok (.iadd, 1) := by decide +kernel
theorem dX1_weigh_83 : decode cX1_weigh 83 = .ok (.iload 5, 2) := by decide +kernel
theorem dX1_weigh_85 : decode cX1_weigh 85 = .ok (.aload 7, 2) := by decide +kernel
theorem dX1_weigh_87 : decode cX1_weigh 87 = .ok (.iconst 2, 1) := by decide +kernel
theorem dX1_weigh_88 : decode cX1_weigh 88 = .ok (.iaload, 1) := by decide +kernel
theorem dX1_weigh_89 : decode cX1_weigh 89 = .ok (.isub, 1) := by decide +kernel
theorem dX1_weigh_90 : decode cX1_weigh 90 = .ok (.invokestatic 67, 3) := by decide +kernel
theorem dX1_weigh_93 : decode cX1_weigh 93 = .ok (.iadd, 1) := by decide +kernel
theorem dX1_weigh_94 : decode cX1_weigh 94 = .ok (.aload_n 0, 1) := by decide +kernel
theorem dX1_weigh_95 : decode cX1_weigh 95 = .ok (.getfield 27, 3) := by decide +kernel
theorem dX1_weigh_98 : decode cX1_weigh 98 = .ok (.if_icmp .gt 16, 3) := by decide +kernel
theorem dX1_weigh_101 : decode cX1_weigh 101 = .ok (.aload_n 0, 1) := by decide +kernel
theorem dX1_weigh_102 : decode cX1_weigh 102 = .ok (.getfield 9, 3) := by decide +kernel
theorem dX1_weigh_105 : decode cX1_weigh 105 = .ok (.iload_n 2, 1) := by decide +kernel
theorem dX1_weigh_106 : decode cX1_weigh 106 = .ok (.dup2, 1) := by decide +kernel
theorem dX1_weigh_107 : decode cX1_weigh 107 = .ok (.iaload, 1) := by decide +kernel
theorem dX1_weigh_108 : decode cX1_weigh 108 = .ok (.iconst 1, 1) := by decide +kernel
theorem dX1_weigh_109 : decode cX1_weigh 109 = .ok (.iload 6, 2) := by decide +kernel
theorem dX1_weigh_111 : decode cX1_weigh 111 = .ok (.ishl, 1) := by decide +kernel
theorem dX1_weigh_112 : decode cX1_weigh 112 = .ok (.ior, 1) := by decide +kernel
theorem dX1_weigh_113 : decode cX1_weigh 113 = .ok (.iastore, 1) := by decide +kernel
theorem dX1_weigh_114 : decode cX1_weigh 114 = .ok (.iinc 6 1, 3) := by decide +kernel
theorem dX1_weigh_117 : decode cX1_weigh 117 = .ok (.goto (-72), 3) := by decide +kernel
theorem dX1_weigh_120 : decode cX1_weigh 120 = .ok (.return_, 1) := by decide +kernel
theorem dX1_passOn_0 : decode cX1_passOn 0 = .ok (.iconst 0, 1) := by decide +kernel
theorem dX1_passOn_1 : decode cX1_passOn 1 = .ok (.istore_n 2, 1) := by decide +kernel
theorem dX1_passOn_2 : decode cX1_passOn 2 = .ok (.iload_n 2, 1) := by decide +kernel
theorem dX1_passOn_3 : decode cX1_passOn 3 = .ok (.bipush 12, 2) := by decide +kernel
theorem dX1_passOn_5 : decode cX1_passOn 5 = .ok (.if_icmp .ge 54, 3) := by decide +kernel
theorem dX1_passOn_8 : decode cX1_passOn 8 = .ok (.iconst 1, 1) := by decide +kernel
theorem dX1_passOn_9 : decode cX1_passOn 9 = .ok (.iload_n 2, 1) := by decide +kernel
theorem dX1_passOn_10 : decode cX1_passOn 10 = .ok (.ishl, 1) := by decide +kernel
theorem dX1_passOn_11 : decode cX1_passOn 11 = .ok (.istore_n 3, 1) := by decide +kernel
theorem dX1_passOn_12 : decode cX1_passOn 12 = .ok (.iconst 0, 1) := by decide +kernel
theorem dX1_passOn_13 : decode cX1_passOn 13 = .ok (.istore 4, 2) := by decide +kernel
theorem dX1_passOn_15 : decode cX1_passOn 15 = .ok (.iload 4, 2) := by decide +kernel
theorem dX1_passOn_17 : decode cX1_passOn 17 = .ok (.iload_n 1, 1) := by decide +kernel
theorem dX1_passOn_18 : decode cX1_passOn 18 = .ok (.if_icmp .ge 35, 3) := by decide +kernel
theorem dX1_passOn_21 : decode cX1_passOn 21 = .ok (.iload 4, 2) := by decide +kernel
theorem dX1_passOn_23 : decode cX1_passOn 23 = .ok (.iload_n 3, 1) := by decide +kernel
theorem dX1_passOn_24 : decode cX1_passOn 24 = .ok (.iand, 1) := by decide +kernel
theorem dX1_passOn_25 : decode cX1_passOn 25 = .ok (.ifCond .eq 22, 3) := by decide +kernel
theorem dX1_passOn_28 : decode cX1_passOn 28 = .ok (.aload_n 0, 1) := by decide +kernel
theorem dX1_passOn_29 : decode cX1_passOn 29 = .ok (.getfield 9, 3) := by decide +kernel
theorem dX1_passOn_32 : decode cX1_passOn 32 = .ok (.iload 4, 2) := by decide +kernel
theorem dX1_passOn_34 : decode cX1_passOn 34 = .ok (.dup2, 1) := by decide +kernel
theorem dX1_passOn_35 : decode cX1_passOn 35 = .ok (.iaload, 1) := by decide +kernel
theorem dX1_passOn_36 : decode cX1_passOn 36 = .ok (.aload_n 0, 1) := by decide +kernel
theorem dX1_passOn_37 : decode cX1_passOn 37 = .ok (.getfield 9, 3) := by decide +kernel
theorem dX1_passOn_40 : decode cX1_passOn 40 = .ok (.iload 4, 2) := by decide +kernel
theorem dX1_passOn_42 : decode cX1_passOn 42 = .ok (.iload_n 3, 1) := by decide +kernel
theorem dX1_passOn_43 : decode cX1_passOn 43 = .ok (.ixor, 1) := by decide +kernel
theorem dX1_passOn_44 : decode cX1_passOn 44 = .ok (.iaload, 1) := by decide +kernel
theorem dX1_passOn_45 : decode cX1_passOn 45 = .ok (.ior, 1) := by decide +kernel
theorem dX1_passOn_46 : decode cX1_passOn 46 = .ok (.iastore, 1) := by decide +kernel
theorem dX1_passOn_47 : decode cX1_passOn 47 = .ok (.iinc 4 1, 3) := by decide +kernel
theorem dX1_passOn_50 : decode cX1_passOn 50 = .ok (.goto (-35), 3) := by decide +kernel
theorem dX1_passOn_53 : decode cX1_passOn 53 = .ok (.iinc 2 1, 3) := by decide +kernel
theorem dX1_passOn_56 : decode cX1_passOn 56 = .ok (.goto (-54), 3) := by decide +kernel
theorem dX1_passOn_59 : decode cX1_passOn 59 = .ok (.return_, 1) := by decide +kernel
theorem dX1_leastOf_0 : decode cX1_leastOf 0 = .ok (.bipush (-2), 2) := by decide +kernel
theorem dX1_leastOf_2 : decode cX1_leastOf 2 = .ok (.istore_n 2, 1) := by decide +kernel
theorem dX1_leastOf_3 : decode cX1_leastOf 3 = .ok (.bipush 13, 2) := by decide +kernel
theorem dX1_leastOf_5 : decode cX1_leastOf 5 = .ok (.istore_n 3, 1) := by decide +kernel
theorem dX1_leastOf_6 : decode cX1_leastOf 6 = .ok (.iconst 1, 1) := by decide +kernel
theorem dX1_leastOf_7 : decode cX1_leastOf 7 = .ok (.istore 4, 2) := by decide +kernel
theorem dX1_leastOf_9 : decode cX1_leastOf 9 = .ok (.iload 4, 2) := by decide +kernel
theorem dX1_leastOf_11 : decode cX1_leastOf 11 = .ok (.iload_n 1, 1) := by decide +kernel
theorem dX1_leastOf_12 : decode cX1_leastOf 12 = .ok (.if_icmp .ge 41, 3) := by decide +kernel
theorem dX1_leastOf_15 : decode cX1_leastOf 15 = .ok (.aload_n 0, 1) := by decide +kernel
theorem dX1_leastOf_16 : decode cX1_leastOf 16 = .ok (.getfield 9, 3) := by decide +kernel
theorem dX1_leastOf_19 : decode cX1_leastOf 19 = .ok (.iload 4, 2) := by decide +kernel
theorem dX1_leastOf_21 : decode cX1_leastOf 21 = .ok (.iaload, 1) := by decide +kernel
theorem dX1_leastOf_22 : decode cX1_leastOf 22 = .ok (.aload_n 0, 1) := by decide +kernel
theorem dX1_leastOf_23 : decode cX1_leastOf 23 = .ok (.getfield 24, 3) := by decide +kernel
theorem dX1_leastOf_26 : decode cX1_leastOf 26 = .ok (.if_icmp .ne 21, 3) := by decide +kernel
theorem dX1_leastOf_29 : decode cX1_leastOf 29 = .ok (.iload 4, 2) := by decide +kernel
theorem dX1_leastOf_31 : decode cX1_leastOf 31 = .ok (.invokestatic 72, 3) := by decide +kernel
theorem dX1_leastOf_34 : decode cX1_leastOf 34 = .ok (.iload_n 3, 1) := by decide +kernel
theorem dX1_leastOf_35 : decode cX1_leastOf 35 = .ok (.if_icmp .ge 12, 3) := by decide +kernel
theorem dX1_leastOf_38 : decode cX1_leastOf 38 = .ok (.iload 4, 2) := by decide +kernel
theorem dX1_leastOf_40 : decode cX1_leastOf 40 = .ok (.istore_n 2, 1) := by decide +kernel
theorem dX1_leastOf_41 : decode cX1_leastOf 41 = .ok (.iload 4, 2) := by decide +kernel
theorem dX1_leastOf_43 : decode cX1_leastOf 43 = .ok (.invokestatic 72, 3) := by decide +kernel
theorem dX1_leastOf_46 : decode cX1_leastOf 46 = .ok (.istore_n 3, 1) := by decide +kernel
theorem dX1_leastOf_47 : decode cX1_leastOf 47 = .ok (.iinc 4 1, 3) := by decide +kernel
theorem dX1_leastOf_50 : decode cX1_leastOf 50 = .ok (.goto (-41), 3) := by decide +kernel
theorem dX1_leastOf_53 : decode cX1_leastOf 53 = .ok (.iload_n 2, 1) := by decide +kernel
theorem dX1_leastOf_54 : decode cX1_leastOf 54 = .ok (.ireturn, 1) := by decide +kernel
theorem dX2_init_0 : decode cX2_init 0 = .ok (.aload_n 0, 1) := by decide +kernel
theorem dX2_init_1 : decode cX2_init 1 = .ok (.invokespecial 3, 3) := by decide +kernel
theorem dX2_init_4 : decode cX2_init 4 = .ok (.aload_n 0, 1) := by decide +kernel
theorem dX2_init_5 : decode cX2_init 5 = .ok (.iconst 0, 1) := by decide +kernel
theorem dX2_init_6 : decode cX2_init 6 = .ok (.putfield 9, 3) := by decide +kernel
theorem dX2_init_9 : decode cX2_init 9 = .ok (.aload_n 0, 1) := by decide +kernel
theorem dX2_init_10 : decode cX2_init 10 = .ok (.iconst 0, 1) := by decide +kernel
theorem dX2_init_11 : decode cX2_init 11 = .ok (.putfield 15, 3) := by decide +kernel
theorem dX2_init_14 : decode cX2_init 14 = .ok (.aload_n 0, 1) := by decide +kernel
theorem dX2_init_15 : decode cX2_init 15 = .ok (.iconst 3, 1) := by decide +kernel
theorem dX2_init_16 : decode cX2_init 16 = .ok (.newarray .int, 2) := by decide +kernel
theorem dX2_init_18 : decode cX2_init 18 = .ok (.putfield 18, 3) := by decide +kernel
theorem dX2_init_21 : decode cX2_init 21 = .ok (.aload_n 0, 1) := by decide +kernel
theorem dX2_init_22 : decode cX2_init 22 = .ok (.iconst 3, 1) := by decide +kernel
theorem dX2_init_23 : decode cX2_init 23 = .ok (.newarray .int, 2) := by decide +kernel
theorem dX2_init_25 : decode cX2_init 25 = .ok (.putfield 22, 3) := by decide +kernel
theorem dX2_init_28 : decode cX2_init 28 = .ok (.aload_n 0, 1) := by decide +kernel
theorem dX2_init_29 : decode cX2_init 29 = .ok (.bipush 12, 2) := by decide +kernel
theorem dX2_init_31 : decode cX2_init 31 = .ok (.bipush 8, 2) := by decide +kernel
theorem dX2_init_33 : decode cX2_init 33 = .ok (.multianewarray 25 2, 4) := by decide +kernel
theorem dX2_init_37 : decode cX2_init 37 = .ok (.putfield 27, 3) := by decide +kernel
theorem dX2_init_40 : decode cX2_init 40 = .ok (.aload_n 0, 1) := by decide +kernel
theorem dX2_init_41 : decode cX2_init 41 = .ok (.bipush 12, 2) := by decide +kernel
theorem dX2_init_43 : decode cX2_init 43 = .ok (.bipush 8, 2) := by decide +kernel
theorem dX2_init_45 : decode cX2_init 45 = .ok (.multianewarray 25 2, 4) := by decide +kernel
theorem dX2_init_49 : decode cX2_init 49 = .ok (.putfield 30, 3) := by decide +kernel
theorem dX2_init_52 : decode cX2_init 52 = .ok (.aload_n 0, 1) := by decide +kernel
theorem dX2_init_53 : decode cX2_init 53 = .ok (.iconst 4, 1) := by decide +kernel
theorem dX2_init_54 : decode cX2_init 54 = .ok (.bipush 8, 2) := by decide +kernel
theorem dX2_init_56 : decode cX2_init 56 = .ok (.multianewarray 25 2, 4) := by decide +kernel
theorem dX2_init_60 : decode cX2_init 60 = .ok (.putfield 33, 3) := by decide +kernel
theorem dX2_init_63 : decode cX2_init 63 = .ok (.aload_n 0, 1) := by decide +kernel
theorem dX2_init_64 : decode cX2_init 64 = .ok (.iconst 3, 1) := by decide +kernel
theorem dX2_init_65 : decode cX2_init 65 = .ok (.newarray .int, 2) := by decide +kernel
theorem dX2_init_67 : decode cX2_init 67 = .ok (.putfield 36, 3) := by decide +kernel
theorem dX2_init_70 : decode cX2_init 70 = .ok (.return_, 1) := by decide +kernel
theorem dX2_nearest_0 : decode cX2_nearest 0 = .ok (.aload_n 3, 1) := by decide +kernel
theorem dX2_nearest_1 : decode cX2_nearest 1 = .ok (.iconst 0, 1) := by decide +kernel
theorem dX2_nearest_2 : decode cX2_nearest 2 = .ok (.aload_n 0, 1) := by decide +kernel
theorem dX2_nearest_3 : decode cX2_nearest 3 = .ok (.getfield 22, 3) := by decide +kernel
theorem dX2_nearest_6 : decode cX2_nearest 6 = .ok (.iconst 0, 1) := by decide +kernel
theorem dX2_nearest_7 : decode cX2_nearest 7 = .ok (.iconst 3, 1) := by decide +kernel
theorem dX2_nearest_8 : decode cX2_nearest 8 = .ok (.invokestatic 39, 3) := by decide +kernel
theorem dX2_nearest_11 : decode cX2_nearest 11 = .ok (.iconst 0, 1) := by decide +kernel
theorem dX2_nearest_12 : decode cX2_nearest 12 = .ok (.istore 6, 2) := by decide +kernel
theorem dX2_nearest_14 : decode cX2_nearest 14 = .ok (.iload 6, 2) := by decide +kernel
theorem dX2_nearest_16 : decode cX2_nearest 16 = .ok (.bipush 12, 2) := by decide +kernel
theorem dX2_nearest_18 : decode cX2_nearest 18 = .ok (.if_icmp .ge 30, 3) := by decide +kernel
theorem dX2_nearest_21 : decode cX2_nearest 21 = .ok (.aload_n 1, 1) := by decide +kernel
theorem dX2_nearest_22 : decode cX2_nearest 22 = .ok (.iload 6, 2) := by decide +kernel
theorem dX2_nearest_24 : decode cX2_nearest 24 = .ok (.invokevirtual 45, 3) := by decide +kernel
theorem dX2_nearest_27 : decode cX2_nearest 27 = .ok (.astore 7, 2) := by decide +kernel
theorem dX2_nearest_29 : decode cX2_nearest 29 = .ok (.aload 7, 2) := by decide +kernel
theorem dX2_nearest_31 : decode cX2_nearest 31 = .ok (.ifnull 11, 3) := by decide +kernel
theorem dX2_nearest_34 : decode cX2_nearest 34 = .ok (.aload_n 0, 1) := by decide +kernel
theorem dX2_nearest_35 : decode cX2_nearest 35 = .ok (.iload 6, 2) := by decide +kernel
theorem dX2_nearest_37 : decode cX2_nearest 37 = .ok (.aload 7, 2) := by decide +kernel
theorem dX2_nearest_39 : decode cX2_nearest 39 = .ok (.invokevirtual 51, 3) := by decide +kernel
theorem dX2_nearest_42 : decode cX2_nearest 42 = .ok (.iinc 6 1, 3) := by decide +kernel
theorem dX2_nearest_45 : decode cX2_nearest 45 = .ok (.goto (-31), 3) := by decide +kernel
theorem dX2_nearest_48 : decode cX2_nearest 48 = .ok (.aload_n 0, 1) := by decide +kernel
theorem dX2_nearest_49 : decode cX2_nearest 49 = .ok (.getfield 33, 3) := by decide +kernel
theorem dX2_nearest_52 : decode cX2_nearest 52 = .ok (.iconst 0, 1) := by decide +kernel
theorem dX2_nearest_53 : decode cX2_nearest 53 = .ok (.aaload, 1) := by decide +kernel
theorem dX2_nearest_54 : decode cX2_nearest 54 = .ok (.iload 5, 2) := by decide +kernel
theorem dX2_nearest_56 : decode cX2_nearest 56 = .ok (.invokestatic 55, 3) := by decide +kernel
theorem dX2_nearest_59 : decode cX2_nearest 59 = .ok (.aload_n 0, 1) := by decide +kernel
theorem dX2_nearest_60 : decode cX2_nearest 60 = .ok (.iconst 0, 1) := by decide +kernel
theorem dX2_nearest_61 : decode cX2_nearest 61 = .ok (.putfield 9, 3) := by decide +kernel
theorem dX2_nearest_64 : decode cX2_nearest 64 = .ok (.aload_n 0, 1) := by decide +kernel
theorem dX2_nearest_65 : decode cX2_nearest 65 = .ok (.aload_n 2, 1) := by decide +kernel
theorem dX2_nearest_66 : decode cX2_nearest 66 = .ok (.aload_n 0, 1) := by decide +kernel
theorem dX2_nearest_67 : decode cX2_nearest 67 = .ok (.getfield 22, 3) := by decide +kernel
theorem dX2_nearest_70 : decode cX2_nearest 70 = .ok (.aload_n 0, 1) := by decide +kernel
theorem dX2_nearest_71 : decode cX2_nearest 71 = .ok (.getfield 33, 3) := by decide +kernel
theorem dX2_nearest_74 : decode cX2_nearest 74 = .ok (.iconst 0, 1) := by decide +kernel
theorem dX2_nearest_75 : decode cX2_nearest 75 = .ok (.aaload, 1) := by decide +kernel
theorem dX2_nearest_76 : decode cX2_nearest 76 = .ok (.invokevirtual 61, 3) := by decide +kernel
theorem dX2_nearest_79 : decode cX2_nearest 79 = .ok (.putfield 15, 3) := by decide +kernel
theorem dX2_nearest_82 : decode cX2_nearest 82 = .ok (.aload_n 0, 1) := by decide +kernel
theorem dX2_nearest_83 : decode cX2_nearest 83 = .ok (.aload_n 2, 1) := by decide +kernel
theorem dX2_nearest_84 : decode cX2_nearest 84 = .ok (.iconst 0, 1) := by decide +kernel
theorem dX2_nearest_85 : decode cX2_nearest 85 = .ok (.iload 4, 2) := by decide +kernel
theorem dX2_nearest_87 : decode cX2_nearest 87 = .ok (.invokevirtual 67, 3) := by decide +kernel
theorem dX2_nearest_90 : decode cX2_nearest 90 = .ok (.aload_n 0, 1) := by decide +kernel
theorem dX2_nearest_91 : decode cX2_nearest 91 = .ok (.getfield 15, 3) := by decide +kernel
theorem dX2_nearest_94 : decode cX2_nearest 94 = .ok (.ireturn, 1) := by decide +kernel
theorem dX2_bestLayer_0 : decode cX2_bestLayer 0 = .ok (.aload_n 0, 1) := by decide +kernel
theorem dX2_bestLayer_1 : decode cX2_bestLayer 1 = .ok (.getfield 18, 3) := by decide +kernel
theorem dX2_bestLayer_4 : decode cX2_bestLayer 4 = .ok (.iload_n 1, 1) := by decide +kernel
theorem dX2_bestLayer_5 : decode cX2_bestLayer 5 = .ok (.iaload, 1) := by decide +kernel
theorem dX2_bestLayer_6 : decode cX2_bestLayer 6 = .ok (.ireturn, 1) := by decide +kernel
theorem dX2_readThin_0 : decode cX2_readThin 0 = .ok (.iconst 0, 1) := by decide +kernel
theorem dX2_readThin_1 : decode cX2_readThin 1 = .ok (.istore_n 3, 1) := by decide +kernel
theorem dX2_readThin_2 : decode cX2_readThin 2 = .ok (.iload_n 3, 1) := by decide +kernel
theorem dX2_readThin_3 : decode cX2_readThin 3 = .ok (.bipush 8, 2) := by decide +kernel
theorem dX2_readThin_5 : decode cX2_readThin 5 = .ok (.if_icmp .ge 54, 3) := by decide +kernel
theorem dX2_readThin_8 : decode cX2_readThin 8 = .ok (.aload_n 2, 1) := by decide +kernel
theorem dX2_readThin_9 : decode cX2_readThin 9 = .ok (.iload_n 3, 1) := by decide +kernel
theorem dX2_readThin_10 : decode cX2_readThin 10 = .ok (.iconst 0, 1) := by decide +kernel
theorem dX2_readThin_11 : decode cX2_readThin 11 = .ok (.invokevirtual 71, 3) := by decide +kernel
theorem dX2_readThin_14 : decode cX2_readThin 14 = .ok (.istore 4, 2) := by decide +kernel
theorem dX2_readThin_16 : decode cX2_readThin 16 = .ok (.aload_n 2, 1) := by decide +kernel
theorem dX2_readThin_17 : decode cX2_readThin 17 = .ok (.iload_n 3, 1) := by decide +kernel
theorem dX2_readThin_18 : decode cX2_readThin 18 = .ok (.invokevirtual 77, 3) := by decide +kernel
theorem dX2_readThin_21 : decode cX2_readThin 21 = .ok (.istore 5, 2) := by decide +kernel
theorem dX2_readThin_23 : decode cX2_readThin 23 = .ok (.aload_n 0, 1) := by decide +kernel
theorem dX2_readThin_24 : decode cX2_readThin 24 = .ok (.getfield 27, 3) := by decide +kernel
theorem dX2_readThin_27 : decode cX2_readThin 27 = .ok (.iload_n 1, 1) := by decide +kernel
theorem dX2_readThin_28 : decode cX2_readThin 28 = .ok (.aaload, 1) := by decide +kernel
theorem dX2_readThin_29 : decode cX2_readThin 29 = .ok (.iload_n 3, 1) := by decide +kernel
theorem dX2_readThin_30 : decode cX2_readThin 30 = .ok (.iload 4, 2) := by decide +kernel
theorem dX2_readThin_32 : decode cX2_readThin 32 = .ok (.iload 5, 2) := by decide +kernel
theorem dX2_readThin_34 : decode cX2_readThin 34 = .ok (.invokestatic 81, 3) := by decide +kernel
theorem dX2_readThin_37 : decode cX2_readThin 37 = .ok (.iastore, 1) := by decide +kernel
theorem dX2_readThin_38 : decode cX2_readThin 38 = .ok (.aload_n 0, 1) := by decide +kernel
theorem dX2_readThin_39 : decode cX2_readThin 39 = .ok (.getfield 30, 3) := by decide +kernel
theorem dX2_readThin_42 : decode cX2_readThin 42 = .ok (.iload_n 1, 1) := by decide +kernel
theorem dX2_readThin_43 : decode cX2_readThin 43 = .ok (.aaload, 1) := by decide +kernel
theorem dX2_readThin_44 : decode cX2_readThin 44 = .ok (.iload_n 3, 1) := by decide +kernel
theorem dX2_readThin_45 : decode cX2_readThin 45 = .ok (.iload 4, 2) := by decide +kernel
theorem dX2_readThin_47 : decode cX2_readThin 47 = .ok (.iload 5, 2) := by decide +kernel
theorem dX2_readThin_49 : decode cX2_readThin 49 = .ok (.invokestatic 86, 3) := by decide +kernel
theorem dX2_readThin_52 : decode cX2_readThin 52 = .ok (.iastore, 1) := by decide +kernel
theorem dX2_readThin_53 : decode cX2_readThin 53 = .ok (.iinc 3 1, 3) := by decide +kernel
theorem dX2_readThin_56 : decode cX2_readThin 56 = .ok (.goto (-54), 3) := by decide +kernel
theorem dX2_readThin_59 : decode cX2_readThin 59 = .ok (.return_, 1) := by decide +kernel
theorem dX2_layOn_0 : decode cX2_layOn 0 = .ok (.iload_n 2, 1) := by decide +kernel
theorem dX2_layOn_1 : decode cX2_layOn 1 = .ok (.iconst 3, 1) := by decide +kernel
theorem dX2_layOn_2 : decode cX2_layOn 2 = .ok (.if_icmp .lt 4, 3) := by decide +kernel
theorem dX2_layOn_5 : decode cX2_layOn 5 = .ok (.return_, 1) := by decide +kernel
theorem dX2_layOn_6 : decode cX2_layOn 6 = .ok (.iconst 0, 1) := by decide +kernel
theorem dX2_layOn_7 : decode cX2_layOn 7 = .ok (.istore 4, 2) := by decide +kernel
theorem dX2_layOn_9 : decode cX2_layOn 9 = .ok (.iload 4, 2) := by decide +kernel
theorem dX2_layOn_11 : decode cX2_layOn 11 = .ok (.bipush 12, 2) := by decide +kernel
theorem dX2_layOn_13 : decode cX2_layOn 13 = .ok (.if_icmp .ge 123, 3) := by decide +kernel
theorem dX2_layOn_16 : decode cX2_layOn 16 = .ok (.iload_n 3, 1) := by decide +kernel
theorem dX2_layOn_17 : decode cX2_layOn 17 = .ok (.iload 4, 2) := by decide +kernel
theorem dX2_layOn_19 : decode cX2_layOn 19 = .ok (.ishr, 1) := by decide +kernel
theorem dX2_layOn_20 : decode cX2_layOn 20 = .ok (.iconst 1, 1) := by decide +kernel
theorem dX2_layOn_21 : decode cX2_layOn 21 = .ok (.iand, 1) := by decide +kernel
theorem dX2_layOn_22 : decode cX2_layOn 22 = .ok (.iconst 1, 1) := by decide +kernel
theorem dX2_layOn_23 : decode cX2_layOn 23 = .ok (.if_icmp .ne 107, 3) := by decide +kernel
theorem dX2_layOn_26 : decode cX2_layOn 26 = .ok (.aload_n 0, 1) := by decide +kernel
theorem dX2_layOn_27 : decode cX2_layOn 27 = .ok (.getfield 33, 3) := by decide +kernel
theorem dX2_layOn_30 : decode cX2_layOn 30 = .ok (.iload_n 2, 1) := by decide +kernel
theorem dX2_layOn_31 : decode cX2_layOn 31 = .ok (.aaload, 1) := by decide +kernel
theorem dX2_layOn_32 : decode cX2_layOn 32 = .ok (.iconst 0, 1) := by decide +kernel
theorem dX2_layOn_33 : decode cX2_layOn 33 = .ok (.aload_n 0, 1) := by decide +kernel
theorem dX2_layOn_34 : decode cX2_layOn 34 = .ok (.getfield 33, 3) := by decide +kernel
theorem dX2_layOn_37 : decode cX2_layOn 37 = .ok (.iload_n 2, 1) := by decide +kernel
theorem dX2_layOn_38 : decode cX2_layOn 38 = .ok (.iconst 1, 1) := by decide +kernel
theorem dX2_layOn_39 : decode cX2_layOn 39 = .ok (.iadd, 1) := by decide +kernel
theorem dX2_layOn_40 : decode cX2_layOn 40 = .ok (.aaload, 1) := by decide +kernel
theorem dX2_layOn_41 : decode cX2_layOn 41 = .ok (.iconst 0, 1) := by decide +kernel
theorem dX2_layOn_42 : decode cX2_layOn 42 = .ok (.bipush 8, 2) := by decide +kernel
theorem dX2_layOn_44 : decode cX2_layOn 44 = .ok (.invokestatic 39, 3) := by decide +kernel
theorem dX2_layOn_47 : decode cX2_layOn 47 = .ok (.iconst 0, 1) := by decide +kernel
theorem dX2_layOn_48 : decode cX2_layOn 48 = .ok (.istore 5, 2) := by decide +kernel
theorem dX2_layOn_50 : decode cX2_layOn 50 = .ok (.iconst 1, 1) := by decide +kernel
theorem dX2_layOn_51 : decode cX2_layOn 51 = .ok (.istore 6, 2) := by decide +kernel
theorem dX2_layOn_53 : decode cX2_layOn 53 = .ok (.iload 6, 2) := by decide +kernel
theorem dX2_layOn_55 : decode cX2_layOn 55 = .ok (.iconst 4, 1) := by decide +kernel
theorem dX2_layOn_56 : decode cX2_layOn 56 = .ok (.if_icmp .gt 74, 3) := by decide +kernel
theorem dX2_layOn_59 : decode cX2_layOn 59 = .ok (.aload_n 0, 1) := by decide +kernel
theorem dX2_layOn_60 : decode cX2_layOn 60 = .ok (.aload_n 1, 1) := by decide +kernel
theorem dX2_layOn_61 : decode cX2_layOn 61 = .ok (.aload_n 0, 1) := by decide +kernel
theorem dX2_layOn_62 : decode cX2_layOn 62 = .ok (.getfield 33, 3) := by decide +kernel
theorem dX2_layOn_65 : decode cX2_layOn 65 = .ok (.iload_n 2, 1) := by decide +kernel
theorem dX2_layOn_66 : decode cX2_layOn 66 = .ok (.iconst 1, 1) := by decide +kernel
theorem dX2_layOn_67 : decode cX2_layOn 67 = .ok (.iadd, 1) := by decide +kernel
theorem dX2_layOn_68 : decode cX2_layOn 68 = .ok (.aaload, 1) := by decide +kernel
theorem dX2_layOn_69 : decode cX2_layOn 69 = .ok (.iload 4, 2) := by decide +kernel
theorem dX2_layOn_71 : decode cX2_layOn 71 = .ok (.iload 6, 2) := by decide +kernel
theorem dX2_layOn_73 : decode cX2_layOn 73 = .ok (.iload 5, 2) := by decide +kernel
theorem dX2_layOn_75 : decode cX2_layOn 75 = .ok (.isub, 1) := by decide +kernel
theorem dX2_layOn_76 : decode cX2_layOn 76 = .ok (.invokevirtual 89, 3) := by decide +kernel
theorem dX2_layOn_79 : decode cX2_layOn 79 = .ok (.iload 6, 2) := by decide +kernel
theorem dX2_layOn_81 : decode cX2_layOn 81 = .ok (.istore 5, 2) := by decide +kernel
theorem dX2_layOn_83 : decode cX2_layOn 83 = .ok (.aload_n 0, 1) := by decide +kernel
theorem dX2_layOn_84 : decode cX2_layOn 84 = .ok (.getfield 36, 3) := by decide +kernel
theorem dX2_layOn_87 : decode cX2_layOn 87 = .ok (.iload_n 2, 1) := by decide +kernel
theorem dX2_layOn_88 : decode cX2_layOn 88 = .ok (.bipush 10, 2) := by decide +kernel
theorem dX2_layOn_90 : decode cX2_layOn 90 = .ok (.iload 4, 2) := by decide +kernel
theorem dX2_layOn_92 : decode cX2_layOn 92 = .ok (.imul, 1) := by decide +kernel
theorem dX2_layOn_93 : decode cX2_layOn 93 = .ok (.iload 6, 2) := by decide +kernel
theorem dX2_layOn_95 : decode cX2_layOn 95 = .ok (.iadd, 1) := by decide +kernel
theorem dX2_layOn_96 : decode cX2_layOn 96 = .ok (.iastore, 1) := by decide +kernel
theorem dX2_layOn_97 : decode cX2_layOn 97 = .ok (.aload_n 0, 1) := by decide +kernel
theorem dX2_layOn_98 : decode cX2_layOn 98 = .ok (.aload_n 1, 1) := by decide +kernel
theorem dX2_layOn_99 : decode cX2_layOn 99 = .ok (.iload_n 2, 1) := by decide +kernel
theorem dX2_layOn_100 : decode cX2_layOn 100 = .ok (.iconst 1, 1) := by decide +kernel
theorem dX2_layOn_101 : decode cX2_layOn 101 = .ok (.iadd, 1) := by decide +kernel
theorem dX2_layOn_102 : decode cX2_layOn 102 = .ok (.invokevirtual 93, 3) := by decide +kernel
theorem dX2_layOn_105 : decode cX2_layOn 105 = .ok (.aload_n 0, 1) := by decide +kernel
theorem dX2_layOn_106 : decode cX2_layOn 106 = .ok (.aload_n 1, 1) := by decide +kernel
theorem dX2_layOn_107 : decode cX2_layOn 107 = .ok (.iload_n 2, 1) := by decide +kernel
theorem dX2_layOn_108 : decode cX2_layOn 108 = .ok (.iconst 1, 1) := by decide +kernel
theorem dX2_layOn_109 : decode cX2_layOn 109 = .ok (.iadd, 1) := by decide +kernel
theorem dX2_layOn_110 : decode cX2_layOn 110 = .ok (.iload_n 3, 1) := by decide +kernel
theorem dX2_layOn_111 : decode cX2_layOn 111 = .ok (.iconst 1, 1) := by decide +kernel
theorem dX2_layOn_112 : decode cX2_layOn 112 = .ok (.iload 4, 2) := by decide +kernel
theorem dX2_layOn_114 : decode cX2_layOn 114 = .ok (.ishl, 1) := by decide +kernel
theorem dX2_layOn_115 : decode cX2_layOn 115 = .ok (.iconst (-1), 1) := by decide +kernel
theorem dX2_layOn_116 : decode cX2_layOn 116 = .ok (.ixor, 1) := by decide +kernel
theorem dX2_layOn_117 : decode cX2_layOn 117 = .ok (.iand, 1) := by decide +kernel
theorem dX2_layOn_118 : decode cX2_layOn 118 = .ok (.invokevirtual 67, 3) := by decide +kernel
theorem dX2_layOn_121 : decode cX2_layOn 121 = .ok (.iload 6, 2) := by decide +kernel
theorem dX2_layOn_123 : decode cX2_layOn 123 = .ok (.iconst 2, 1) := by decide +kernel
theorem dX2_layOn_124 : decode cX2_layOn 124 = .ok (.imul, 1) := by decide +kernel
theorem dX2_layOn_125 : decode cX2_layOn 125 = .ok (.istore 6, 2) := by decide +kernel
theorem dX2_layOn_127 : decode cX2_layOn 127 = .ok (.goto (-74), 3) := by decide +kernel
theorem dX2_layOn_130 : decode cX2_layOn 130 = .ok (.iinc 4 1, 3) := by decide +kernel
theorem dX2_layOn_133 : decode cX2_layOn 133 = .ok (.goto (-124), 3) := by decide +kernel
theorem dX2_layOn_136 : decode cX2_layOn 136 = .ok (.return_, 1) := by decide +kernel
theorem dX2_thicken_0 : decode cX2_thicken 0 = .ok (.iconst 0, 1) := by decide +kernel
theorem dX2_thicken_1 : decode cX2_thicken 1 = .ok (.istore 5, 2) := by decide +kernel
theorem dX2_thicken_3 : decode cX2_thicken 3 = .ok (.iload 5, 2) := by decide +kernel
theorem dX2_thicken_5 : decode cX2_thicken 5 = .ok (.bipush 8, 2) := by decide +kernel
theorem dX2_thicken_7 : decode cX2_thicken 7 = .ok (.if_icmp .ge 50, 3) := by decide +kernel
theorem dX2_thicken_10 : decode cX2_thicken 10 = .ok (.aload_n 1, 1) := by decide +kernel
theorem dX2_thicken_11 : decode cX2_thicken 11 = .ok (.getfield 97, 3) := by decide +kernel
theorem dX2_thicken_14 : decode cX2_thicken 14 = .ok (.iload 5, 2) := by decide +kernel
theorem dX2_thicken_16 : decode cX2_thicken 16 = .ok (.baload, 1) := by decide +kernel
theorem dX2_thicken_17 : decode cX2_thicken 17 = .ok (.ifCond .eq 34, 3) := by decide +kernel
theorem dX2_thicken_20 : decode cX2_thicken 20 = .ok (.aload_n 2, 1) := by decide +kernel
theorem dX2_thicken_21 : decode cX2_thicken 21 = .ok (.iload 5, 2) := by decide +kernel
theorem dX2_thicken_23 : decode cX2_thicken 23 = .ok (.aload_n 0, 1) := by decide +kernel
theorem dX2_thicken_24 : decode cX2_thicken 24 = .ok (.getfield 27, 3) := by decide +kernel
theorem dX2_thicken_27 : decode cX2_thicken 27 = .ok (.iload_n 3, 1) := by decide +kernel
theorem dX2_thicken_28 : decode cX2_thicken 28 = .ok (.aaload, 1) := by decide +kernel
theorem dX2_thicken_29 : decode cX2_thicken 29 = .ok (.iload 5, 2) := by decide +kernel
theorem dX2_thicken_31 : decode cX2_thicken 31 = .ok (.iaload, 1) := by decide +kernel
theorem dX2_thicken_32 : decode cX2_thicken 32 = .ok (.aload_n 0, 1) := by decide +kernel
theorem dX2_thicken_33 : decode cX2_thicken 33 = .ok (.getfield 30, 3) := by decide +kernel
theorem dX2_thicken_36 : decode cX2_thicken 36 = .ok (.iload_n 3, 1) := by decide +kernel
theorem dX2_thicken_37 : decode cX2_thicken 37 = .ok (.aaload, 1) := by decide +kernel
theorem dX2_thicken_38 : decode cX2_thicken 38 = .ok (.iload 5, 2) := by decide +kernel
theorem dX2_thicken_40 : decode cX2_thicken 40 = .ok (.iaload, 1) := by decide +kernel
theorem dX2_thicken_41 : decode cX2_thicken 41 = .ok (.iload 4, 2) := by decide +kernel
theorem dX2_thicken_43 : decode cX2_thicken 43 = .ok (.aload_n 2, 1) := by decide +kernel
theorem dX2_thicken_44 : decode cX2_thicken 44 = .ok (.iload 5, 2) := by decide +kernel
theorem dX2_thicken_46 : decode cX2_thicken 46 = .ok (.iaload, 1) := by decide +kernel
theorem dX2_thicken_47 : decode cX2_thicken 47 = .ok (.invokestatic 101, 3) := by decide +kernel
theorem dX2_thicken_50 : decode cX2_thicken 50 = .ok (.iastore, 1) := by decide +kernel
theorem dX2_thicken_51 : decode cX2_thicken 51 = .ok (.iinc 5 1, 3) := by decide +kernel
theorem dX2_thicken_54 : decode cX2_thicken 54 = .ok (.goto (-51), 3) := by decide +kernel
theorem dX2_thicken_57 : decode cX2_thicken 57 = .ok (.return_, 1) := by decide +kernel
theorem dX2_weigh_0 : decode cX2_weigh 0 = .ok (.iconst 0, 1) := by decide +kernel
theorem dX2_weigh_1 : decode cX2_weigh 1 = .ok (.istore_n 3, 1) := by decide +kernel
theorem dX2_weigh_2 : decode cX2_weigh 2 = .ok (.iconst 0, 1) := by decide +kernel
theorem dX2_weigh_3 : decode cX2_weigh 3 = .ok (.istore 4, 2) := by decide +kernel
theorem dX2_weigh_5 : decode cX2_weigh 5 = .ok (.iload 4, 2) := by decide +kernel
theorem dX2_weigh_7 : decode cX2_weigh 7 = .ok (.iconst 3, 1) := by decide +kernel
theorem dX2_weigh_8 : decode cX2_weigh 8 = .ok (.if_icmp .ge 43, 3) := by decide +kernel
theorem dX2_weigh_11 : decode cX2_weigh 11 = .ok (.iload_n 3, 1) := by decide +kernel
theorem dX2_weigh_12 : decode cX2_weigh 12 = .ok (.aload_n 0, 1) := by decide +kernel
theorem dX2_weigh_13 : decode cX2_weigh 13 = .ok (.getfield 15, 3) := by decide +kernel
theorem dX2_weigh_16 : decode cX2_weigh 16 = .ok (.if_icmp .gt 35, 3) := by decide +kernel
theorem dX2_weigh_19 : decode cX2_weigh 19 = .ok (.iload_n 3, 1) := by decide +kernel
theorem dX2_weigh_20 : decode cX2_weigh 20 = .ok (.aload_n 1, 1) := by decide +kernel
theorem dX2_weigh_21 : decode cX2_weigh 21 = .ok (.iload 4, 2) := by decide +kernel
theorem dX2_weigh_23 : decode cX2_weigh 23 = .ok (.aload_n 0, 1) := by decide +kernel
theorem dX2_weigh_24 : decode cX2_weigh 24 = .ok (.getfield 33, 3) := by decide +kernel
theorem dX2_weigh_27 : decode cX2_weigh 27 = .ok (.iload_n 2, 1) := by decide +kernel
theorem dX2_weigh_28 : decode cX2_weigh 28 = .ok (.aaload, 1) := by decide +kernel
theorem dX2_weigh_29 : decode cX2_weigh 29 = .ok (.invokevirtual 105, 3) := by decide +kernel
theorem dX2_weigh_32 : decode cX2_weigh 32 = .ok (.aload_n 0, 1) := by decide +kernel
theorem dX2_weigh_33 : decode cX2_weigh 33 = .ok (.getfield 22, 3) := by decide +kernel
theorem dX2_weigh_36 : decode cX2_weigh 36 = .ok (.iload 4, 2) := by decide +kernel
theorem dX2_weigh_38 : decode cX2_weigh 38 = .ok (.iaload, 1) := by decide +kernel
theorem dX2_weigh_39 : decode cX2_weigh 39 = .ok (.isub, 1) := by decide +kernel
theorem dX2_weigh_40 : decode cX2_weigh 40 = .ok (.invokestatic 109, 3) := by decide +kernel
theorem dX2_weigh_43 : decode cX2_weigh 43 = .ok (.iadd, 1) := by decide +kernel
theorem dX2_weigh_44 : decode cX2_weigh 44 = .ok (.istore_n 3, 1) := by decide +kernel
theorem dX2_weigh_45 : decode cX2_weigh 45 = .ok (.iinc 4 1, 3) := by decide +kernel
theorem dX2_weigh_48 : decode cX2_weigh 48 = .ok (.goto (-43), 3) := by decide +kernel
theorem dX2_weigh_51 : decode cX2_weigh 51 = .ok (.iload_n 3, 1) := by decide +kernel
theorem dX2_weigh_52 : decode cX2_weigh 52 = .ok (.aload_n 0, 1) := by decide +kernel
theorem dX2_weigh_53 : decode cX2_weigh 53 = .ok (.getfield 15, 3) := by decide +kernel
theorem dX2_weigh_56 : decode cX2_weigh 56 = .ok (.if_icmp .lt 19, 3) := by decide +kernel
theorem dX2_weigh_59 : decode cX2_weigh 59 = .ok (.iload_n 3, 1) := by decide +kernel
theorem dX2_weigh_60 : decode cX2_weigh 60 = .ok (.aload_n 0, 1) := by decide +kernel
theorem dX2_weigh_61 : decode cX2_weigh 61 = .ok (.getfield 15, 3) := by decide +kernel
theorem dX2_weigh_64 : decode cX2_weigh 64 = .ok (.if_icmp .ne 35, 3) := by decide +kernel
theorem dX2_weigh_67 : decode cX2_weigh 67 = .ok (.iload_n 2, 1) := by decide +kernel
theorem dX2_weigh_68 : decode cX2_weigh 68 = .ok (.aload_n 0, 1) := by decide +kernel
theorem dX2_weigh_69 : decode cX2_weigh 69 = .ok (.getfield 9, 3) := by decide +kernel
theorem dX2_weigh_72 : decode cX2_weigh 72 = .ok (.if_icmp .ge 27, 3) := by decide +kernel
theorem dX2_weigh_75 : decode cX2_weigh 75 = .ok (.aload_n 0, 1) := by decide +kernel
theorem dX2_weigh_76 : decode cX2_weigh 76 = .ok (.iload_n 3, 1) := by decide +kernel
theorem dX2_weigh_77 : decode cX2_weigh 77 = .ok (.putfield 15, 3) := by decide +kernel
theorem dX2_weigh_80 : decode cX2_weigh 80 = .ok (.aload_n 0, 1) := by decide +kernel
theorem dX2_weigh_81 : decode cX2_weigh 81 = .ok (.iload_n 2, 1) := by decide +kernel
theorem dX2_weigh_82 : decode cX2_weigh 82 = .ok (.putfield 9, 3) := by decide +kernel
theorem dX2_weigh_85 : decode cX2_weigh 85 = .ok (.aload_n 0, 1) := by decide +kernel
theorem dX2_weigh_86 : decode cX2_weigh 86 = .ok (.getfield 36, 3) := by decide +kernel
theorem dX2_weigh_89 : decode cX2_weigh 89 = .ok (.iconst 0, 1) := by decide +kernel
theorem dX2_weigh_90 : decode cX2_weigh 90 = .ok (.aload_n 0, 1) := by decide +kernel
theorem dX2_weigh_91 : decode cX2_weigh 91 = .ok (.getfield 18, 3) := by decide +kernel
theorem dX2_weigh_94 : decode cX2_weigh 94 = .ok (.iconst 0, 1) := by decide +kernel
theorem dX2_weigh_95 : decode cX2_weigh 95 = .ok (.iload_n 2, 1) := by decide +kernel
theorem dX2_weigh_96 : decode cX2_weigh 96 = .ok (.invokestatic 39, 3) := by decide +kernel
theorem dX2_weigh_99 : decode cX2_weigh 99 = .ok (.return_, 1) := by decide +kernel
theorem dX3_init_0 : decode cX3_init 0 = .ok (.aload_n 0, 1) := by decide +kernel
theorem dX3_init_1 : decode cX3_init 1 = .ok (.invokespecial 3, 3) := by decide +kernel
theorem dX3_init_4 : decode cX3_init 4 = .ok (.aload_n 0, 1) := by decide +kernel
theorem dX3_init_5 : decode cX3_init 5 = .ok (.new 9, 3) := by decide +kernel
theorem dX3_init_8 : decode cX3_init 8 = .ok (.dup, 1) := by decide +kernel
theorem dX3_init_9 : decode cX3_init 9 = .ok (.invokespecial 11, 3) := by decide +kernel
theorem dX3_init_12 : decode cX3_init 12 = .ok (.putfield 12, 3) := by decide +kernel
theorem dX3_init_15 : decode cX3_init 15 = .ok (.aload_n 0, 1) := by decide +kernel
theorem dX3_init_16 : decode cX3_init 16 = .ok (.bipush 8, 2) := by decide +kernel
theorem dX3_init_18 : decode cX3_init 18 = .ok (.newarray .int, 2) := by decide +kernel
theorem dX3_init_20 : decode cX3_init 20 = .ok (.putfield 18, 3) := by decide +kernel
theorem dX3_init_23 : decode cX3_init 23 = .ok (.aload_n 0, 1) := by decide +kernel
theorem dX3_init_24 : decode cX3_init 24 = .ok (.bipush 8, 2) := by decide +kernel
theorem dX3_init_26 : decode cX3_init 26 = .ok (.newarray .int, 2) := by decide +kernel
theorem dX3_init_28 : decode cX3_init 28 = .ok (.putfield 22, 3) := by decide +kernel
theorem dX3_init_31 : decode cX3_init 31 = .ok (.aload_n 0, 1) := by decide +kernel
theorem dX3_init_32 : decode cX3_init 32 = .ok (.bipush 8, 2) := by decide +kernel
theorem dX3_init_34 : decode cX3_init 34 = .ok (.newarray .int, 2) := by decide +kernel
theorem dX3_init_36 : decode cX3_init 36 = .ok (.putfield 25, 3) := by decide +kernel
theorem dX3_init_39 : decode cX3_init 39 = .ok (.aload_n 0, 1) := by decide +kernel
theorem dX3_init_40 : decode cX3_init 40 = .ok (.bipush 8, 2) := by decide +kernel
theorem dX3_init_42 : decode cX3_init 42 = .ok (.newarray .int, 2) := by decide +kernel
theorem dX3_init_44 : decode cX3_init 44 = .ok (.putfield 28, 3) := by decide +kernel
theorem dX3_init_47 : decode cX3_init 47 = .ok (.aload_n 0, 1) := by decide +kernel
theorem dX3_init_48 : decode cX3_init 48 = .ok (.getfield 12, 3) := by decide +kernel
theorem dX3_init_51 : decode cX3_init 51 = .ok (.aload_n 1, 1) := by decide +kernel
theorem dX3_init_52 : decode cX3_init 52 = .ok (.invokevirtual 31, 3) := by decide +kernel
theorem dX3_init_55 : decode cX3_init 55 = .ok (.aload_n 0, 1) := by decide +kernel
theorem dX3_init_56 : decode cX3_init 56 = .ok (.iload_n 2, 1) := by decide +kernel
theorem dX3_init_57 : decode cX3_init 57 = .ok (.putfield 35, 3) := by decide +kernel
theorem dX3_init_60 : decode cX3_init 60 = .ok (.aload_n 0, 1) := by decide +kernel
theorem dX3_init_61 : decode cX3_init 61 = .ok (.iload_n 3, 1) := by decide +kernel
theorem dX3_init_62 : decode cX3_init 62 = .ok (.putfield 39, 3) := by decide +kernel
theorem dX3_init_65 : decode cX3_init 65 = .ok (.aload_n 0, 1) := by decide +kernel
theorem dX3_init_66 : decode cX3_init 66 = .ok (.getfield 25, 3) := by decide +kernel
theorem dX3_init_69 : decode cX3_init 69 = .ok (.iconst (-1), 1) := by decide +kernel
theorem dX3_init_70 : decode cX3_init 70 = .ok (.invokestatic 42, 3) := by decide +kernel
theorem dX3_init_73 : decode cX3_init 73 = .ok (.return_, 1) := by decide +kernel
theorem dX3_sentOver_0 : decode cX3_sentOver 0 = .ok (.aload_n 0, 1) := by decide +kernel
theorem dX3_sentOver_1 : decode cX3_sentOver 1 = .ok (.getfield 12, 3) := by decide +kernel
theorem dX3_sentOver_4 : decode cX3_sentOver 4 = .ok (.aload_n 1, 1) := by decide +kernel
theorem dX3_sentOver_5 : decode cX3_sentOver 5 = .ok (.iload_n 2, 1) := by decide +kernel
theorem dX3_sentOver_6 : decode cX3_sentOver 6 = .ok (.iload_n 3, 1) := by decide +kernel
theorem dX3_sentOver_7 : decode cX3_sentOver 7 = .ok (.aload_n 0, 1) := by decide +kernel
theorem dX3_sentOver_8 : decode cX3_sentOver 8 = .ok (.getfield 39, 3) := by decide +kernel
theorem dX3_sentOver_11 : decode cX3_sentOver 11 = .ok (.isub, 1) := by decide +kernel
theorem dX3_sentOver_12 : decode cX3_sentOver 12 = .ok (.invokevirtual 48, 3) := by decide +kernel
theorem dX3_sentOver_15 : decode cX3_sentOver 15 = .ok (.istore 5, 2) := by decide +kernel
theorem dX3_sentOver_17 : decode cX3_sentOver 17 = .ok (.aload_n 0, 1) := by decide +kernel
theorem dX3_sentOver_18 : decode cX3_sentOver 18 = .ok (.getfield 12, 3) := by decide +kernel
theorem dX3_sentOver_21 : decode cX3_sentOver 21 = .ok (.aload_n 1, 1) := by decide +kernel
theorem dX3_sentOver_22 : decode cX3_sentOver 22 = .ok (.iload_n 2, 1) := by decide +kernel
theorem dX3_sentOver_23 : decode cX3_sentOver 23 = .ok (.invokevirtual 52, 3) := by decide +kernel
theorem dX3_sentOver_26 : decode cX3_sentOver 26 = .ok (.istore 6, 2) := by decide +kernel
theorem dX3_sentOver_28 : decode cX3_sentOver 28 = .ok (.iload 5, 2) := by decide +kernel
theorem dX3_sentOver_30 : decode cX3_sentOver 30 = .ok (.iload 6, 2) := by decide +kernel
theorem dX3_sentOver_32 : decode cX3_sentOver 32 = .ok (.invokestatic 56, 3) := by decide +kernel
theorem dX3_sentOver_35 : decode cX3_sentOver 35 = .ok (.istore 7, 2) := by decide +kernel
theorem dX3_sentOver_37 : decode cX3_sentOver 37 = .ok (.iload 5, 2) := by decide +kernel
theorem dX3_sentOver_39 : decode cX3_sentOver 39 = .ok (.iload 6, 2) := by decide +kernel
theorem dX3_sentOver_41 : decode cX3_sentOver 41 = .ok (.invokestatic 62, 3) := by decide +kernel
theorem dX3_sentOver_44 : decode cX3_sentOver 44 = .ok (.istore 8, 2) := by decide +kernel
theorem dX3_sentOver_46 : decode cX3_sentOver 46 = .ok (.iload 4, 2) := by decide +kernel
theorem dX3_sentOver_48 : decode cX3_sentOver 48 = .ok (.aload_n 0, 1) := by decide +kernel
theorem dX3_sentOver_49 : decode cX3_sentOver 49 = .ok (.getfield 25, 3) := by decide +kernel
theorem dX3_sentOver_52 : decode cX3_sentOver 52 = .ok (.iload_n 2, 1) := by decide +kernel
theorem dX3_sentOver_53 : decode cX3_sentOver 53 = .ok (.iaload, 1) := by decide +kernel
theorem dX3_sentOver_54 : decode cX3_sentOver 54 = .ok (.if_icmp .ne 25, 3) := by decide +kernel
theorem dX3_sentOver_57 : decode cX3_sentOver 57 = .ok (.iload 7, 2) := by decide +kernel
theorem dX3_sentOver_59 : decode cX3_sentOver 59 = .ok (.aload_n 0, 1) := by decide +kernel
theorem dX3_sentOver_60 : decode cX3_sentOver 60 = .ok (.getfield 18, 3) := by decide +kernel
theorem dX3_sentOver_63 : decode cX3_sentOver 63 = .ok (.iload_n 2, 1) := by decide +kernel
theorem dX3_sentOver_64 : decode cX3_sentOver 64 = .ok (.iaload, 1) := by decide +kernel
theorem dX3_sentOver_65 : decode cX3_sentOver 65 = .ok (.if_icmp .ne 14, 3) := by decide +kernel
theorem dX3_sentOver_68 : decode cX3_sentOver 68 = .ok (.iload 8, 2) := by decide +kernel
theorem dX3_sentOver_70 : decode cX3_sentOver 70 = .ok (.aload_n 0, 1) := by decide +kernel
theorem dX3_sentOver_71 : decode cX3_sentOver 71 = .ok (.getfield 22, 3) := by decide +kernel
theorem dX3_sentOver_74 : decode cX3_sentOver 74 = .ok (.iload_n 2, 1) := by decide +kernel
theorem dX3_sentOver_75 : decode cX3_sentOver 75 = .ok (.iaload, 1) := by decide +kernel
theorem dX3_sentOver_76 : decode cX3_sentOver 76 = .ok (.if_icmp .eq 46, 3) := by decide +kernel
theorem dX3_sentOver_79 : decode cX3_sentOver 79 = .ok (.aload_n 0, 1) := by decide +kernel
theorem dX3_sentOver_80 : decode cX3_sentOver 80 = .ok (.getfield 25, 3) := by decide +kernel
theorem dX3_sentOver_83 : decode cX3_sentOver 83 = .ok (.iload_n 2, 1) := by decide +kernel
theorem dX3_sentOver_84 : decode cX3_sentOver 84 = .ok (.iload 4, 2) := by decide +kernel
theorem dX3_sentOver_86 : decode cX3_sentOver 86 = .ok (.iastore, 1) := by decide +kernel
theorem dX3_sentOver_87 : decode cX3_sentOver 87 = .ok (.aload_n 0, 1) := by decide +kernel
theorem dX3_sentOver_88 : decode cX3_sentOver 88 = .ok (.getfield 18, 3) := by decide +kernel
theorem dX3_sentOver_91 : decode cX3_sentOver 91 = .ok (.iload_n 2, 1) := by decide +kernel
theorem dX3_sentOver_92 : decode cX3_sentOver 92 = .ok (.iload 7, 2) := by decide +kernel
theorem dX3_sentOver_94 : decode cX3_sentOver 94 = .ok (.iastore, 1) := by decide +kernel
theorem dX3_sentOver_95 : decode cX3_sentOver 95 = .ok (.aload_n 0, 1) := by decide +kernel
theorem dX3_sentOver_96 : decode cX3_sentOver 96 = .ok (.getfield 22, 3) := by decide +kernel
theorem dX3_sentOver_99 : decode cX3_sentOver 99 = .ok (.iload_n 2, 1) := by decide +kernel
theorem dX3_sentOver_100 : decode cX3_sentOver 100 = .ok (.iload 8, 2) := by decide +kernel
theorem dX3_sentOver_102 : decode cX3_sentOver 102 = .ok (.iastore, 1) := by decide +kernel
theorem dX3_sentOver_103 : decode cX3_sentOver 103 = .ok (.aload_n 0, 1) := by decide +kernel
theorem dX3_sentOver_104 : decode cX3_sentOver 104 = .ok (.getfield 28, 3) := by decide +kernel
theorem dX3_sentOver_107 : decode cX3_sentOver 107 = .ok (.iload_n 2, 1) := by decide +kernel
theorem dX3_sentOver_108 : decode cX3_sentOver 108 = .ok (.iload 7, 2) := by decide +kernel
theorem dX3_sentOver_110 : decode cX3_sentOver 110 = .ok (.iload 8, 2) := by decide +kernel
theorem dX3_sentOver_112 : decode cX3_sentOver 112 = .ok (.aload_n 0, 1) := by decide +kernel
theorem dX3_sentOver_113 : decode cX3_sentOver 113 = .ok (.getfield 35, 3) := by decide +kernel
theorem dX3_sentOver_116 : decode cX3_sentOver 116 = .ok (.iload 4, 2) := by decide +kernel
theorem dX3_sentOver_118 : decode cX3_sentOver 118 = .ok (.invokestatic 65, 3) := by decide +kernel
theorem dX3_sentOver_121 : decode cX3_sentOver 121 = .ok (.iastore, 1) := by decide +kernel
theorem dX3_sentOver_122 : decode cX3_sentOver 122 = .ok (.aload_n 0, 1) := by decide +kernel
theorem dX3_sentOver_123 : decode cX3_sentOver 123 = .ok (.getfield 28, 3) := by decide +kernel
theorem dX3_sentOver_126 : decode cX3_sentOver 126 = .ok (.iload_n 2, 1) := by decide +kernel
theorem dX3_sentOver_127 : decode cX3_sentOver 127 = .ok (.iaload, 1) := by decide +kernel
theorem dX3_sentOver_128 : decode cX3_sentOver 128 = .ok (.ireturn, 1) := by decide +kernel
theorem dX4_init_0 : decode cX4_init 0 = .ok (.aload_n 0, 1) := by decide +kernel
theorem dX4_init_1 : decode cX4_init 1 = .ok (.invokespecial 3, 3) := by decide +kernel
theorem dX4_init_4 : decode cX4_init 4 = .ok (.aload_n 0, 1) := by decide +kernel
theorem dX4_init_5 : decode cX4_init 5 = .ok (.iconst 4, 1) := by decide +kernel
theorem dX4_init_6 : decode cX4_init 6 = .ok (.bipush 8, 2) := by decide +kernel
theorem dX4_init_8 : decode cX4_init 8 = .ok (.multianewarray 9 2, 4) := by decide +kernel
theorem dX4_init_12 : decode cX4_init 12 = .ok (.putfield 11, 3) := by decide +kernel
theorem dX4_init_15 : decode cX4_init 15 = .ok (.aload_n 0, 1) := by decide +kernel
theorem dX4_init_16 : decode cX4_init 16 = .ok (.iconst 3, 1) := by decide +kernel
theorem dX4_init_17 : decode cX4_init 17 = .ok (.bipush 8, 2) := by decide +kernel
theorem dX4_init_19 : decode cX4_init 19 = .ok (.multianewarray 9 2, 4) := by decide +kernel
theorem dX4_init_23 : decode cX4_init 23 = .ok (.putfield 16, 3) := by decide +kernel
theorem dX4_init_26 : decode cX4_init 26 = .ok (.aload_n 0, 1) := by decide +kernel
theorem dX4_init_27 : decode cX4_init 27 = .ok (.iconst 3, 1) := by decide +kernel
theorem dX4_init_28 : decode cX4_init 28 = .ok (.bipush 8, 2) := by decide +kernel
theorem dX4_init_30 : decode cX4_init 30 = .ok (.multianewarray 9 2, 4) := by decide +kernel
theorem dX4_init_34 : decode cX4_init 34 = .ok (.putfield 19, 3) := by decide +kernel
theorem dX4_init_37 : decode cX4_init 37 = .ok (.aload_n 0, 1) := by decide +kernel
theorem dX4_init_38 : decode cX4_init 38 = .ok (.iconst 3, 1) := by decide +kernel
theorem dX4_init_39 : decode cX4_init 39 = .ok (.newarray .int, 2) := by decide +kernel
theorem dX4_init_41 : decode cX4_init 41 = .ok (.putfield 22, 3) := by decide +kernel
theorem dX4_init_44 : decode cX4_init 44 = .ok (.aload_n 0, 1) := by decide +kernel
theorem dX4_init_45 : decode cX4_init 45 = .ok (.bipush 8, 2) := by decide +kernel
theorem dX4_init_47 : decode cX4_init 47 = .ok (.newarray .boolean, 2) := by decide +kernel
theorem dX4_init_49 : decode cX4_init 49 = .ok (.putfield 26, 3) := by decide +kernel
theorem dX4_init_52 : decode cX4_init 52 = .ok (.iconst 0, 1) := by decide +kernel
theorem dX4_init_53 : decode cX4_init 53 = .ok (.istore_n 1, 1) := by decide +kernel
theorem dX4_init_54 : decode cX4_init 54 = .ok (.iload_n 1, 1) := by decide +kernel
theorem dX4_init_55 : decode cX4_init 55 = .ok (.iconst 4, 1) := by decide +kernel
theorem dX4_init_56 : decode cX4_init 56 = .ok (.if_icmp .ge 20, 3) := by decide +kernel
theorem dX4_init_59 : decode cX4_init 59 = .ok (.aload_n 0, 1) := by decide +kernel
theorem dX4_init_60 : decode cX4_init 60 = .ok (.getfield 11, 3) := by decide +kernel
theorem dX4_init_63 : decode cX4_init 63 = .ok (.iload_n 1, 1) := by decide +kernel
theorem dX4_init_64 : decode cX4_init 64 = .ok (.aaload, 1) := by decide +kernel
theorem dX4_init_65 : decode cX4_init 65 = .ok (.bipush 10, 2) := by decide +kernel
theorem dX4_init_67 : decode cX4_init 67 = .ok (.invokestatic 30, 3) := by decide +kernel
theorem dX4_init_70 : decode cX4_init 70 = .ok (.iinc 1 1, 3) := by decide +kernel
theorem dX4_init_73 : decode cX4_init 73 = .ok (.goto (-19), 3) := by decide +kernel
theorem dX4_init_76 : decode cX4_init 76 = .ok (.iconst 0, 1) := by decide +kernel
theorem dX4_init_77 : decode cX4_init 77 = .ok (.istore_n 1, 1) := by decide +kernel
theorem dX4_init_78 : decode cX4_init 78 = .ok (.iload_n 1, 1) := by decide +kernel
theorem dX4_init_79 : decode cX4_init 79 = .ok (.iconst 3, 1) := by decide +kernel
theorem dX4_init_80 : decode cX4_init 80 = .ok (.if_icmp .ge 40, 3) := by decide +kernel
theorem dX4_init_83 : decode cX4_init 83 = .ok (.aload_n 0, 1) := by decide +kernel
theorem dX4_init_84 : decode cX4_init 84 = .ok (.getfield 16, 3) := by decide +kernel
theorem dX4_init_87 : decode cX4_init 87 = .ok (.iconst 0, 1) := by decide +kernel
theorem dX4_init_88 : decode cX4_init 88 = .ok (.aaload, 1) := by decide +kernel
theorem dX4_init_89 : decode cX4_init 89 = .ok (.iconst 5, 1) := by decide +kernel
theorem dX4_init_90 : decode cX4_init 90 = .ok (.iload_n 1, 1) := by decide +kernel
theorem dX4_init_91 : decode cX4_init 91 = .ok (.iadd, 1) := by decide +kernel
theorem dX4_init_92 : decode cX4_init 92 = .ok (.iconst 1, 1) := by decide +kernel
theorem dX4_init_93 : decode cX4_init 93 = .ok (.iastore, 1) := by decide +kernel
theorem dX4_init_94 : decode cX4_init 94 = .ok (.aload_n 0, 1) := by decide +kernel
theorem dX4_init_95 : decode cX4_init 95 = .ok (.getfield 16, 3) := by decide +kernel
theorem dX4_init_98 : decode cX4_init 98 = .ok (.iconst 1, 1) := by decide +kernel
theorem dX4_init_99 : decode cX4_init 99 = .ok (.aaload, 1) := by decide +kernel
theorem dX4_init_100 : decode cX4_init 100 = .ok (.iconst 3, 1) := by decide +kernel
theorem dX4_init_101 : decode cX4_init 101 = .ok (.iload_n 1, 1) := by decide +kernel
theorem dX4_init_102 : decode cX4_init 102 = .ok (.iadd, 1) := by decide +kernel
theorem dX4_init_103 : decode cX4_init 103 = .ok (.iconst 1, 1) := by decide +kernel
theorem dX4_init_104 : decode cX4_init 104 = .ok (.iastore, 1) := by decide +kernel
theorem dX4_init_105 : decode cX4_init 105 = .ok (.aload_n 0, 1) := by decide +kernel
theorem dX4_init_106 : decode cX4_init 106 = .ok (.getfield 16, 3) := by decide +kernel
theorem dX4_init_109 : decode cX4_init 109 = .ok (.iconst 2, 1) := by decide +kernel
theorem dX4_init_110 : decode cX4_init 110 = .ok (.aaload, 1) := by decide +kernel
theorem dX4_init_111 : decode cX4_init 111 = .ok (.iload_n 1, 1) := by decide +kernel
theorem dX4_init_112 : decode cX4_init 112 = .ok (.iconst 1, 1) := by decide +kernel
theorem dX4_init_113 : decode cX4_init 113 = .ok (.iastore, 1) := by decide +kernel
theorem dX4_init_114 : decode cX4_init 114 = .ok (.iinc 1 1, 3) := by decide +kernel
theorem dX4_init_117 : decode cX4_init 117 = .ok (.goto (-39), 3) := by decide +kernel
theorem dX4_init_120 : decode cX4_init 120 = .ok (.return_, 1) := by decide +kernel
theorem dX4_shine_0 : decode cX4_shine 0 = .ok (.aload_n 0, 1) := by decide +kernel
theorem dX4_shine_1 : decode cX4_shine 1 = .ok (.getfield 22, 3) := by decide +kernel
theorem dX4_shine_4 : decode cX4_shine 4 = .ok (.iconst 0, 1) := by decide +kernel
theorem dX4_shine_5 : decode cX4_shine 5 = .ok (.invokestatic 30, 3) := by decide +kernel
theorem dX4_shine_8 : decode cX4_shine 8 = .ok (.iconst 0, 1) := by decide +kernel
theorem dX4_shine_9 : decode cX4_shine 9 = .ok (.istore_n 2, 1) := by decide +kernel
theorem dX4_shine_10 : decode cX4_shine 10 = .ok (.iload_n 2, 1) := by decide +kernel
theorem dX4_shine_11 : decode cX4_shine 11 = .ok (.bipush 8, 2) := by decide +kernel
theorem dX4_shine_13 : decode cX4_shine 13 = .ok (.if_icmp .ge 96, 3) := by decide +kernel
theorem dX4_shine_16 : decode cX4_shine 16 = .ok (.aload_n 0, 1) := by decide +kernel
theorem dX4_shine_17 : decode cX4_shine 17 = .ok (.getfield 26, 3) := by decide +kernel
theorem dX4_shine_20 : decode cX4_shine 20 = .ok (.iload_n 2, 1) := by decide +kernel
theorem dX4_shine_21 : decode cX4_shine 21 = .ok (.iconst 0, 1) := by decide +kernel
theorem dX4_shine_22 : decode cX4_shine 22 = .ok (.bastore, 1) := by decide +kernel
theorem dX4_shine_23 : decode cX4_shine 23 = .ok (.iconst 0, 1) := by decide +kernel
theorem dX4_shine_24 : decode cX4_shine 24 = .ok (.istore_n 3, 1) := by decide +kernel
theorem dX4_shine_25 : decode cX4_shine 25 = .ok (.iload_n 3, 1) := by decide +kernel
theorem dX4_shine_26 : decode cX4_shine 26 = .ok (.iconst 3, 1) := by decide +kernel
theorem dX4_shine_27 : decode cX4_shine 27 = .ok (.if_icmp .ge 76, 3) := by decide +kernel
theorem dX4_shine_30 : decode cX4_shine 30 = .ok (.aload_n 0, 1) := by decide +kernel
theorem dX4_shine_31 : decode cX4_shine 31 = .ok (.getfield 19, 3) := by decide +kernel
theorem dX4_shine_34 : decode cX4_shine 34 = .ok (.iload_n 3, 1) := by decide +kernel
theorem dX4_shine_35 : decode cX4_shine 35 = .ok (.aaload, 1) := by decide +kernel
theorem dX4_shine_36 : decode cX4_shine 36 = .ok (.iload_n 2, 1) := by decide +kernel
theorem dX4_shine_37 : decode cX4_shine 37 = .ok (.aload_n 0, 1) := by decide +kernel
theorem dX4_shine_38 : decode cX4_shine 38 = .ok (.getfield 11, 3) := by decide +kernel
theorem dX4_shine_41 : decode cX4_shine 41 = .ok (.iload_n 1, 1) := by decide +kernel
theorem dX4_shine_42 : decode cX4_shine 42 = .ok (.aaload, 1) := by decide +kernel
theorem dX4_shine_43 : decode cX4_shine 43 = .ok (.iload_n 2, 1) := by decide +kernel
theorem dX4_shine_44 : decode cX4_shine 44 = .ok (.iaload, 1) := by decide +kernel
theorem dX4_shine_45 : decode cX4_shine 45 = .ok (.aload_n 0, 1) := by decide +kernel
theorem dX4_shine_46 : decode cX4_shine 46 = .ok (.getfield 16, 3) := by decide +kernel
theorem dX4_shine_49 : decode cX4_shine 49 = .ok (.iload_n 3, 1) := by decide +kernel
theorem dX4_shine_50 : decode cX4_shine 50 = .ok (.aaload, 1) := by decide +kernel
theorem dX4_shine_51 : decode cX4_shine 51 = .ok (.iload_n 2, 1) := by decide +kernel
theorem dX4_shine_52 : decode cX4_shine 52 = .ok (.iaload, 1) := by decide +kernel
theorem dX4_shine_53 : decode cX4_shine 53 = .ok (.imul, 1) := by decide +kernel
theorem dX4_shine_54 : decode cX4_shine 54 = .ok (.iastore, 1) := by decide +kernel
theorem dX4_shine_55 : decode cX4_shine 55 = .ok (.aload_n 0, 1) := by decide +kernel
theorem dX4_shine_56 : decode cX4_shine 56 = .ok (.getfield 22, 3) := by decide +kernel
theorem dX4_shine_59 : decode cX4_shine 59 = .ok (.iload_n 3, 1) := by decide +kernel
theorem dX4_shine_60 : decode cX4_shine 60 = .ok (.dup2, 1) := by decide +kernel
theorem dX4_shine_61 : decode cX4_shine 61 = .ok (.iaload, 1) := by decide +kernel
theorem dX4_shine_62 : decode cX4_shine 62 = .ok (.aload_n 0, 1) := by decide +kernel
theorem dX4_shine_63 : decode cX4_shine 63 = .ok (.getfield 19, 3) := by decide +kernel
theorem dX4_shine_66 : decode cX4_shine 66 = .ok (.iload_n 3, 1) := by decide +kernel
theorem dX4_shine_67 : decode cX4_shine 67 = .ok (.aaload, 1) := by decide +kernel
theorem dX4_shine_68 : decode cX4_shine 68 = .ok (.iload_n 2, 1) := by decide +kernel
theorem dX4_shine_69 : decode cX4_shine 69 = .ok (.iaload, 1) := by decide +kernel
theorem dX4_shine_70 : decode cX4_shine 70 = .ok (.iadd, 1) := by decide +kernel
theorem dX4_shine_71 : decode cX4_shine 71 = .ok (.iastore, 1) := by decide +kernel
theorem dX4_shine_72 : decode cX4_shine 72 = .ok (.aload_n 0, 1) := by decide +kernel
theorem dX4_shine_73 : decode cX4_shine 73 = .ok (.getfield 26, 3) := by decide +kernel
theorem dX4_shine_76 : decode cX4_shine 76 = .ok (.iload_n 2, 1) := by decide +kernel
theorem dX4_shine_77 : decode cX4_shine 77 = .ok (.dup2, 1) := by decide +kernel
theorem dX4_shine_78 : decode cX4_shine 78 = .ok (.baload, 1) := by decide +kernel
theorem dX4_shine_79 : decode cX4_shine 79 = .ok (.aload_n 0, 1) := by decide +kernel
theorem dX4_shine_80 : decode cX4_shine 80 = .ok (.getfield 19, 3) := by decide +kernel
theorem dX4_shine_83 : decode cX4_shine 83 = .ok (.iload_n 3, 1) := by decide +kernel
theorem dX4_shine_84 : decode cX4_shine 84 = .ok (.aaload, 1) := by decide +kernel
theorem dX4_shine_85 : decode cX4_shine 85 = .ok (.iload_n 2, 1) := by decide +kernel
theorem dX4_shine_86 : decode cX4_shine 86 = .ok (.iaload, 1) := by decide +kernel
theorem dX4_shine_87 : decode cX4_shine 87 = .ok (.ifCond .le 7, 3) := by decide +kernel
theorem dX4_shine_90 : decode cX4_shine 90 = .ok (.iconst 1, 1) := by decide +kernel
theorem dX4_shine_91 : decode cX4_shine 91 = .ok (.goto 4, 3) := by decide +kernel
theorem dX4_shine_94 : decode cX4_shine 94 = .ok (.iconst 0, 1) := by decide +kernel
theorem dX4_shine_95 : decode cX4_shine 95 = .ok (.ior, 1) := by decide +kernel
theorem dX4_shine_96 : decode cX4_shine 96 = .ok (.bastore, 1) := by decide +kernel
theorem dX4_shine_97 : decode cX4_shine 97 = .ok (.iinc 3 1, 3) := by decide +kernel
theorem dX4_shine_100 : decode cX4_shine 100 = .ok (.goto (-75), 3) := by decide +kernel
theorem dX4_shine_103 : decode cX4_shine 103 = .ok (.iinc 2 1, 3) := by decide +kernel
theorem dX4_shine_106 : decode cX4_shine 106 = .ok (.goto (-96), 3) := by decide +kernel
theorem dX4_shine_109 : decode cX4_shine 109 = .ok (.return_, 1) := by decide +kernel
theorem dX4_bySight_0 : decode cX4_bySight 0 = .ok (.aload_n 0, 1) := by decide +kernel
theorem dX4_bySight_1 : decode cX4_bySight 1 = .ok (.getfield 22, 3) := by decide +kernel
theorem dX4_bySight_4 : decode cX4_bySight 4 = .ok (.iload_n 1, 1) := by decide +kernel
theorem dX4_bySight_5 : decode cX4_bySight 5 = .ok (.iaload, 1) := by decide +kernel
theorem dX4_bySight_6 : decode cX4_bySight 6 = .ok (.ifCond .gt 5, 3) := by decide +kernel
theorem dX4_bySight_9 : decode cX4_bySight 9 = .ok (.iconst 0, 1) := by decide +kernel
theorem dX4_bySight_10 : decode cX4_bySight 10 = .ok (.ireturn, 1) := by decide +kernel
theorem dX4_bySight_11 : decode cX4_bySight 11 = .ok (.aload_n 0, 1) := by decide +kernel
theorem dX4_bySight_12 : decode cX4_bySight 12 = .ok (.getfield 19, 3) := by decide +kernel
