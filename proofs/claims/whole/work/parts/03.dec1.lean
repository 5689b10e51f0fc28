theorem dX4_bySight_15 : decode cX4_bySight 15 = .ok (.iload_n 1, 1) := by decide +kernel
theorem dX4_bySight_16 : decode cX4_bySight 16 = .ok (.aaload, 1) := by decide +kernel
theorem dX4_bySight_17 : decode cX4_bySight 17 = .ok (.astore_n 3, 1) := by decide +kernel
theorem dX4_bySight_18 : decode cX4_bySight 18 = .ok (.iconst 0, 1) := by decide +kernel
theorem dX4_bySight_19 : decode cX4_bySight 19 = .ok (.istore 4, 2) := by decide +kernel
theorem dX4_bySight_21 : decode cX4_bySight 21 = .ok (.iconst 0, 1) := by decide +kernel
theorem dX4_bySight_22 : decode cX4_bySight 22 = .ok (.istore 5, 2) := by decide +kernel
theorem dX4_bySight_24 : decode cX4_bySight 24 = .ok (.iload 5, 2) := by decide +kernel
theorem dX4_bySight_26 : decode cX4_bySight 26 = .ok (.bipush 8, 2) := by decide +kernel
theorem dX4_bySight_28 : decode cX4_bySight 28 = .ok (.if_icmp .ge 23, 3) := by decide +kernel
theorem dX4_bySight_31 : decode cX4_bySight 31 = .ok (.iload 4, 2) := by decide +kernel
theorem dX4_bySight_33 : decode cX4_bySight 33 = .ok (.aload_n 3, 1) := by decide +kernel
theorem dX4_bySight_34 : decode cX4_bySight 34 = .ok (.iload 5, 2) := by decide +kernel
theorem dX4_bySight_36 : decode cX4_bySight 36 = .ok (.iaload, 1) := by decide +kernel
theorem dX4_bySight_37 : decode cX4_bySight 37 = .ok (.aload_n 2, 1) := by decide +kernel
theorem dX4_bySight_38 : decode cX4_bySight 38 = .ok (.iload 5, 2) := by decide +kernel
theorem dX4_bySight_40 : decode cX4_bySight 40 = .ok (.iaload, 1) := by decide +kernel
theorem dX4_bySight_41 : decode cX4_bySight 41 = .ok (.imul, 1) := by decide +kernel
theorem dX4_bySight_42 : decode cX4_bySight 42 = .ok (.iadd, 1) := by decide +kernel
theorem dX4_bySight_43 : decode cX4_bySight 43 = .ok (.istore 4, 2) := by decide +kernel
theorem dX4_bySight_45 : decode cX4_bySight 45 = .ok (.iinc 5 1, 3) := by decide +kernel
theorem dX4_bySight_48 : decode cX4_bySight 48 = .ok (.goto (-24), 3) := by decide +kernel
theorem dX4_bySight_51 : decode cX4_bySight 51 = .ok (.iload 4, 2) := by decide +kernel
theorem dX4_bySight_53 : decode cX4_bySight 53 = .ok (.aload_n 0, 1) := by decide +kernel
theorem dX4_bySight_54 : decode cX4_bySight 54 = .ok (.getfield 22, 3) := by decide +kernel
theorem dX4_bySight_57 : decode cX4_bySight 57 = .ok (.iload_n 1, 1) := by decide +kernel
theorem dX4_bySight_58 : decode cX4_bySight 58 = .ok (.iaload, 1) := by decide +kernel
theorem dX4_bySight_59 : decode cX4_bySight 59 = .ok (.idiv, 1) := by decide +kernel
theorem dX4_bySight_60 : decode cX4_bySight 60 = .ok (.ireturn, 1) := by decide +kernel
theorem dX4_farFrom_0 : decode cX4_farFrom 0 = .ok (.iconst 0, 1) := by decide +kernel
theorem dX4_farFrom_1 : decode cX4_farFrom 1 = .ok (.istore_n 3, 1) := by decide +kernel
theorem dX4_farFrom_2 : decode cX4_farFrom 2 = .ok (.iconst 0, 1) := by decide +kernel
theorem dX4_farFrom_3 : decode cX4_farFrom 3 = .ok (.istore 4, 2) := by decide +kernel
theorem dX4_farFrom_5 : decode cX4_farFrom 5 = .ok (.iload 4, 2) := by decide +kernel
theorem dX4_farFrom_7 : decode cX4_farFrom 7 = .ok (.iconst 3, 1) := by decide +kernel
theorem dX4_farFrom_8 : decode cX4_farFrom 8 = .ok (.if_icmp .ge 27, 3) := by decide +kernel
theorem dX4_farFrom_11 : decode cX4_farFrom 11 = .ok (.iload_n 3, 1) := by decide +kernel
theorem dX4_farFrom_12 : decode cX4_farFrom 12 = .ok (.aload_n 0, 1) := by decide +kernel
theorem dX4_farFrom_13 : decode cX4_farFrom 13 = .ok (.iload 4, 2) := by decide +kernel
theorem dX4_farFrom_15 : decode cX4_farFrom 15 = .ok (.aload_n 2, 1) := by decide +kernel
theorem dX4_farFrom_16 : decode cX4_farFrom 16 = .ok (.invokevirtual 36, 3) := by decide +kernel
theorem dX4_farFrom_19 : decode cX4_farFrom 19 = .ok (.aload_n 1, 1) := by decide +kernel
theorem dX4_farFrom_20 : decode cX4_farFrom 20 = .ok (.iload 4, 2) := by decide +kernel
theorem dX4_farFrom_22 : decode cX4_farFrom 22 = .ok (.iaload, 1) := by decide +kernel
theorem dX4_farFrom_23 : decode cX4_farFrom 23 = .ok (.isub, 1) := by decide +kernel
theorem dX4_farFrom_24 : decode cX4_farFrom 24 = .ok (.invokestatic 40, 3) := by decide +kernel
theorem dX4_farFrom_27 : decode cX4_farFrom 27 = .ok (.iadd, 1) := by decide +kernel
theorem dX4_farFrom_28 : decode cX4_farFrom 28 = .ok (.istore_n 3, 1) := by decide +kernel
theorem dX4_farFrom_29 : decode cX4_farFrom 29 = .ok (.iinc 4 1, 3) := by decide +kernel
theorem dX4_farFrom_32 : decode cX4_farFrom 32 = .ok (.goto (-27), 3) := by decide +kernel
theorem dX4_farFrom_35 : decode cX4_farFrom 35 = .ok (.iload_n 3, 1) := by decide +kernel
theorem dX4_farFrom_36 : decode cX4_farFrom 36 = .ok (.ireturn, 1) := by decide +kernel
theorem dX5_init_0 : decode cX5_init 0 = .ok (.aload_n 0, 1) := by decide +kernel
theorem dX5_init_1 : decode cX5_init 1 = .ok (.invokespecial 3, 3) := by decide +kernel
theorem dX5_init_4 : decode cX5_init 4 = .ok (.aload_n 0, 1) := by decide +kernel
theorem dX5_init_5 : decode cX5_init 5 = .ok (.iconst 0, 1) := by decide +kernel
theorem dX5_init_6 : decode cX5_init 6 = .ok (.putfield 9, 3) := by decide +kernel
theorem dX5_init_9 : decode cX5_init 9 = .ok (.aload_n 0, 1) := by decide +kernel
theorem dX5_init_10 : decode cX5_init 10 = .ok (.iconst 0, 1) := by decide +kernel
theorem dX5_init_11 : decode cX5_init 11 = .ok (.putfield 15, 3) := by decide +kernel
theorem dX5_init_14 : decode cX5_init 14 = .ok (.aload_n 0, 1) := by decide +kernel
theorem dX5_init_15 : decode cX5_init 15 = .ok (.iconst 0, 1) := by decide +kernel
theorem dX5_init_16 : decode cX5_init 16 = .ok (.putfield 19, 3) := by decide +kernel
theorem dX5_init_19 : decode cX5_init 19 = .ok (.aload_n 0, 1) := by decide +kernel
theorem dX5_init_20 : decode cX5_init 20 = .ok (.bipush 12, 2) := by decide +kernel
theorem dX5_init_22 : decode cX5_init 22 = .ok (.newarray .int, 2) := by decide +kernel
theorem dX5_init_24 : decode cX5_init 24 = .ok (.putfield 22, 3) := by decide +kernel
theorem dX5_init_27 : decode cX5_init 27 = .ok (.aload_n 0, 1) := by decide +kernel
theorem dX5_init_28 : decode cX5_init 28 = .ok (.iconst 3, 1) := by decide +kernel
theorem dX5_init_29 : decode cX5_init 29 = .ok (.newarray .int, 2) := by decide +kernel
theorem dX5_init_31 : decode cX5_init 31 = .ok (.putfield 26, 3) := by decide +kernel
theorem dX5_init_34 : decode cX5_init 34 = .ok (.return_, 1) := by decide +kernel
theorem dX5_nearest_0 : decode cX5_nearest 0 = .ok (.aload_n 3, 1) := by decide +kernel
theorem dX5_nearest_1 : decode cX5_nearest 1 = .ok (.iconst 0, 1) := by decide +kernel
theorem dX5_nearest_2 : decode cX5_nearest 2 = .ok (.aload_n 0, 1) := by decide +kernel
theorem dX5_nearest_3 : decode cX5_nearest 3 = .ok (.getfield 26, 3) := by decide +kernel
theorem dX5_nearest_6 : decode cX5_nearest 6 = .ok (.iconst 0, 1) := by decide +kernel
theorem dX5_nearest_7 : decode cX5_nearest 7 = .ok (.iconst 3, 1) := by decide +kernel
theorem dX5_nearest_8 : decode cX5_nearest 8 = .ok (.invokestatic 29, 3) := by decide +kernel
theorem dX5_nearest_11 : decode cX5_nearest 11 = .ok (.aload_n 0, 1) := by decide +kernel
theorem dX5_nearest_12 : decode cX5_nearest 12 = .ok (.iconst 1, 1) := by decide +kernel
theorem dX5_nearest_13 : decode cX5_nearest 13 = .ok (.putfield 9, 3) := by decide +kernel
theorem dX5_nearest_16 : decode cX5_nearest 16 = .ok (.aload_n 0, 1) := by decide +kernel
theorem dX5_nearest_17 : decode cX5_nearest 17 = .ok (.sipush 30001, 3) := by decide +kernel
theorem dX5_nearest_20 : decode cX5_nearest 20 = .ok (.putfield 19, 3) := by decide +kernel
theorem dX5_nearest_23 : decode cX5_nearest 23 = .ok (.aload_n 0, 1) := by decide +kernel
theorem dX5_nearest_24 : decode cX5_nearest 24 = .ok (.aload_n 1, 1) := by decide +kernel
theorem dX5_nearest_25 : decode cX5_nearest 25 = .ok (.aload_n 2, 1) := by decide +kernel
theorem dX5_nearest_26 : decode cX5_nearest 26 = .ok (.iload 4, 2) := by decide +kernel
theorem dX5_nearest_28 : decode cX5_nearest 28 = .ok (.iload 5, 2) := by decide +kernel
theorem dX5_nearest_30 : decode cX5_nearest 30 = .ok (.invokevirtual 35, 3) := by decide +kernel
theorem dX5_nearest_33 : decode cX5_nearest 33 = .ok (.aload_n 0, 1) := by decide +kernel
theorem dX5_nearest_34 : decode cX5_nearest 34 = .ok (.getfield 19, 3) := by decide +kernel
theorem dX5_nearest_37 : decode cX5_nearest 37 = .ok (.ireturn, 1) := by decide +kernel
theorem dX5_dropsOf_0 : decode cX5_dropsOf 0 = .ok (.aload_n 0, 1) := by decide +kernel
theorem dX5_dropsOf_1 : decode cX5_dropsOf 1 = .ok (.getfield 22, 3) := by decide +kernel
theorem dX5_dropsOf_4 : decode cX5_dropsOf 4 = .ok (.iload_n 1, 1) := by decide +kernel
theorem dX5_dropsOf_5 : decode cX5_dropsOf 5 = .ok (.iaload, 1) := by decide +kernel
theorem dX5_dropsOf_6 : decode cX5_dropsOf 6 = .ok (.ireturn, 1) := by decide +kernel
theorem dX5_weigh_0 : decode cX5_weigh 0 = .ok (.iconst 0, 1) := by decide +kernel
theorem dX5_weigh_1 : decode cX5_weigh 1 = .ok (.istore_n 2, 1) := by decide +kernel
theorem dX5_weigh_2 : decode cX5_weigh 2 = .ok (.iconst 0, 1) := by decide +kernel
theorem dX5_weigh_3 : decode cX5_weigh 3 = .ok (.istore_n 3, 1) := by decide +kernel
theorem dX5_weigh_4 : decode cX5_weigh 4 = .ok (.iload_n 3, 1) := by decide +kernel
theorem dX5_weigh_5 : decode cX5_weigh 5 = .ok (.iconst 3, 1) := by decide +kernel
theorem dX5_weigh_6 : decode cX5_weigh 6 = .ok (.if_icmp .ge 36, 3) := by decide +kernel
theorem dX5_weigh_9 : decode cX5_weigh 9 = .ok (.iload_n 2, 1) := by decide +kernel
theorem dX5_weigh_10 : decode cX5_weigh 10 = .ok (.aload_n 0, 1) := by decide +kernel
theorem dX5_weigh_11 : decode cX5_weigh 11 = .ok (.getfield 19, 3) := by decide +kernel
theorem dX5_weigh_14 : decode cX5_weigh 14 = .ok (.if_icmp .gt 28, 3) := by decide +kernel
theorem dX5_weigh_17 : decode cX5_weigh 17 = .ok (.iload_n 2, 1) := by decide +kernel
theorem dX5_weigh_18 : decode cX5_weigh 18 = .ok (.aload_n 0, 1) := by decide +kernel
theorem dX5_weigh_19 : decode cX5_weigh 19 = .ok (.aload_n 1, 1) := by decide +kernel
theorem dX5_weigh_20 : decode cX5_weigh 20 = .ok (.iload_n 3, 1) := by decide +kernel
theorem dX5_weigh_21 : decode cX5_weigh 21 = .ok (.invokevirtual 39, 3) := by decide +kernel
theorem dX5_weigh_24 : decode cX5_weigh 24 = .ok (.aload_n 0, 1) := by decide +kernel
theorem dX5_weigh_25 : decode cX5_weigh 25 = .ok (.getfield 26, 3) := by decide +kernel
theorem dX5_weigh_28 : decode cX5_weigh 28 = .ok (.iload_n 3, 1) := by decide +kernel
theorem dX5_weigh_29 : decode cX5_weigh 29 = .ok (.iaload, 1) := by decide +kernel
theorem dX5_weigh_30 : decode cX5_weigh 30 = .ok (.isub, 1) := by decide +kernel
theorem dX5_weigh_31 : decode cX5_weigh 31 = .ok (.invokestatic 43, 3) := by decide +kernel
theorem dX5_weigh_34 : decode cX5_weigh 34 = .ok (.iadd, 1) := by decide +kernel
theorem dX5_weigh_35 : decode cX5_weigh 35 = .ok (.istore_n 2, 1) := by decide +kernel
theorem dX5_weigh_36 : decode cX5_weigh 36 = .ok (.iinc 3 1, 3) := by decide +kernel
theorem dX5_weigh_39 : decode cX5_weigh 39 = .ok (.goto (-35), 3) := by decide +kernel
theorem dX5_weigh_42 : decode cX5_weigh 42 = .ok (.iload_n 2, 1) := by decide +kernel
theorem dX5_weigh_43 : decode cX5_weigh 43 = .ok (.aload_n 0, 1) := by decide +kernel
theorem dX5_weigh_44 : decode cX5_weigh 44 = .ok (.getfield 19, 3) := by decide +kernel
theorem dX5_weigh_47 : decode cX5_weigh 47 = .ok (.if_icmp .le 4, 3) := by decide +kernel
theorem dX5_weigh_50 : decode cX5_weigh 50 = .ok (.return_, 1) := by decide +kernel
theorem dX5_weigh_51 : decode cX5_weigh 51 = .ok (.aload_n 0, 1) := by decide +kernel
theorem dX5_weigh_52 : decode cX5_weigh 52 = .ok (.invokevirtual 49, 3) := by decide +kernel
theorem dX5_weigh_55 : decode cX5_weigh 55 = .ok (.istore_n 3, 1) := by decide +kernel
theorem dX5_weigh_56 : decode cX5_weigh 56 = .ok (.iload_n 2, 1) := by decide +kernel
theorem dX5_weigh_57 : decode cX5_weigh 57 = .ok (.aload_n 0, 1) := by decide +kernel
theorem dX5_weigh_58 : decode cX5_weigh 58 = .ok (.getfield 19, 3) := by decide +kernel
theorem dX5_weigh_61 : decode cX5_weigh 61 = .ok (.if_icmp .lt 11, 3) := by decide +kernel
theorem dX5_weigh_64 : decode cX5_weigh 64 = .ok (.iload_n 3, 1) := by decide +kernel
theorem dX5_weigh_65 : decode cX5_weigh 65 = .ok (.aload_n 0, 1) := by decide +kernel
theorem dX5_weigh_66 : decode cX5_weigh 66 = .ok (.getfield 15, 3) := by decide +kernel
theorem dX5_weigh_69 : decode cX5_weigh 69 = .ok (.if_icmp .ge 21, 3) := by decide +kernel
theorem dX5_weigh_72 : decode cX5_weigh 72 = .ok (.aload_n 0, 1) := by decide +kernel
theorem dX5_weigh_73 : decode cX5_weigh 73 = .ok (.iload_n 2, 1) := by decide +kernel
theorem dX5_weigh_74 : decode cX5_weigh 74 = .ok (.putfield 19, 3) := by decide +kernel
theorem dX5_weigh_77 : decode cX5_weigh 77 = .ok (.aload_n 0, 1) := by decide +kernel
theorem dX5_weigh_78 : decode cX5_weigh 78 = .ok (.iload_n 3, 1) := by decide +kernel
theorem dX5_weigh_79 : decode cX5_weigh 79 = .ok (.putfield 15, 3) := by decide +kernel
theorem dX5_weigh_82 : decode cX5_weigh 82 = .ok (.aload_n 0, 1) := by decide +kernel
theorem dX5_weigh_83 : decode cX5_weigh 83 = .ok (.aload_n 0, 1) := by decide +kernel
theorem dX5_weigh_84 : decode cX5_weigh 84 = .ok (.getfield 22, 3) := by decide +kernel
theorem dX5_weigh_87 : decode cX5_weigh 87 = .ok (.invokevirtual 53, 3) := by decide +kernel
theorem dX5_weigh_90 : decode cX5_weigh 90 = .ok (.return_, 1) := by decide +kernel
theorem dX6_init_0 : decode cX6_init 0 = .ok (.aload_n 0, 1) := by decide +kernel
theorem dX6_init_1 : decode cX6_init 1 = .ok (.invokespecial 3, 3) := by decide +kernel
theorem dX6_init_4 : decode cX6_init 4 = .ok (.aload_n 0, 1) := by decide +kernel
theorem dX6_init_5 : decode cX6_init 5 = .ok (.bipush 12, 2) := by decide +kernel
theorem dX6_init_7 : decode cX6_init 7 = .ok (.newarray .int, 2) := by decide +kernel
theorem dX6_init_9 : decode cX6_init 9 = .ok (.putfield 9, 3) := by decide +kernel
theorem dX6_init_12 : decode cX6_init 12 = .ok (.aload_n 0, 1) := by decide +kernel
theorem dX6_init_13 : decode cX6_init 13 = .ok (.iconst 0, 1) := by decide +kernel
theorem dX6_init_14 : decode cX6_init 14 = .ok (.putfield 15, 3) := by decide +kernel
theorem dX6_init_17 : decode cX6_init 17 = .ok (.return_, 1) := by decide +kernel
theorem dX6_of_0 : decode cX6_of 0 = .ok (.aload_n 0, 1) := by decide +kernel
theorem dX6_of_1 : decode cX6_of 1 = .ok (.getfield 9, 3) := by decide +kernel
theorem dX6_of_4 : decode cX6_of 4 = .ok (.iload_n 1, 1) := by decide +kernel
theorem dX6_of_5 : decode cX6_of 5 = .ok (.iaload, 1) := by decide +kernel
theorem dX6_of_6 : decode cX6_of 6 = .ok (.ireturn, 1) := by decide +kernel
theorem dX6_add_0 : decode cX6_add 0 = .ok (.aload_n 0, 1) := by decide +kernel
theorem dX6_add_1 : decode cX6_add 1 = .ok (.getfield 9, 3) := by decide +kernel
theorem dX6_add_4 : decode cX6_add 4 = .ok (.iload_n 1, 1) := by decide +kernel
theorem dX6_add_5 : decode cX6_add 5 = .ok (.dup2, 1) := by decide +kernel
theorem dX6_add_6 : decode cX6_add 6 = .ok (.iaload, 1) := by decide +kernel
theorem dX6_add_7 : decode cX6_add 7 = .ok (.iload_n 2, 1) := by decide +kernel
theorem dX6_add_8 : decode cX6_add 8 = .ok (.iadd, 1) := by decide +kernel
theorem dX6_add_9 : decode cX6_add 9 = .ok (.iastore, 1) := by decide +kernel
theorem dX6_add_10 : decode cX6_add 10 = .ok (.aload_n 0, 1) := by decide +kernel
theorem dX6_add_11 : decode cX6_add 11 = .ok (.dup, 1) := by decide +kernel
theorem dX6_add_12 : decode cX6_add 12 = .ok (.getfield 15, 3) := by decide +kernel
theorem dX6_add_15 : decode cX6_add 15 = .ok (.iload_n 2, 1) := by decide +kernel
theorem dX6_add_16 : decode cX6_add 16 = .ok (.iadd, 1) := by decide +kernel
theorem dX6_add_17 : decode cX6_add 17 = .ok (.putfield 15, 3) := by decide +kernel
theorem dX6_add_20 : decode cX6_add 20 = .ok (.return_, 1) := by decide +kernel
theorem dX6_addAll_0 : decode cX6_addAll 0 = .ok (.iconst 0, 1) := by decide +kernel
theorem dX6_addAll_1 : decode cX6_addAll 1 = .ok (.istore_n 2, 1) := by decide +kernel
theorem dX6_addAll_2 : decode cX6_addAll 2 = .ok (.iload_n 2, 1) := by decide +kernel
theorem dX6_addAll_3 : decode cX6_addAll 3 = .ok (.bipush 12, 2) := by decide +kernel
theorem dX6_addAll_5 : decode cX6_addAll 5 = .ok (.if_icmp .ge 20, 3) := by decide +kernel
theorem dX6_addAll_8 : decode cX6_addAll 8 = .ok (.aload_n 0, 1) := by decide +kernel
theorem dX6_addAll_9 : decode cX6_addAll 9 = .ok (.iload_n 2, 1) := by decide +kernel
theorem dX6_addAll_10 : decode cX6_addAll 10 = .ok (.aload_n 1, 1) := by decide +kernel
theorem dX6_addAll_11 : decode cX6_addAll 11 = .ok (.getfield 9, 3) := by decide +kernel
theorem dX6_addAll_14 : decode cX6_addAll 14 = .ok (.iload_n 2, 1) := by decide +kernel
theorem dX6_addAll_15 : decode cX6_addAll 15 = .ok (.iaload, 1) := by decide +kernel
theorem dX6_addAll_16 : decode cX6_addAll 16 = .ok (.invokevirtual 19, 3) := by decide +kernel
theorem dX6_addAll_19 : decode cX6_addAll 19 = .ok (.iinc 2 1, 3) := by decide +kernel
theorem dX6_addAll_22 : decode cX6_addAll 22 = .ok (.goto (-20), 3) := by decide +kernel
theorem dX6_addAll_25 : decode cX6_addAll 25 = .ok (.return_, 1) := by decide +kernel
theorem dX6_makeEmpty_0 : decode cX6_makeEmpty 0 = .ok (.aload_n 0, 1) := by decide +kernel
theorem dX6_makeEmpty_1 : decode cX6_makeEmpty 1 = .ok (.getfield 9, 3) := by decide +kernel
theorem dX6_makeEmpty_4 : decode cX6_makeEmpty 4 = .ok (.iconst 0, 1) := by decide +kernel
theorem dX6_makeEmpty_5 : decode cX6_makeEmpty 5 = .ok (.invokestatic 23, 3) := by decide +kernel
theorem dX6_makeEmpty_8 : decode cX6_makeEmpty 8 = .ok (.aload_n 0, 1) := by decide +kernel
theorem dX6_makeEmpty_9 : decode cX6_makeEmpty 9 = .ok (.iconst 0, 1) := by decide +kernel
theorem dX6_makeEmpty_10 : decode cX6_makeEmpty 10 = .ok (.putfield 15, 3) := by decide +kernel
theorem dX6_makeEmpty_13 : decode cX6_makeEmpty 13 = .ok (.return_, 1) := by decide +kernel
theorem dX6_drink_0 : decode cX6_drink 0 = .ok (.iconst 0, 1) := by decide +kernel
theorem dX6_drink_1 : decode cX6_drink 1 = .ok (.istore 4, 2) := by decide +kernel
theorem dX6_drink_3 : decode cX6_drink 3 = .ok (.iconst 0, 1) := by decide +kernel
theorem dX6_drink_4 : decode cX6_drink 4 = .ok (.istore 5, 2) := by decide +kernel
theorem dX6_drink_6 : decode cX6_drink 6 = .ok (.iload 5, 2) := by decide +kernel
theorem dX6_drink_8 : decode cX6_drink 8 = .ok (.aload_n 1, 1) := by decide +kernel
theorem dX6_drink_9 : decode cX6_drink 9 = .ok (.getfield 29, 3) := by decide +kernel
theorem dX6_drink_12 : decode cX6_drink 12 = .ok (.if_icmp .ge 44, 3) := by decide +kernel
theorem dX6_drink_15 : decode cX6_drink 15 = .ok (.aload_n 0, 1) := by decide +kernel
theorem dX6_drink_16 : decode cX6_drink 16 = .ok (.getfield 9, 3) := by decide +kernel
theorem dX6_drink_19 : decode cX6_drink 19 = .ok (.iload 5, 2) := by decide +kernel
theorem dX6_drink_21 : decode cX6_drink 21 = .ok (.iaload, 1) := by decide +kernel
theorem dX6_drink_22 : decode cX6_drink 22 = .ok (.ifCond .le 28, 3) := by decide +kernel
theorem dX6_drink_25 : decode cX6_drink 25 = .ok (.iload 4, 2) := by decide +kernel
theorem dX6_drink_27 : decode cX6_drink 27 = .ok (.aload_n 0, 1) := by decide +kernel
theorem dX6_drink_28 : decode cX6_drink 28 = .ok (.getfield 9, 3) := by decide +kernel
theorem dX6_drink_31 : decode cX6_drink 31 = .ok (.iload 5, 2) := by decide +kernel
theorem dX6_drink_33 : decode cX6_drink 33 = .ok (.iaload, 1) := by decide +kernel
theorem dX6_drink_34 : decode cX6_drink 34 = .ok (.aload_n 1, 1) := by decide +kernel
theorem dX6_drink_35 : decode cX6_drink 35 = .ok (.getfield 34, 3) := by decide +kernel
theorem dX6_drink_38 : decode cX6_drink 38 = .ok (.iload 5, 2) := by decide +kernel
theorem dX6_drink_40 : decode cX6_drink 40 = .ok (.aaload, 1) := by decide +kernel
theorem dX6_drink_41 : decode cX6_drink 41 = .ok (.iload_n 2, 1) := by decide +kernel
theorem dX6_drink_42 : decode cX6_drink 42 = .ok (.iload_n 3, 1) := by decide +kernel
theorem dX6_drink_43 : decode cX6_drink 43 = .ok (.invokevirtual 38, 3) := by decide +kernel
theorem dX6_drink_46 : decode cX6_drink 46 = .ok (.imul, 1) := by decide +kernel
theorem dX6_drink_47 : decode cX6_drink 47 = .ok (.iadd, 1) := by decide +kernel
theorem dX6_drink_48 : decode cX6_drink 48 = .ok (.istore 4, 2) := by decide +kernel
theorem dX6_drink_50 : decode cX6_drink 50 = .ok (.iinc 5 1, 3) := by decide +kernel
theorem dX6_drink_53 : decode cX6_drink 53 = .ok (.goto (-47), 3) := by decide +kernel
theorem dX6_drink_56 : decode cX6_drink 56 = .ok (.iload 4, 2) := by decide +kernel
theorem dX6_drink_58 : decode cX6_drink 58 = .ok (.ireturn, 1) := by decide +kernel
theorem dX6_scatter_0 : decode cX6_scatter 0 = .ok (.iconst 0, 1) := by decide +kernel
theorem dX6_scatter_1 : decode cX6_scatter 1 = .ok (.istore_n 3, 1) := by decide +kernel
theorem dX6_scatter_2 : decode cX6_scatter 2 = .ok (.iconst 0, 1) := by decide +kernel
theorem dX6_scatter_3 : decode cX6_scatter 3 = .ok (.istore 4, 2) := by decide +kernel
theorem dX6_scatter_5 : decode cX6_scatter 5 = .ok (.iload 4, 2) := by decide +kernel
theorem dX6_scatter_7 : decode cX6_scatter 7 = .ok (.aload_n 1, 1) := by decide +kernel
theorem dX6_scatter_8 : decode cX6_scatter 8 = .ok (.getfield 29, 3) := by decide +kernel
theorem dX6_scatter_11 : decode cX6_scatter 11 = .ok (.if_icmp .ge 41, 3) := by decide +kernel
theorem dX6_scatter_14 : decode cX6_scatter 14 = .ok (.aload_n 0, 1) := by decide +kernel
theorem dX6_scatter_15 : decode cX6_scatter 15 = .ok (.getfield 9, 3) := by decide +kernel
theorem dX6_scatter_18 : decode cX6_scatter 18 = .ok (.iload 4, 2) := by decide +kernel
theorem dX6_scatter_20 : decode cX6_scatter 20 = .ok (.iaload, 1) := by decide +kernel
theorem dX6_scatter_21 : decode cX6_scatter 21 = .ok (.ifCond .le 25, 3) := by decide +kernel
theorem dX6_scatter_24 : decode cX6_scatter 24 = .ok (.iload_n 3, 1) := by decide +kernel
theorem dX6_scatter_25 : decode cX6_scatter 25 = .ok (.aload_n 0, 1) := by decide +kernel
theorem dX6_scatter_26 : decode cX6_scatter 26 = .ok (.getfield 9, 3) := by decide +kernel
theorem dX6_scatter_29 : decode cX6_scatter 29 = .ok (.iload 4, 2) := by decide +kernel
theorem dX6_scatter_31 : decode cX6_scatter 31 = .ok (.iaload, 1) := by decide +kernel
theorem dX6_scatter_32 : decode cX6_scatter 32 = .ok (.aload_n 1, 1) := by decide +kernel
theorem dX6_scatter_33 : decode cX6_scatter 33 = .ok (.getfield 34, 3) := by decide +kernel
theorem dX6_scatter_36 : decode cX6_scatter 36 = .ok (.iload 4, 2) := by decide +kernel
theorem dX6_scatter_38 : decode cX6_scatter 38 = .ok (.aaload, 1) := by decide +kernel
theorem dX6_scatter_39 : decode cX6_scatter 39 = .ok (.iload_n 2, 1) := by decide +kernel
theorem dX6_scatter_40 : decode cX6_scatter 40 = .ok (.invokevirtual 44, 3) := by decide +kernel
theorem dX6_scatter_43 : decode cX6_scatter 43 = .ok (.imul, 1) := by decide +kernel
theorem dX6_scatter_44 : decode cX6_scatter 44 = .ok (.iadd, 1) := by decide +kernel
theorem dX6_scatter_45 : decode cX6_scatter 45 = .ok (.istore_n 3, 1) := by decide +kernel
theorem dX6_scatter_46 : decode cX6_scatter 46 = .ok (.iinc 4 1, 3) := by decide +kernel
theorem dX6_scatter_49 : decode cX6_scatter 49 = .ok (.goto (-44), 3) := by decide +kernel
theorem dX6_scatter_52 : decode cX6_scatter 52 = .ok (.iload_n 3, 1) := by decide +kernel
theorem dX6_scatter_53 : decode cX6_scatter 53 = .ok (.ireturn, 1) := by decide +kernel
theorem dX6_sentThick_0 : decode cX6_sentThick 0 = .ok (.aload_n 0, 1) := by decide +kernel
theorem dX6_sentThick_1 : decode cX6_sentThick 1 = .ok (.aload_n 1, 1) := by decide +kernel
theorem dX6_sentThick_2 : decode cX6_sentThick 2 = .ok (.iload_n 2, 1) := by decide +kernel
theorem dX6_sentThick_3 : decode cX6_sentThick 3 = .ok (.iconst 0, 1) := by decide +kernel
theorem dX6_sentThick_4 : decode cX6_sentThick 4 = .ok (.invokevirtual 48, 3) := by decide +kernel
theorem dX6_sentThick_7 : decode cX6_sentThick 7 = .ok (.aload_n 0, 1) := by decide +kernel
theorem dX6_sentThick_8 : decode cX6_sentThick 8 = .ok (.aload_n 1, 1) := by decide +kernel
theorem dX6_sentThick_9 : decode cX6_sentThick 9 = .ok (.iload_n 2, 1) := by decide +kernel
theorem dX6_sentThick_10 : decode cX6_sentThick 10 = .ok (.invokevirtual 52, 3) := by decide +kernel
theorem dX6_sentThick_13 : decode cX6_sentThick 13 = .ok (.invokestatic 56, 3) := by decide +kernel
theorem dX6_sentThick_16 : decode cX6_sentThick 16 = .ok (.ireturn, 1) := by decide +kernel
theorem dX7_thickSent_0 : decode cX7_thickSent 0 = .ok (.iload_n 1, 1) := by decide +kernel
theorem dX7_thickSent_1 : decode cX7_thickSent 1 = .ok (.ifCond .gt 5, 3) := by decide +kernel
theorem dX7_thickSent_4 : decode cX7_thickSent 4 = .ok (.iconst 0, 1) := by decide +kernel
theorem dX7_thickSent_5 : decode cX7_thickSent 5 = .ok (.ireturn, 1) := by decide +kernel
theorem dX7_thickSent_6 : decode cX7_thickSent 6 = .ok (.ldc2_w 9, 3) := by decide +kernel
theorem dX7_thickSent_9 : decode cX7_thickSent 9 = .ok (.iload_n 0, 1) := by decide +kernel
theorem dX7_thickSent_10 : decode cX7_thickSent 10 = .ok (.i2l, 1) := by decide +kernel
theorem dX7_thickSent_11 : decode cX7_thickSent 11 = .ok (.lmul, 1) := by decide +kernel
theorem dX7_thickSent_12 : decode cX7_thickSent 12 = .ok (.iload_n 1, 1) := by decide +kernel
theorem dX7_thickSent_13 : decode cX7_thickSent 13 = .ok (.i2l, 1) := by decide +kernel
theorem dX7_thickSent_14 : decode cX7_thickSent 14 = .ok (.ldiv, 1) := by decide +kernel
theorem dX7_thickSent_15 : decode cX7_thickSent 15 = .ok (.lstore_n 2, 1) := by decide +kernel
theorem dX7_thickSent_16 : decode cX7_thickSent 16 = .ok (.lload_n 2, 1) := by decide +kernel
theorem dX7_thickSent_17 : decode cX7_thickSent 17 = .ok (.lload_n 2, 1) := by decide +kernel
theorem dX7_thickSent_18 : decode cX7_thickSent 18 = .ok (.lmul, 1) := by decide +kernel
theorem dX7_thickSent_19 : decode cX7_thickSent 19 = .ok (.ldc2_w 11, 3) := by decide +kernel
theorem dX7_thickSent_22 : decode cX7_thickSent 22 = .ok (.lload_n 2, 1) := by decide +kernel
theorem dX7_thickSent_23 : decode cX7_thickSent 23 = .ok (.lmul, 1) := by decide +kernel
theorem dX7_thickSent_24 : decode cX7_thickSent 24 = .ok (.ladd, 1) := by decide +kernel
theorem dX7_thickSent_25 : decode cX7_thickSent 25 = .ok (.lstore 4, 2) := by decide +kernel
theorem dX7_thickSent_27 : decode cX7_thickSent 27 = .ok (.ldc2_w 9, 3) := by decide +kernel
theorem dX7_thickSent_30 : decode cX7_thickSent 30 = .ok (.lload_n 2, 1) := by decide +kernel
theorem dX7_thickSent_31 : decode cX7_thickSent 31 = .ok (.ladd, 1) := by decide +kernel
theorem dX7_thickSent_32 : decode cX7_thickSent 32 = .ok (.lstore 6, 2) := by decide +kernel
theorem dX7_thickSent_34 : decode cX7_thickSent 34 = .ok (.iconst 0, 1) := by decide +kernel
theorem dX7_thickSent_35 : decode cX7_thickSent 35 = .ok (.istore 8, 2) := by decide +kernel
theorem dX7_thickSent_37 : decode cX7_thickSent 37 = .ok (.iload 8, 2) := by decide +kernel
theorem dX7_thickSent_39 : decode cX7_thickSent 39 = .ok (.bipush 64, 2) := by decide +kernel
theorem dX7_thickSent_41 : decode cX7_thickSent 41 = .ok (.if_icmp .ge 45, 3) := by decide +kernel
theorem dX7_thickSent_44 : decode cX7_thickSent 44 = .ok (.lload 6, 2) := by decide +kernel
theorem dX7_thickSent_46 : decode cX7_thickSent 46 = .ok (.lconst 0, 1) := by decide +kernel
theorem dX7_thickSent_47 : decode cX7_thickSent 47 = .ok (.lcmp, 1) := by decide +kernel
theorem dX7_thickSent_48 : decode cX7_thickSent 48 = .ok (.ifCond .le 38, 3) := by decide +kernel
theorem dX7_thickSent_51 : decode cX7_thickSent 51 = .ok (.lload 6, 2) := by decide +kernel
theorem dX7_thickSent_53 : decode cX7_thickSent 53 = .ok (.lload 4, 2) := by decide +kernel
theorem dX7_thickSent_55 : decode cX7_thickSent 55 = .ok (.lload 6, 2) := by decide +kernel
theorem dX7_thickSent_57 : decode cX7_thickSent 57 = .ok (.ldiv, 1) := by decide +kernel
theorem dX7_thickSent_58 : decode cX7_thickSent 58 = .ok (.ladd, 1) := by decide +kernel
theorem dX7_thickSent_59 : decode cX7_thickSent 59 = .ok (.ldc2_w 15, 3) := by decide +kernel
theorem dX7_thickSent_62 : decode cX7_thickSent 62 = .ok (.ldiv, 1) := by decide +kernel
theorem dX7_thickSent_63 : decode cX7_thickSent 63 = .ok (.lstore 9, 2) := by decide +kernel
theorem dX7_thickSent_65 : decode cX7_thickSent 65 = .ok (.lload 9, 2) := by decide +kernel
theorem dX7_thickSent_67 : decode cX7_thickSent 67 = .ok (.lload 6, 2) := by decide +kernel
theorem dX7_thickSent_69 : decode cX7_thickSent 69 = .ok (.lcmp, 1) := by decide +kernel
theorem dX7_thickSent_70 : decode cX7_thickSent 70 = .ok (.ifCond .lt 6, 3) := by decide +kernel
theorem dX7_thickSent_73 : decode cX7_thickSent 73 = .ok (.goto 13, 3) := by decide +kernel
theorem dX7_thickSent_76 : decode cX7_thickSent 76 = .ok (.lload 9, 2) := by decide +kernel
theorem dX7_thickSent_78 : decode cX7_thickSent 78 = .ok (.lstore 6, 2) := by decide +kernel
theorem dX7_thickSent_80 : decode cX7_thickSent 80 = .ok (.iinc 8 1, 3) := by decide +kernel
theorem dX7_thickSent_83 : decode cX7_thickSent 83 = .ok (.goto (-46), 3) := by decide +kernel
theorem dX7_thickSent_86 : decode cX7_thickSent 86 = .ok (.ldc2_w 9, 3) := by decide +kernel
theorem dX7_thickSent_89 : decode cX7_thickSent 89 = .ok (.lload_n 2, 1) := by decide +kernel
theorem dX7_thickSent_90 : decode cX7_thickSent 90 = .ok (.ladd, 1) := by decide +kernel
theorem dX7_thickSent_91 : decode cX7_thickSent 91 = .ok (.lload 6, 2) := by decide +kernel
theorem dX7_thickSent_93 : decode cX7_thickSent 93 = .ok (.lsub, 1) := by decide +kernel
theorem dX7_thickSent_94 : decode cX7_thickSent 94 = .ok (.l2i, 1) := by decide +kernel
theorem dX7_thickSent_95 : decode cX7_thickSent 95 = .ok (.ireturn, 1) := by decide +kernel
theorem dX7_thinTake_0 : decode cX7_thinTake 0 = .ok (.iload_n 0, 1) := by decide +kernel
theorem dX7_thinTake_1 : decode cX7_thinTake 1 = .ok (.iload_n 1, 1) := by decide +kernel
theorem dX7_thinTake_2 : decode cX7_thinTake 2 = .ok (.iadd, 1) := by decide +kernel
theorem dX7_thinTake_3 : decode cX7_thinTake 3 = .ok (.istore_n 2, 1) := by decide +kernel
theorem dX7_thinTake_4 : decode cX7_thinTake 4 = .ok (.iload_n 2, 1) := by decide +kernel
theorem dX7_thinTake_5 : decode cX7_thinTake 5 = .ok (.ifCond .gt 7, 3) := by decide +kernel
theorem dX7_thinTake_8 : decode cX7_thinTake 8 = .ok (.iconst 0, 1) := by decide +kernel
theorem dX7_thinTake_9 : decode cX7_thinTake 9 = .ok (.goto 10, 3) := by decide +kernel
theorem dX7_thinTake_12 : decode cX7_thinTake 12 = .ok (.sipush 250, 3) := by decide +kernel
theorem dX7_thinTake_15 : decode cX7_thinTake 15 = .ok (.iload_n 0, 1) := by decide +kernel
theorem dX7_thinTake_16 : decode cX7_thinTake 16 = .ok (.imul, 1) := by decide +kernel
theorem dX7_thinTake_17 : decode cX7_thinTake 17 = .ok (.iload_n 2, 1) := by decide +kernel
theorem dX7_thinTake_18 : decode cX7_thinTake 18 = .ok (.idiv, 1) := by decide +kernel
theorem dX7_thinTake_19 : decode cX7_thinTake 19 = .ok (.ireturn, 1) := by decide +kernel
theorem dX7_thinSend_0 : decode cX7_thinSend 0 = .ok (.iload_n 0, 1) := by decide +kernel
theorem dX7_thinSend_1 : decode cX7_thinSend 1 = .ok (.iload_n 1, 1) := by decide +kernel
theorem dX7_thinSend_2 : decode cX7_thinSend 2 = .ok (.iadd, 1) := by decide +kernel
theorem dX7_thinSend_3 : decode cX7_thinSend 3 = .ok (.istore_n 2, 1) := by decide +kernel
theorem dX7_thinSend_4 : decode cX7_thinSend 4 = .ok (.iload_n 2, 1) := by decide +kernel
theorem dX7_thinSend_5 : decode cX7_thinSend 5 = .ok (.ifCond .gt 7, 3) := by decide +kernel
theorem dX7_thinSend_8 : decode cX7_thinSend 8 = .ok (.iconst 0, 1) := by decide +kernel
theorem dX7_thinSend_9 : decode cX7_thinSend 9 = .ok (.goto 10, 3) := by decide +kernel
theorem dX7_thinSend_12 : decode cX7_thinSend 12 = .ok (.sipush 250, 3) := by decide +kernel
theorem dX7_thinSend_15 : decode cX7_thinSend 15 = .ok (.iload_n 1, 1) := by decide +kernel
theorem dX7_thinSend_16 : decode cX7_thinSend 16 = .ok (.imul, 1) := by decide +kernel
theorem dX7_thinSend_17 : decode cX7_thinSend 17 = .ok (.iload_n 2, 1) := by decide +kernel
theorem dX7_thinSend_18 : decode cX7_thinSend 18 = .ok (.idiv, 1) := by decide +kernel
theorem dX7_thinSend_19 : decode cX7_thinSend 19 = .ok (.ireturn, 1) := by decide +kernel
theorem dX7_thin_0 : decode cX7_thin 0 = .ok (.sipush 10000, 3) := by decide +kernel
theorem dX7_thin_3 : decode cX7_thin 3 = .ok (.iload_n 0, 1) := by decide +kernel
theorem dX7_thin_4 : decode cX7_thin 4 = .ok (.isub, 1) := by decide +kernel
theorem dX7_thin_5 : decode cX7_thin 5 = .ok (.iload_n 1, 1) := by decide +kernel
theorem dX7_thin_6 : decode cX7_thin 6 = .ok (.isub, 1) := by decide +kernel
theorem dX7_thin_7 : decode cX7_thin 7 = .ok (.i2l, 1) := by decide +kernel
theorem dX7_thin_8 : decode cX7_thin 8 = .ok (.lstore_n 3, 1) := by decide +kernel
theorem dX7_thin_9 : decode cX7_thin 9 = .ok (.ldc2_w 17, 3) := by decide +kernel
theorem dX7_thin_12 : decode cX7_thin 12 = .ok (.iload_n 1, 1) := by decide +kernel
theorem dX7_thin_13 : decode cX7_thin 13 = .ok (.i2l, 1) := by decide +kernel
theorem dX7_thin_14 : decode cX7_thin 14 = .ok (.iload_n 2, 1) := by decide +kernel
theorem dX7_thin_15 : decode cX7_thin 15 = .ok (.i2l, 1) := by decide +kernel
theorem dX7_thin_16 : decode cX7_thin 16 = .ok (.lmul, 1) := by decide +kernel
theorem dX7_thin_17 : decode cX7_thin 17 = .ok (.lsub, 1) := by decide +kernel
theorem dX7_thin_18 : decode cX7_thin 18 = .ok (.lstore 5, 2) := by decide +kernel
theorem dX7_thin_20 : decode cX7_thin 20 = .ok (.lload 5, 2) := by decide +kernel
theorem dX7_thin_22 : decode cX7_thin 22 = .ok (.lconst 0, 1) := by decide +kernel
theorem dX7_thin_23 : decode cX7_thin 23 = .ok (.lcmp, 1) := by decide +kernel
theorem dX7_thin_24 : decode cX7_thin 24 = .ok (.ifCond .gt 7, 3) := by decide +kernel
theorem dX7_thin_27 : decode cX7_thin 27 = .ok (.iload_n 1, 1) := by decide +kernel
theorem dX7_thin_28 : decode cX7_thin 28 = .ok (.goto 16, 3) := by decide +kernel
theorem dX7_thin_31 : decode cX7_thin 31 = .ok (.iload_n 1, 1) := by decide +kernel
theorem dX7_thin_32 : decode cX7_thin 32 = .ok (.i2l, 1) := by decide +kernel
theorem dX7_thin_33 : decode cX7_thin 33 = .ok (.lload_n 3, 1) := by decide +kernel
theorem dX7_thin_34 : decode cX7_thin 34 = .ok (.lload_n 3, 1) := by decide +kernel
theorem dX7_thin_35 : decode cX7_thin 35 = .ok (.lmul, 1) := by decide +kernel
theorem dX7_thin_36 : decode cX7_thin 36 = .ok (.iload_n 2, 1) := by decide +kernel
theorem dX7_thin_37 : decode cX7_thin 37 = .ok (.i2l, 1) := by decide +kernel
theorem dX7_thin_38 : decode cX7_thin 38 = .ok (.lmul, 1) := by decide +kernel
theorem dX7_thin_39 : decode cX7_thin 39 = .ok (.lload 5, 2) := by decide +kernel
theorem dX7_thin_41 : decode cX7_thin 41 = .ok (.ldiv, 1) := by decide +kernel
theorem dX7_thin_42 : decode cX7_thin 42 = .ok (.ladd, 1) := by decide +kernel
theorem dX7_thin_43 : decode cX7_thin 43 = .ok (.l2i, 1) := by decide +kernel
theorem dX7_thin_44 : decode cX7_thin 44 = .ok (.ireturn, 1) := by decide +kernel
theorem dX7_layered_0 : decode cX7_layered 0 = .ok (.iload_n 3, 1) := by decide +kernel
theorem dX7_layered_1 : decode cX7_layered 1 = .ok (.istore 4, 2) := by decide +kernel
theorem dX7_layered_3 : decode cX7_layered 3 = .ok (.iconst 0, 1) := by decide +kernel
theorem dX7_layered_4 : decode cX7_layered 4 = .ok (.istore 5, 2) := by decide +kernel
theorem dX7_layered_6 : decode cX7_layered 6 = .ok (.iload 5, 2) := by decide +kernel
theorem dX7_layered_8 : decode cX7_layered 8 = .ok (.iload_n 2, 1) := by decide +kernel
theorem dX7_layered_9 : decode cX7_layered 9 = .ok (.if_icmp .ge 32, 3) := by decide +kernel
theorem dX7_layered_12 : decode cX7_layered 12 = .ok (.iload_n 0, 1) := by decide +kernel
theorem dX7_layered_13 : decode cX7_layered 13 = .ok (.iload_n 1, 1) := by decide +kernel
theorem dX7_layered_14 : decode cX7_layered 14 = .ok (.iload 4, 2) := by decide +kernel
theorem dX7_layered_16 : decode cX7_layered 16 = .ok (.invokestatic 19, 3) := by decide +kernel
theorem dX7_layered_19 : decode cX7_layered 19 = .ok (.istore 6, 2) := by decide +kernel
theorem dX7_layered_21 : decode cX7_layered 21 = .ok (.iload 6, 2) := by decide +kernel
theorem dX7_layered_23 : decode cX7_layered 23 = .ok (.iload 4, 2) := by decide +kernel
theorem dX7_layered_25 : decode cX7_layered 25 = .ok (.if_icmp .ne 6, 3) := by decide +kernel
theorem dX7_layered_28 : decode cX7_layered 28 = .ok (.iload 4, 2) := by decide +kernel
theorem dX7_layered_30 : decode cX7_layered 30 = .ok (.ireturn, 1) := by decide +kernel
theorem dX7_layered_31 : decode cX7_layered 31 = .ok (.iload 6, 2) := by decide +kernel
theorem dX7_layered_33 : decode cX7_layered 33 = .ok (.istore 4, 2) := by decide +kernel
theorem dX7_layered_35 : decode cX7_layered 35 = .ok (.iinc 5 1, 3) := by decide +kernel
theorem dX7_layered_38 : decode cX7_layered 38 = .ok (.goto (-32), 3) := by decide +kernel
theorem dX7_layered_41 : decode cX7_layered 41 = .ok (.iload 4, 2) := by decide +kernel
theorem dX7_layered_43 : decode cX7_layered 43 = .ok (.ireturn, 1) := by decide +kernel
theorem dX7_leastHiding_0 : decode cX7_leastHiding 0 = .ok (.iconst 0, 1) := by decide +kernel
theorem dX7_leastHiding_1 : decode cX7_leastHiding 1 = .ok (.istore_n 3, 1) := by decide +kernel
theorem dX7_leastHiding_2 : decode cX7_leastHiding 2 = .ok (.sipush 10000, 3) := by decide +kernel
theorem dX7_leastHiding_5 : decode cX7_leastHiding 5 = .ok (.istore 4, 2) := by decide +kernel
theorem dX7_leastHiding_7 : decode cX7_leastHiding 7 = .ok (.iconst 1, 1) := by decide +kernel
theorem dX7_leastHiding_8 : decode cX7_leastHiding 8 = .ok (.istore 5, 2) := by decide +kernel
theorem dX7_leastHiding_10 : decode cX7_leastHiding 10 = .ok (.iload 5, 2) := by decide +kernel
theorem dX7_leastHiding_12 : decode cX7_leastHiding 12 = .ok (.sipush 200, 3) := by decide +kernel
theorem dX7_leastHiding_15 : decode cX7_leastHiding 15 = .ok (.if_icmp .gt 36, 3) := by decide +kernel
theorem dX7_leastHiding_18 : decode cX7_leastHiding 18 = .ok (.iload_n 0, 1) := by decide +kernel
theorem dX7_leastHiding_19 : decode cX7_leastHiding 19 = .ok (.iload_n 1, 1) := by decide +kernel
theorem dX7_leastHiding_20 : decode cX7_leastHiding 20 = .ok (.iload_n 3, 1) := by decide +kernel
theorem dX7_leastHiding_21 : decode cX7_leastHiding 21 = .ok (.invokestatic 19, 3) := by decide +kernel
theorem dX7_leastHiding_24 : decode cX7_leastHiding 24 = .ok (.istore_n 3, 1) := by decide +kernel
theorem dX7_leastHiding_25 : decode cX7_leastHiding 25 = .ok (.iload_n 0, 1) := by decide +kernel
theorem dX7_leastHiding_26 : decode cX7_leastHiding 26 = .ok (.iload_n 1, 1) := by decide +kernel
theorem dX7_leastHiding_27 : decode cX7_leastHiding 27 = .ok (.iload 4, 2) := by decide +kernel
theorem dX7_leastHiding_29 : decode cX7_leastHiding 29 = .ok (.invokestatic 19, 3) := by decide +kernel
theorem dX7_leastHiding_32 : decode cX7_leastHiding 32 = .ok (.istore 4, 2) := by decide +kernel
theorem dX7_leastHiding_34 : decode cX7_leastHiding 34 = .ok (.iload 4, 2) := by decide +kernel
theorem dX7_leastHiding_36 : decode cX7_leastHiding 36 = .ok (.iload_n 3, 1) := by decide +kernel
theorem dX7_leastHiding_37 : decode cX7_leastHiding 37 = .ok (.isub, 1) := by decide +kernel
theorem dX7_leastHiding_38 : decode cX7_leastHiding 38 = .ok (.iload_n 2, 1) := by decide +kernel
theorem dX7_leastHiding_39 : decode cX7_leastHiding 39 = .ok (.if_icmp .gt 6, 3) := by decide +kernel
theorem dX7_leastHiding_42 : decode cX7_leastHiding 42 = .ok (.iload 5, 2) := by decide +kernel
theorem dX7_leastHiding_44 : decode cX7_leastHiding 44 = .ok (.ireturn, 1) := by decide +kernel
theorem dX7_leastHiding_45 : decode cX7_leastHiding 45 = .ok (.iinc 5 1, 3) := by decide +kernel
theorem dX7_leastHiding_48 : decode cX7_leastHiding 48 = .ok (.goto (-38), 3) := by decide +kernel
theorem dX7_leastHiding_51 : decode cX7_leastHiding 51 = .ok (.sipush 201, 3) := by decide +kernel
theorem dX7_leastHiding_54 : decode cX7_leastHiding 54 = .ok (.ireturn, 1) := by decide +kernel
theorem dX8_init_0 : decode cX8_init 0 = .ok (.aload_n 0, 1) := by decide +kernel
theorem dX8_init_1 : decode cX8_init 1 = .ok (.invokespecial 3, 3) := by decide +kernel
theorem dX8_init_4 : decode cX8_init 4 = .ok (.aload_n 0, 1) := by decide +kernel
theorem dX8_init_5 : decode cX8_init 5 = .ok (.bipush 12, 2) := by decide +kernel
theorem dX8_init_7 : decode cX8_init 7 = .ok (.anewarray 9, 3) := by decide +kernel
theorem dX8_init_10 : decode cX8_init 10 = .ok (.putfield 11, 3) := by decide +kernel
theorem dX8_init_13 : decode cX8_init 13 = .ok (.aload_n 0, 1) := by decide +kernel
theorem dX8_init_14 : decode cX8_init 14 = .ok (.iconst 0, 1) := by decide +kernel
theorem dX8_init_15 : decode cX8_init 15 = .ok (.putfield 17, 3) := by decide +kernel
theorem dX8_init_18 : decode cX8_init 18 = .ok (.return_, 1) := by decide +kernel
theorem dX8_isFull_0 : decode cX8_isFull 0 = .ok (.aload_n 0, 1) := by decide +kernel
theorem dX8_isFull_1 : decode cX8_isFull 1 = .ok (.getfield 17, 3) := by decide +kernel
theorem dX8_isFull_4 : decode cX8_isFull 4 = .ok (.bipush 12, 2) := by decide +kernel
theorem dX8_isFull_6 : decode cX8_isFull 6 = .ok (.if_icmp .lt 7, 3) := by decide +kernel
theorem dX8_isFull_9 : decode cX8_isFull 9 = .ok (.iconst 1, 1) := by decide +kernel
theorem dX8_isFull_10 : decode cX8_isFull 10 = .ok (.goto 4, 3) := by decide +kernel
theorem dX8_isFull_13 : decode cX8_isFull 13 = .ok (.iconst 0, 1) := by decide +kernel
theorem dX8_isFull_14 : decode cX8_isFull 14 = .ok (.ireturn, 1) := by decide +kernel
theorem dX8_add_0 : decode cX8_add 0 = .ok (.aload_n 0, 1) := by decide +kernel
theorem dX8_add_1 : decode cX8_add 1 = .ok (.invokevirtual 21, 3) := by decide +kernel
theorem dX8_add_4 : decode cX8_add 4 = .ok (.ifCond .eq 6, 3) := by decide +kernel
theorem dX8_add_7 : decode cX8_add 7 = .ok (.bipush (-3), 2) := by decide +kernel
theorem dX8_add_9 : decode cX8_add 9 = .ok (.ireturn, 1) := by decide +kernel
theorem dX8_add_10 : decode cX8_add 10 = .ok (.aload_n 0, 1) := by decide +kernel
theorem dX8_add_11 : decode cX8_add 11 = .ok (.getfield 11, 3) := by decide +kernel
theorem dX8_add_14 : decode cX8_add 14 = .ok (.aload_n 0, 1) := by decide +kernel
theorem dX8_add_15 : decode cX8_add 15 = .ok (.getfield 17, 3) := by decide +kernel
theorem dX8_add_18 : decode cX8_add 18 = .ok (.aload_n 1, 1) := by decide +kernel
theorem dX8_add_19 : decode cX8_add 19 = .ok (.aastore, 1) := by decide +kernel
theorem dX8_add_20 : decode cX8_add 20 = .ok (.aload_n 0, 1) := by decide +kernel
theorem dX8_add_21 : decode cX8_add 21 = .ok (.dup, 1) := by decide +kernel
theorem dX8_add_22 : decode cX8_add 22 = .ok (.getfield 17, 3) := by decide +kernel
theorem dX8_add_25 : decode cX8_add 25 = .ok (.iconst 1, 1) := by decide +kernel
theorem dX8_add_26 : decode cX8_add 26 = .ok (.iadd, 1) := by decide +kernel
theorem dX8_add_27 : decode cX8_add 27 = .ok (.putfield 17, 3) := by decide +kernel
theorem dX8_add_30 : decode cX8_add 30 = .ok (.aload_n 0, 1) := by decide +kernel
theorem dX8_add_31 : decode cX8_add 31 = .ok (.getfield 17, 3) := by decide +kernel
theorem dX8_add_34 : decode cX8_add 34 = .ok (.iconst 1, 1) := by decide +kernel
theorem dX8_add_35 : decode cX8_add 35 = .ok (.isub, 1) := by decide +kernel
theorem dX8_add_36 : decode cX8_add 36 = .ok (.ireturn, 1) := by decide +kernel
theorem dX8_at_0 : decode cX8_at 0 = .ok (.iload_n 1, 1) := by decide +kernel
theorem dX8_at_1 : decode cX8_at 1 = .ok (.iconst 0, 1) := by decide +kernel
theorem dX8_at_2 : decode cX8_at 2 = .ok (.aload_n 0, 1) := by decide +kernel
theorem dX8_at_3 : decode cX8_at 3 = .ok (.getfield 17, 3) := by decide +kernel
theorem dX8_at_6 : decode cX8_at 6 = .ok (.iconst 1, 1) := by decide +kernel
theorem dX8_at_7 : decode cX8_at 7 = .ok (.isub, 1) := by decide +kernel
theorem dX8_at_8 : decode cX8_at 8 = .ok (.invokestatic 25, 3) := by decide +kernel
theorem dX8_at_11 : decode cX8_at 11 = .ok (.ifCond .eq 12, 3) := by decide +kernel
theorem dX8_at_14 : decode cX8_at 14 = .ok (.aload_n 0, 1) := by decide +kernel
theorem dX8_at_15 : decode cX8_at 15 = .ok (.getfield 11, 3) := by decide +kernel
theorem dX8_at_18 : decode cX8_at 18 = .ok (.iload_n 1, 1) := by decide +kernel
theorem dX8_at_19 : decode cX8_at 19 = .ok (.aaload, 1) := by decide +kernel
theorem dX8_at_20 : decode cX8_at 20 = .ok (.goto 4, 3) := by decide +kernel
theorem dX8_at_23 : decode cX8_at 23 = .ok (.aconst_null, 1) := by decide +kernel
theorem dX8_at_24 : decode cX8_at 24 = .ok (.areturn, 1) := by decide +kernel
theorem dX8_hasSet_0 : decode cX8_hasSet 0 = .ok (.iload_n 1, 1) := by decide +kernel
theorem dX8_hasSet_1 : decode cX8_hasSet 1 = .ok (.iconst 1, 1) := by decide +kernel
theorem dX8_hasSet_2 : decode cX8_hasSet 2 = .ok (.iconst 1, 1) := by decide +kernel
theorem dX8_hasSet_3 : decode cX8_hasSet 3 = .ok (.aload_n 0, 1) := by decide +kernel
theorem dX8_hasSet_4 : decode cX8_hasSet 4 = .ok (.getfield 17, 3) := by decide +kernel
theorem dX8_hasSet_7 : decode cX8_hasSet 7 = .ok (.ishl, 1) := by decide +kernel
theorem dX8_hasSet_8 : decode cX8_hasSet 8 = .ok (.iconst 1, 1) := by decide +kernel
theorem dX8_hasSet_9 : decode cX8_hasSet 9 = .ok (.isub, 1) := by decide +kernel
theorem dX8_hasSet_10 : decode cX8_hasSet 10 = .ok (.invokestatic 25, 3) := by decide +kernel
theorem dX8_hasSet_13 : decode cX8_hasSet 13 = .ok (.ireturn, 1) := by decide +kernel
theorem dX8_countLost_0 : decode cX8_countLost 0 = .ok (.iconst 0, 1) := by decide +kernel
theorem dX8_countLost_1 : decode cX8_countLost 1 = .ok (.istore_n 2, 1) := by decide +kernel
theorem dX8_countLost_2 : decode cX8_countLost 2 = .ok (.iload_n 2, 1) := by decide +kernel
theorem dX8_countLost_3 : decode cX8_countLost 3 = .ok (.aload_n 0, 1) := by decide +kernel
theorem dX8_countLost_4 : decode cX8_countLost 4 = .ok (.getfield 17, 3) := by decide +kernel
theorem dX8_countLost_7 : decode cX8_countLost 7 = .ok (.if_icmp .ge 28, 3) := by decide +kernel
theorem dX8_countLost_10 : decode cX8_countLost 10 = .ok (.aload_n 0, 1) := by decide +kernel
theorem dX8_countLost_11 : decode cX8_countLost 11 = .ok (.getfield 11, 3) := by decide +kernel
theorem dX8_countLost_14 : decode cX8_countLost 14 = .ok (.iload_n 2, 1) := by decide +kernel
theorem dX8_countLost_15 : decode cX8_countLost 15 = .ok (.aaload, 1) := by decide +kernel
theorem dX8_countLost_16 : decode cX8_countLost 16 = .ok (.dup, 1) := by decide +kernel
theorem dX8_countLost_17 : decode cX8_countLost 17 = .ok (.getfield 29, 3) := by decide +kernel
theorem dX8_countLost_20 : decode cX8_countLost 20 = .ok (.aload_n 1, 1) := by decide +kernel
theorem dX8_countLost_21 : decode cX8_countLost 21 = .ok (.iload_n 2, 1) := by decide +kernel
theorem dX8_countLost_22 : decode cX8_countLost 22 = .ok (.invokevirtual 32, 3) := by decide +kernel
theorem dX8_countLost_25 : decode cX8_countLost 25 = .ok (.iadd, 1) := by decide +kernel
theorem dX8_countLost_26 : decode cX8_countLost 26 = .ok (.putfield 29, 3) := by decide +kernel
theorem dX8_countLost_29 : decode cX8_countLost 29 = .ok (.iinc 2 1, 3) := by decide +kernel
theorem dX8_countLost_32 : decode cX8_countLost 32 = .ok (.goto (-30), 3) := by decide +kernel
theorem dX8_countLost_35 : decode cX8_countLost 35 = .ok (.return_, 1) := by decide +kernel
theorem dX8_countLaid_0 : decode cX8_countLaid 0 = .ok (.iconst 0, 1) := by decide +kernel
theorem dX8_countLaid_1 : decode cX8_countLaid 1 = .ok (.istore_n 2, 1) := by decide +kernel
theorem dX8_countLaid_2 : decode cX8_countLaid 2 = .ok (.iload_n 2, 1) := by decide +kernel
theorem dX8_countLaid_3 : decode cX8_countLaid 3 = .ok (.aload_n 0, 1) := by decide +kernel
theorem dX8_countLaid_4 : decode cX8_countLaid 4 = .ok (.getfield 17, 3) := by decide +kernel
theorem dX8_countLaid_7 : decode cX8_countLaid 7 = .ok (.if_icmp .ge 28, 3) := by decide +kernel
theorem dX8_countLaid_10 : decode cX8_countLaid 10 = .ok (.aload_n 0, 1) := by decide +kernel
theorem dX8_countLaid_11 : decode cX8_countLaid 11 = .ok (.getfield 11, 3) := by decide +kernel
theorem dX8_countLaid_14 : decode cX8_countLaid 14 = .ok (.iload_n 2, 1) := by decide +kernel
theorem dX8_countLaid_15 : decode cX8_countLaid 15 = .ok (.aaload, 1) := by decide +kernel
theorem dX8_countLaid_16 : decode cX8_countLaid 16 = .ok (.dup, 1) := by decide +kernel
theorem dX8_countLaid_17 : decode cX8_countLaid 17 = .ok (.getfield 38, 3) := by decide +kernel
theorem dX8_countLaid_20 : decode cX8_countLaid 20 = .ok (.aload_n 1, 1) := by decide +kernel
theorem dX8_countLaid_21 : decode cX8_countLaid 21 = .ok (.iload_n 2, 1) := by decide +kernel
theorem dX8_countLaid_22 : decode cX8_countLaid 22 = .ok (.invokevirtual 32, 3) := by decide +kernel
theorem dX8_countLaid_25 : decode cX8_countLaid 25 = .ok (.iadd, 1) := by decide +kernel
theorem dX8_countLaid_26 : decode cX8_countLaid 26 = .ok (.putfield 38, 3) := by decide +kernel
theorem dX8_countLaid_29 : decode cX8_countLaid 29 = .ok (.iinc 2 1, 3) := by decide +kernel
theorem dX8_countLaid_32 : decode cX8_countLaid 32 = .ok (.goto (-30), 3) := by decide +kernel
theorem dX8_countLaid_35 : decode cX8_countLaid 35 = .ok (.return_, 1) := by decide +kernel
theorem dX8_allLaid_0 : decode cX8_allLaid 0 = .ok (.iconst 0, 1) := by decide +kernel
theorem dX8_allLaid_1 : decode cX8_allLaid 1 = .ok (.istore_n 1, 1) := by decide +kernel
theorem dX8_allLaid_2 : decode cX8_allLaid 2 = .ok (.iconst 0, 1) := by decide +kernel
theorem dX8_allLaid_3 : decode cX8_allLaid 3 = .ok (.istore_n 2, 1) := by decide +kernel
theorem dX8_allLaid_4 : decode cX8_allLaid 4 = .ok (.iload_n 2, 1) := by decide +kernel
theorem dX8_allLaid_5 : decode cX8_allLaid 5 = .ok (.aload_n 0, 1) := by decide +kernel
theorem dX8_allLaid_6 : decode cX8_allLaid 6 = .ok (.getfield 17, 3) := by decide +kernel
theorem dX8_allLaid_9 : decode cX8_allLaid 9 = .ok (.if_icmp .ge 21, 3) := by decide +kernel
theorem dX8_allLaid_12 : decode cX8_allLaid 12 = .ok (.iload_n 1, 1) := by decide +kernel
theorem dX8_allLaid_13 : decode cX8_allLaid 13 = .ok (.aload_n 0, 1) := by decide +kernel
theorem dX8_allLaid_14 : decode cX8_allLaid 14 = .ok (.getfield 11, 3) := by decide +kernel
theorem dX8_allLaid_17 : decode cX8_allLaid 17 = .ok (.iload_n 2, 1) := by decide +kernel
theorem dX8_allLaid_18 : decode cX8_allLaid 18 = .ok (.aaload, 1) := by decide +kernel
theorem dX8_allLaid_19 : decode cX8_allLaid 19 = .ok (.getfield 38, 3) := by decide +kernel
theorem dX8_allLaid_22 : decode cX8_allLaid 22 = .ok (.iadd, 1) := by decide +kernel
theorem dX8_allLaid_23 : decode cX8_allLaid 23 = .ok (.istore_n 1, 1) := by decide +kernel
theorem dX8_allLaid_24 : decode cX8_allLaid 24 = .ok (.iinc 2 1, 3) := by decide +kernel
theorem dX8_allLaid_27 : decode cX8_allLaid 27 = .ok (.goto (-23), 3) := by decide +kernel
theorem dX8_allLaid_30 : decode cX8_allLaid 30 = .ok (.iload_n 1, 1) := by decide +kernel
theorem dX8_allLaid_31 : decode cX8_allLaid 31 = .ok (.ireturn, 1) := by decide +kernel
theorem dX8_allLost_0 : decode cX8_allLost 0 = .ok (.iconst 0, 1) := by decide +kernel
theorem dX8_allLost_1 : decode cX8_allLost 1 = .ok (.istore_n 1, 1) := by decide +kernel
theorem dX8_allLost_2 : decode cX8_allLost 2 = .ok (.iconst 0, 1) := by decide +kernel
theorem dX8_allLost_3 : decode cX8_allLost 3 = .ok (.istore_n 2, 1) := by decide +kernel
theorem dX8_allLost_4 : decode cX8_allLost 4 = .ok (.iload_n 2, 1) := by decide +kernel
theorem dX8_allLost_5 : decode cX8_allLost 5 = .ok (.aload_n 0, 1) := by decide +kernel
theorem dX8_allLost_6 : decode cX8_allLost 6 = .ok (.getfield 17, 3) := by decide +kernel
theorem dX8_allLost_9 : decode cX8_allLost 9 = .ok (.if_icmp .ge 21, 3) := by decide +kernel
theorem dX8_allLost_12 : decode cX8_allLost 12 = .ok (.iload_n 1, 1) := by decide +kernel
theorem dX8_allLost_13 : decode cX8_allLost 13 = .ok (.aload_n 0, 1) := by decide +kernel
theorem dX8_allLost_14 : decode cX8_allLost 14 = .ok (.getfield 11, 3) := by decide +kernel
theorem dX8_allLost_17 : decode cX8_allLost 17 = .ok (.iload_n 2, 1) := by decide +kernel
theorem dX8_allLost_18 : decode cX8_allLost 18 = .ok (.aaload, 1) := by decide +kernel
theorem dX8_allLost_19 : decode cX8_allLost 19 = .ok (.getfield 29, 3) := by decide +kernel
theorem dX8_allLost_22 : decode cX8_allLost 22 = .ok (.iadd, 1) := by decide +kernel
theorem dX8_allLost_23 : decode cX8_allLost 23 = .ok (.istore_n 1, 1) := by decide +kernel
theorem dX8_allLost_24 : decode cX8_allLost 24 = .ok (.iinc 2 1, 3) := by decide +kernel
theorem dX8_allLost_27 : decode cX8_allLost 27 = .ok (.goto (-23), 3) := by decide +kernel
theorem dX8_allLost_30 : decode cX8_allLost 30 = .ok (.iload_n 1, 1) := by decide +kernel
theorem dX8_allLost_31 : decode cX8_allLost 31 = .ok (.ireturn, 1) := by decide +kernel
theorem dX8_allHeld_0 : decode cX8_allHeld 0 = .ok (.iconst 0, 1) := by decide +kernel
theorem dX8_allHeld_1 : decode cX8_allHeld 1 = .ok (.istore_n 1, 1) := by decide +kernel
theorem dX8_allHeld_2 : decode cX8_allHeld 2 = .ok (.iconst 0, 1) := by decide +kernel
theorem dX8_allHeld_3 : decode cX8_allHeld 3 = .ok (.istore_n 2, 1) := by decide +kernel
theorem dX8_allHeld_4 : decode cX8_allHeld 4 = .ok (.iload_n 2, 1) := by decide +kernel
theorem dX8_allHeld_5 : decode cX8_allHeld 5 = .ok (.aload_n 0, 1) := by decide +kernel
theorem dX8_allHeld_6 : decode cX8_allHeld 6 = .ok (.getfield 17, 3) := by decide +kernel
theorem dX8_allHeld_9 : decode cX8_allHeld 9 = .ok (.if_icmp .ge 21, 3) := by decide +kernel
theorem dX8_allHeld_12 : decode cX8_allHeld 12 = .ok (.iload_n 1, 1) := by decide +kernel
theorem dX8_allHeld_13 : decode cX8_allHeld 13 = .ok (.aload_n 0, 1) := by decide +kernel
theorem dX8_allHeld_14 : decode cX8_allHeld 14 = .ok (.getfield 11, 3) := by decide +kernel
theorem dX8_allHeld_17 : decode cX8_allHeld 17 = .ok (.iload_n 2, 1) := by decide +kernel
theorem dX8_allHeld_18 : decode cX8_allHeld 18 = .ok (.aaload, 1) := by decide +kernel
theorem dX8_allHeld_19 : decode cX8_allHeld 19 = .ok (.getfield 41, 3) := by decide +kernel
theorem dX8_allHeld_22 : decode cX8_allHeld 22 = .ok (.iadd, 1) := by decide +kernel
theorem dX8_allHeld_23 : decode cX8_allHeld 23 = .ok (.istore_n 1, 1) := by decide +kernel
theorem dX8_allHeld_24 : decode cX8_allHeld 24 = .ok (.iinc 2 1, 3) := by decide +kernel
theorem dX8_allHeld_27 : decode cX8_allHeld 27 = .ok (.goto (-23), 3) := by decide +kernel
theorem dX8_allHeld_30 : decode cX8_allHeld 30 = .ok (.iload_n 1, 1) := by decide +kernel
theorem dX8_allHeld_31 : decode cX8_allHeld 31 = .ok (.ireturn, 1) := by decide +kernel
theorem dX9_init_0 : decode cX9_init 0 = .ok (.aload_n 0, 1) := by decide +kernel
theorem dX9_init_1 : decode cX9_init 1 = .ok (.invokespecial 3, 3) := by decide +kernel
theorem dX9_init_4 : decode cX9_init 4 = .ok (.aload_n 0, 1) := by decide +kernel
theorem dX9_init_5 : decode cX9_init 5 = .ok (.bipush 12, 2) := by decide +kernel
theorem dX9_init_7 : decode cX9_init 7 = .ok (.newarray .int, 2) := by decide +kernel
theorem dX9_init_9 : decode cX9_init 9 = .ok (.putfield 9, 3) := by decide +kernel
theorem dX9_init_12 : decode cX9_init 12 = .ok (.aload_n 0, 1) := by decide +kernel
theorem dX9_init_13 : decode cX9_init 13 = .ok (.bipush 12, 2) := by decide +kernel
theorem dX9_init_15 : decode cX9_init 15 = .ok (.newarray .int, 2) := by decide +kernel
theorem dX9_init_17 : decode cX9_init 17 = .ok (.putfield 15, 3) := by decide +kernel
theorem dX9_init_20 : decode cX9_init 20 = .ok (.aload_n 0, 1) := by decide +kernel
theorem dX9_init_21 : decode cX9_init 21 = .ok (.bipush 12, 2) := by decide +kernel
theorem dX9_init_23 : decode cX9_init 23 = .ok (.bipush 8, 2) := by decide +kernel
theorem dX9_init_25 : decode cX9_init 25 = .ok (.multianewarray 18 2, 4) := by decide +kernel
theorem dX9_init_29 : decode cX9_init 29 = .ok (.putfield 20, 3) := by decide +kernel
theorem dX9_init_32 : decode cX9_init 32 = .ok (.aload_n 0, 1) := by decide +kernel
theorem dX9_init_33 : decode cX9_init 33 = .ok (.bipush 12, 2) := by decide +kernel
theorem dX9_init_35 : decode cX9_init 35 = .ok (.bipush 8, 2) := by decide +kernel
theorem dX9_init_37 : decode cX9_init 37 = .ok (.multianewarray 18 2, 4) := by decide +kernel
theorem dX9_init_41 : decode cX9_init 41 = .ok (.putfield 23, 3) := by decide +kernel
theorem dX9_init_44 : decode cX9_init 44 = .ok (.aload_n 0, 1) := by decide +kernel
theorem dX9_init_45 : decode cX9_init 45 = .ok (.iconst 0, 1) := by decide +kernel
theorem dX9_init_46 : decode cX9_init 46 = .ok (.putfield 26, 3) := by decide +kernel
theorem dX9_init_49 : decode cX9_init 49 = .ok (.aload_n 0, 1) := by decide +kernel
theorem dX9_init_50 : decode cX9_init 50 = .ok (.iconst 4, 1) := by decide +kernel
theorem dX9_init_51 : decode cX9_init 51 = .ok (.newarray .int, 2) := by decide +kernel
theorem dX9_init_53 : decode cX9_init 53 = .ok (.putfield 30, 3) := by decide +kernel
theorem dX9_init_56 : decode cX9_init 56 = .ok (.aload_n 0, 1) := by decide +kernel
theorem dX9_init_57 : decode cX9_init 57 = .ok (.iconst 4, 1) := by decide +kernel
theorem dX9_init_58 : decode cX9_init 58 = .ok (.newarray .int, 2) := by decide +kernel
theorem dX9_init_60 : decode cX9_init 60 = .ok (.putfield 33, 3) := by decide +kernel
theorem dX9_init_63 : decode cX9_init 63 = .ok (.aload_n 0, 1) := by decide +kernel
theorem dX9_init_64 : decode cX9_init 64 = .ok (.iconst 4, 1) := by decide +kernel
theorem dX9_init_65 : decode cX9_init 65 = .ok (.bipush 8, 2) := by decide +kernel
theorem dX9_init_67 : decode cX9_init 67 = .ok (.multianewarray 18 2, 4) := by decide +kernel
theorem dX9_init_71 : decode cX9_init 71 = .ok (.putfield 36, 3) := by decide +kernel
theorem dX9_init_74 : decode cX9_init 74 = .ok (.aload_n 0, 1) := by decide +kernel
theorem dX9_init_75 : decode cX9_init 75 = .ok (.iconst 4, 1) := by decide +kernel
theorem dX9_init_76 : decode cX9_init 76 = .ok (.bipush 8, 2) := by decide +kernel
theorem dX9_init_78 : decode cX9_init 78 = .ok (.multianewarray 18 2, 4) := by decide +kernel
theorem dX9_init_82 : decode cX9_init 82 = .ok (.putfield 39, 3) := by decide +kernel
theorem dX9_init_85 : decode cX9_init 85 = .ok (.aload_n 0, 1) := by decide +kernel
theorem dX9_init_86 : decode cX9_init 86 = .ok (.iconst 0, 1) := by decide +kernel
theorem dX9_init_87 : decode cX9_init 87 = .ok (.putfield 42, 3) := by decide +kernel
theorem dX9_init_90 : decode cX9_init 90 = .ok (.aload_n 0, 1) := by decide +kernel
theorem dX9_init_91 : decode cX9_init 91 = .ok (.bipush 8, 2) := by decide +kernel
theorem dX9_init_93 : decode cX9_init 93 = .ok (.newarray .int, 2) := by decide +kernel
theorem dX9_init_95 : decode cX9_init 95 = .ok (.putfield 45, 3) := by decide +kernel
theorem dX9_init_98 : decode cX9_init 98 = .ok (.return_, 1) := by decide +kernel
theorem dX9_goThrough_0 : decode cX9_goThrough 0 = .ok (.aload_n 0, 1) := by decide +kernel
theorem dX9_goThrough_1 : decode cX9_goThrough 1 = .ok (.iconst 0, 1) := by decide +kernel
theorem dX9_goThrough_2 : decode cX9_goThrough 2 = .ok (.putfield 26, 3) := by decide +kernel
theorem dX9_goThrough_5 : decode cX9_goThrough 5 = .ok (.iconst 0, 1) := by decide +kernel
theorem dX9_goThrough_6 : decode cX9_goThrough 6 = .ok (.istore 5, 2) := by decide +kernel
theorem dX9_goThrough_8 : decode cX9_goThrough 8 = .ok (.iload 5, 2) := by decide +kernel
theorem dX9_goThrough_10 : decode cX9_goThrough 10 = .ok (.bipush 12, 2) := by decide +kernel
theorem dX9_goThrough_12 : decode cX9_goThrough 12 = .ok (.if_icmp .ge 40, 3) := by decide +kernel
theorem dX9_goThrough_15 : decode cX9_goThrough 15 = .ok (.aload_n 1, 1) := by decide +kernel
theorem dX9_goThrough_16 : decode cX9_goThrough 16 = .ok (.iload 5, 2) := by decide +kernel
theorem dX9_goThrough_18 : decode cX9_goThrough 18 = .ok (.invokevirtual 48, 3) := by decide +kernel
theorem dX9_goThrough_21 : decode cX9_goThrough 21 = .ok (.astore 6, 2) := by decide +kernel
theorem dX9_goThrough_23 : decode cX9_goThrough 23 = .ok (.aload 6, 2) := by decide +kernel
theorem dX9_goThrough_25 : decode cX9_goThrough 25 = .ok (.ifnull 21, 3) := by decide +kernel
theorem dX9_goThrough_28 : decode cX9_goThrough 28 = .ok (.iload_n 3, 1) := by decide +kernel
theorem dX9_goThrough_29 : decode cX9_goThrough 29 = .ok (.iload 5, 2) := by decide +kernel
theorem dX9_goThrough_31 : decode cX9_goThrough 31 = .ok (.ishr, 1) := by decide +kernel
theorem dX9_goThrough_32 : decode cX9_goThrough 32 = .ok (.iconst 1, 1) := by decide +kernel
theorem dX9_goThrough_33 : decode cX9_goThrough 33 = .ok (.iand, 1) := by decide +kernel
theorem dX9_goThrough_34 : decode cX9_goThrough 34 = .ok (.iconst 1, 1) := by decide +kernel
theorem dX9_goThrough_35 : decode cX9_goThrough 35 = .ok (.if_icmp .ne 11, 3) := by decide +kernel
theorem dX9_goThrough_38 : decode cX9_goThrough 38 = .ok (.aload_n 0, 1) := by decide +kernel
theorem dX9_goThrough_39 : decode cX9_goThrough 39 = .ok (.iload 5, 2) := by decide +kernel
theorem dX9_goThrough_41 : decode cX9_goThrough 41 = .ok (.aload 6, 2) := by decide +kernel
theorem dX9_goThrough_43 : decode cX9_goThrough 43 = .ok (.invokevirtual 54, 3) := by decide +kernel
theorem dX9_goThrough_46 : decode cX9_goThrough 46 = .ok (.iinc 5 1, 3) := by decide +kernel
theorem dX9_goThrough_49 : decode cX9_goThrough 49 = .ok (.goto (-41), 3) := by decide +kernel
theorem dX9_goThrough_52 : decode cX9_goThrough 52 = .ok (.aload_n 0, 1) := by decide +kernel
theorem dX9_goThrough_53 : decode cX9_goThrough 53 = .ok (.aload_n 2, 1) := by decide +kernel
theorem dX9_goThrough_54 : decode cX9_goThrough 54 = .ok (.iconst 0, 1) := by decide +kernel
theorem dX9_goThrough_55 : decode cX9_goThrough 55 = .ok (.iconst 0, 1) := by decide +kernel
theorem dX9_goThrough_56 : decode cX9_goThrough 56 = .ok (.iload 4, 2) := by decide +kernel
theorem dX9_goThrough_58 : decode cX9_goThrough 58 = .ok (.invokevirtual 58, 3) := by decide +kernel
theorem dX9_goThrough_61 : decode cX9_goThrough 61 = .ok (.return_, 1) := by decide +kernel
theorem dX9_addMember_0 : decode cX9_addMember 0 = .ok (.aload_n 0, 1) := by decide +kernel
theorem dX9_addMember_1 : decode cX9_addMember 1 = .ok (.getfield 9, 3) := by decide +kernel
theorem dX9_addMember_4 : decode cX9_addMember 4 = .ok (.aload_n 0, 1) := by decide +kernel
theorem dX9_addMember_5 : decode cX9_addMember 5 = .ok (.getfield 26, 3) := by decide +kernel
theorem dX9_addMember_8 : decode cX9_addMember 8 = .ok (.iload_n 1, 1) := by decide +kernel
theorem dX9_addMember_9 : decode cX9_addMember 9 = .ok (.iastore, 1) := by decide +kernel
theorem dX9_addMember_10 : decode cX9_addMember 10 = .ok (.aload_n 0, 1) := by decide +kernel
theorem dX9_addMember_11 : decode cX9_addMember 11 = .ok (.getfield 15, 3) := by decide +kernel
theorem dX9_addMember_14 : decode cX9_addMember 14 = .ok (.aload_n 0, 1) := by decide +kernel
theorem dX9_addMember_15 : decode cX9_addMember 15 = .ok (.getfield 26, 3) := by decide +kernel
theorem dX9_addMember_18 : decode cX9_addMember 18 = .ok (.aload_n 2, 1) := by decide +kernel
theorem dX9_addMember_19 : decode cX9_addMember 19 = .ok (.getfield 62, 3) := by decide +kernel
theorem dX9_addMember_22 : decode cX9_addMember 22 = .ok (.iastore, 1) := by decide +kernel
theorem dX9_addMember_23 : decode cX9_addMember 23 = .ok (.iconst 0, 1) := by decide +kernel
theorem dX9_addMember_24 : decode cX9_addMember 24 = .ok (.istore_n 3, 1) := by decide +kernel
theorem dX9_addMember_25 : decode cX9_addMember 25 = .ok (.iload_n 3, 1) := by decide +kernel
theorem dX9_addMember_26 : decode cX9_addMember 26 = .ok (.bipush 8, 2) := by decide +kernel
theorem dX9_addMember_28 : decode cX9_addMember 28 = .ok (.if_icmp .ge 42, 3) := by decide +kernel
theorem dX9_addMember_31 : decode cX9_addMember 31 = .ok (.aload_n 0, 1) := by decide +kernel
theorem dX9_addMember_32 : decode cX9_addMember 32 = .ok (.getfield 20, 3) := by decide +kernel
theorem dX9_addMember_35 : decode cX9_addMember 35 = .ok (.aload_n 0, 1) := by decide +kernel
theorem dX9_addMember_36 : decode cX9_addMember 36 = .ok (.getfield 26, 3) := by decide +kernel
theorem dX9_addMember_39 : decode cX9_addMember 39 = .ok (.aaload, 1) := by decide +kernel
theorem dX9_addMember_40 : decode cX9_addMember 40 = .ok (.iload_n 3, 1) := by decide +kernel
theorem dX9_addMember_41 : decode cX9_addMember 41 = .ok (.aload_n 2, 1) := by decide +kernel
theorem dX9_addMember_42 : decode cX9_addMember 42 = .ok (.iload_n 3, 1) := by decide +kernel
theorem dX9_addMember_43 : decode cX9_addMember 43 = .ok (.iconst 0, 1) := by decide +kernel
theorem dX9_addMember_44 : decode cX9_addMember 44 = .ok (.invokevirtual 67, 3) := by decide +kernel
theorem dX9_addMember_47 : decode cX9_addMember 47 = .ok (.iastore, 1) := by decide +kernel
theorem dX9_addMember_48 : decode cX9_addMember 48 = .ok (.aload_n 0, 1) := by decide +kernel
theorem dX9_addMember_49 : decode cX9_addMember 49 = .ok (.getfield 23, 3) := by decide +kernel
theorem dX9_addMember_52 : decode cX9_addMember 52 = .ok (.aload_n 0, 1) := by decide +kernel
theorem dX9_addMember_53 : decode cX9_addMember 53 = .ok (.getfield 26, 3) := by decide +kernel
theorem dX9_addMember_56 : decode cX9_addMember 56 = .ok (.aaload, 1) := by decide +kernel
theorem dX9_addMember_57 : decode cX9_addMember 57 = .ok (.iload_n 3, 1) := by decide +kernel
theorem dX9_addMember_58 : decode cX9_addMember 58 = .ok (.aload_n 2, 1) := by decide +kernel
theorem dX9_addMember_59 : decode cX9_addMember 59 = .ok (.iload_n 3, 1) := by decide +kernel
theorem dX9_addMember_60 : decode cX9_addMember 60 = .ok (.invokevirtual 71, 3) := by decide +kernel
theorem dX9_addMember_63 : decode cX9_addMember 63 = .ok (.iastore, 1) := by decide +kernel
theorem dX9_addMember_64 : decode cX9_addMember 64 = .ok (.iinc 3 1, 3) := by decide +kernel
theorem dX9_addMember_67 : decode cX9_addMember 67 = .ok (.goto (-42), 3) := by decide +kernel
theorem dX9_addMember_70 : decode cX9_addMember 70 = .ok (.aload_n 0, 1) := by decide +kernel
theorem dX9_addMember_71 : decode cX9_addMember 71 = .ok (.dup, 1) := by decide +kernel
theorem dX9_addMember_72 : decode cX9_addMember 72 = .ok (.getfield 26, 3) := by decide +kernel
theorem dX9_addMember_75 : decode cX9_addMember 75 = .ok (.iconst 1, 1) := by decide +kernel
theorem dX9_addMember_76 : decode cX9_addMember 76 = .ok (.iadd, 1) := by decide +kernel
theorem dX9_addMember_77 : decode cX9_addMember 77 = .ok (.putfield 26, 3) := by decide +kernel
theorem dX9_addMember_80 : decode cX9_addMember 80 = .ok (.return_, 1) := by decide +kernel
theorem dX9_spread_0 : decode cX9_spread 0 = .ok (.iload_n 2, 1) := by decide +kernel
theorem dX9_spread_1 : decode cX9_spread 1 = .ok (.iconst 4, 1) := by decide +kernel
theorem dX9_spread_2 : decode cX9_spread 2 = .ok (.if_icmp .lt 4, 3) := by decide +kernel
theorem dX9_spread_5 : decode cX9_spread 5 = .ok (.return_, 1) := by decide +kernel
theorem dX9_spread_6 : decode cX9_spread 6 = .ok (.iload_n 3, 1) := by decide +kernel
theorem dX9_spread_7 : decode cX9_spread 7 = .ok (.istore 5, 2) := by decide +kernel
theorem dX9_spread_9 : decode cX9_spread 9 = .ok (.iload 5, 2) := by decide +kernel
theorem dX9_spread_11 : decode cX9_spread 11 = .ok (.aload_n 0, 1) := by decide +kernel
theorem dX9_spread_12 : decode cX9_spread 12 = .ok (.getfield 26, 3) := by decide +kernel
theorem dX9_spread_15 : decode cX9_spread 15 = .ok (.if_icmp .ge 108, 3) := by decide +kernel
theorem dX9_spread_18 : decode cX9_spread 18 = .ok (.aload_n 0, 1) := by decide +kernel
theorem dX9_spread_19 : decode cX9_spread 19 = .ok (.getfield 30, 3) := by decide +kernel
theorem dX9_spread_22 : decode cX9_spread 22 = .ok (.iload_n 2, 1) := by decide +kernel
theorem dX9_spread_23 : decode cX9_spread 23 = .ok (.iload 5, 2) := by decide +kernel
theorem dX9_spread_25 : decode cX9_spread 25 = .ok (.iastore, 1) := by decide +kernel
theorem dX9_spread_26 : decode cX9_spread 26 = .ok (.aload_n 0, 1) := by decide +kernel
theorem dX9_spread_27 : decode cX9_spread 27 = .ok (.getfield 33, 3) := by decide +kernel
theorem dX9_spread_30 : decode cX9_spread 30 = .ok (.iload_n 2, 1) := by decide +kernel
theorem dX9_spread_31 : decode cX9_spread 31 = .ok (.iload 4, 2) := by decide +kernel
theorem dX9_spread_33 : decode cX9_spread 33 = .ok (.iastore, 1) := by decide +kernel
theorem dX9_spread_34 : decode cX9_spread 34 = .ok (.aload_n 0, 1) := by decide +kernel
theorem dX9_spread_35 : decode cX9_spread 35 = .ok (.iload_n 2, 1) := by decide +kernel
theorem dX9_spread_36 : decode cX9_spread 36 = .ok (.putfield 42, 3) := by decide +kernel
theorem dX9_spread_39 : decode cX9_spread 39 = .ok (.aload_n 0, 1) := by decide +kernel
theorem dX9_spread_40 : decode cX9_spread 40 = .ok (.getfield 45, 3) := by decide +kernel
theorem dX9_spread_43 : decode cX9_spread 43 = .ok (.iconst (-1), 1) := by decide +kernel
theorem dX9_spread_44 : decode cX9_spread 44 = .ok (.invokestatic 75, 3) := by decide +kernel
theorem dX9_spread_47 : decode cX9_spread 47 = .ok (.aload_n 0, 1) := by decide +kernel
theorem dX9_spread_48 : decode cX9_spread 48 = .ok (.aload_n 1, 1) := by decide +kernel
theorem dX9_spread_49 : decode cX9_spread 49 = .ok (.invokevirtual 81, 3) := by decide +kernel
theorem dX9_spread_52 : decode cX9_spread 52 = .ok (.iload_n 2, 1) := by decide +kernel
theorem dX9_spread_53 : decode cX9_spread 53 = .ok (.iconst 1, 1) := by decide +kernel
theorem dX9_spread_54 : decode cX9_spread 54 = .ok (.iadd, 1) := by decide +kernel
theorem dX9_spread_55 : decode cX9_spread 55 = .ok (.iconst 4, 1) := by decide +kernel
theorem dX9_spread_56 : decode cX9_spread 56 = .ok (.if_icmp .ge 61, 3) := by decide +kernel
theorem dX9_spread_59 : decode cX9_spread 59 = .ok (.iload 5, 2) := by decide +kernel
theorem dX9_spread_61 : decode cX9_spread 61 = .ok (.iconst 1, 1) := by decide +kernel
theorem dX9_spread_62 : decode cX9_spread 62 = .ok (.iadd, 1) := by decide +kernel
theorem dX9_spread_63 : decode cX9_spread 63 = .ok (.aload_n 0, 1) := by decide +kernel
theorem dX9_spread_64 : decode cX9_spread 64 = .ok (.getfield 26, 3) := by decide +kernel
theorem dX9_spread_67 : decode cX9_spread 67 = .ok (.if_icmp .ge 50, 3) := by decide +kernel
theorem dX9_spread_70 : decode cX9_spread 70 = .ok (.iload 4, 2) := by decide +kernel
theorem dX9_spread_72 : decode cX9_spread 72 = .ok (.iconst 1, 1) := by decide +kernel
theorem dX9_spread_73 : decode cX9_spread 73 = .ok (.isub, 1) := by decide +kernel
theorem dX9_spread_74 : decode cX9_spread 74 = .ok (.istore 6, 2) := by decide +kernel
theorem dX9_spread_76 : decode cX9_spread 76 = .ok (.iload 6, 2) := by decide +kernel
theorem dX9_spread_78 : decode cX9_spread 78 = .ok (.ifCond .le 39, 3) := by decide +kernel
theorem dX9_spread_81 : decode cX9_spread 81 = .ok (.aload_n 0, 1) := by decide +kernel
theorem dX9_spread_82 : decode cX9_spread 82 = .ok (.getfield 33, 3) := by decide +kernel
theorem dX9_spread_85 : decode cX9_spread 85 = .ok (.iload_n 2, 1) := by decide +kernel
theorem dX9_spread_86 : decode cX9_spread 86 = .ok (.iload 6, 2) := by decide +kernel
theorem dX9_spread_88 : decode cX9_spread 88 = .ok (.iastore, 1) := by decide +kernel
theorem dX9_spread_89 : decode cX9_spread 89 = .ok (.aload_n 0, 1) := by decide +kernel
theorem dX9_spread_90 : decode cX9_spread 90 = .ok (.iload_n 2, 1) := by decide +kernel
theorem dX9_spread_91 : decode cX9_spread 91 = .ok (.invokevirtual 85, 3) := by decide +kernel
theorem dX9_spread_94 : decode cX9_spread 94 = .ok (.aload_n 0, 1) := by decide +kernel
theorem dX9_spread_95 : decode cX9_spread 95 = .ok (.aload_n 1, 1) := by decide +kernel
theorem dX9_spread_96 : decode cX9_spread 96 = .ok (.iload_n 2, 1) := by decide +kernel
theorem dX9_spread_97 : decode cX9_spread 97 = .ok (.iconst 1, 1) := by decide +kernel
theorem dX9_spread_98 : decode cX9_spread 98 = .ok (.iadd, 1) := by decide +kernel
theorem dX9_spread_99 : decode cX9_spread 99 = .ok (.iload 5, 2) := by decide +kernel
theorem dX9_spread_101 : decode cX9_spread 101 = .ok (.iconst 1, 1) := by decide +kernel
theorem dX9_spread_102 : decode cX9_spread 102 = .ok (.iadd, 1) := by decide +kernel
theorem dX9_spread_103 : decode cX9_spread 103 = .ok (.iload 4, 2) := by decide +kernel
theorem dX9_spread_105 : decode cX9_spread 105 = .ok (.iload 6, 2) := by decide +kernel
theorem dX9_spread_107 : decode cX9_spread 107 = .ok (.isub, 1) := by decide +kernel
theorem dX9_spread_108 : decode cX9_spread 108 = .ok (.invokevirtual 58, 3) := by decide +kernel
theorem dX9_spread_111 : decode cX9_spread 111 = .ok (.iinc 6 (-1), 3) := by decide +kernel
theorem dX9_spread_114 : decode cX9_spread 114 = .ok (.goto (-38), 3) := by decide +kernel
theorem dX9_spread_117 : decode cX9_spread 117 = .ok (.iinc 5 1, 3) := by decide +kernel
theorem dX9_spread_120 : decode cX9_spread 120 = .ok (.goto (-111), 3) := by decide +kernel
theorem dX9_spread_123 : decode cX9_spread 123 = .ok (.return_, 1) := by decide +kernel
theorem dX9_sumUp_0 : decode cX9_sumUp 0 = .ok (.aload_n 0, 1) := by decide +kernel
theorem dX9_sumUp_1 : decode cX9_sumUp 1 = .ok (.getfield 33, 3) := by decide +kernel
theorem dX9_sumUp_4 : decode cX9_sumUp 4 = .ok (.iload_n 1, 1) := by decide +kernel
theorem dX9_sumUp_5 : decode cX9_sumUp 5 = .ok (.iaload, 1) := by decide +kernel
theorem dX9_sumUp_6 : decode cX9_sumUp 6 = .ok (.istore_n 2, 1) := by decide +kernel
theorem dX9_sumUp_7 : decode cX9_sumUp 7 = .ok (.aload_n 0, 1) := by decide +kernel
theorem dX9_sumUp_8 : decode cX9_sumUp 8 = .ok (.getfield 30, 3) := by decide +kernel
theorem dX9_sumUp_11 : decode cX9_sumUp 11 = .ok (.iload_n 1, 1) := by decide +kernel
theorem dX9_sumUp_12 : decode cX9_sumUp 12 = .ok (.iaload, 1) := by decide +kernel
theorem dX9_sumUp_13 : decode cX9_sumUp 13 = .ok (.istore_n 3, 1) := by decide +kernel
theorem dX9_sumUp_14 : decode cX9_sumUp 14 = .ok (.iconst 0, 1) := by decide +kernel
theorem dX9_sumUp_15 : decode cX9_sumUp 15 = .ok (.istore 4, 2) := by decide +kernel
theorem dX9_sumUp_17 : decode cX9_sumUp 17 = .ok (.iload 4, 2) := by decide +kernel
theorem dX9_sumUp_19 : decode cX9_sumUp 19 = .ok (.bipush 8, 2) := by decide +kernel
theorem dX9_sumUp_21 : decode cX9_sumUp 21 = .ok (.if_icmp .ge 73, 3) := by decide +kernel
theorem dX9_sumUp_24 : decode cX9_sumUp 24 = .ok (.aload_n 0, 1) := by decide +kernel
theorem dX9_sumUp_25 : decode cX9_sumUp 25 = .ok (.getfield 36, 3) := by decide +kernel
theorem dX9_sumUp_28 : decode cX9_sumUp 28 = .ok (.iload_n 1, 1) := by decide +kernel
theorem dX9_sumUp_29 : decode cX9_sumUp 29 = .ok (.iconst 1, 1) := by decide +kernel
theorem dX9_sumUp_30 : decode cX9_sumUp 30 = .ok (.iadd, 1) := by decide +kernel
theorem dX9_sumUp_31 : decode cX9_sumUp 31 = .ok (.aaload, 1) := by decide +kernel
theorem dX9_sumUp_32 : decode cX9_sumUp 32 = .ok (.iload 4, 2) := by decide +kernel
theorem dX9_sumUp_34 : decode cX9_sumUp 34 = .ok (.aload_n 0, 1) := by decide +kernel
theorem dX9_sumUp_35 : decode cX9_sumUp 35 = .ok (.getfield 36, 3) := by decide +kernel
theorem dX9_sumUp_38 : decode cX9_sumUp 38 = .ok (.iload_n 1, 1) := by decide +kernel
theorem dX9_sumUp_39 : decode cX9_sumUp 39 = .ok (.aaload, 1) := by decide +kernel
theorem dX9_sumUp_40 : decode cX9_sumUp 40 = .ok (.iload 4, 2) := by decide +kernel
theorem dX9_sumUp_42 : decode cX9_sumUp 42 = .ok (.iaload, 1) := by decide +kernel
theorem dX9_sumUp_43 : decode cX9_sumUp 43 = .ok (.iload_n 2, 1) := by decide +kernel
theorem dX9_sumUp_44 : decode cX9_sumUp 44 = .ok (.aload_n 0, 1) := by decide +kernel
theorem dX9_sumUp_45 : decode cX9_sumUp 45 = .ok (.getfield 20, 3) := by decide +kernel
