theorem dX0_init_0 : decode cX0_init 0 = .ok (.aload_n 0, 1) := by decide +kernel
theorem dX0_init_1 : decode cX0_init 1 = .ok (.invokespecial 3, 3) := by decide +kernel
theorem dX0_init_4 : decode cX0_init 4 = .ok (.aload_n 0, 1) := by decide +kernel
theorem dX0_init_5 : decode cX0_init 5 = .ok (.iconst 4, 1) := by decide +kernel
theorem dX0_init_6 : decode cX0_init 6 = .ok (.newarray .int, 2) := by decide +kernel
theorem dX0_init_8 : decode cX0_init 8 = .ok (.putfield 9, 3) := by decide +kernel
theorem dX0_init_11 : decode cX0_init 11 = .ok (.aload_n 0, 1) := by decide +kernel
theorem dX0_init_12 : decode cX0_init 12 = .ok (.iconst 4, 1) := by decide +kernel
theorem dX0_init_13 : decode cX0_init 13 = .ok (.newarray .int, 2) := by decide +kernel
theorem dX0_init_15 : decode cX0_init 15 = .ok (.putfield 15, 3) := by decide +kernel
theorem dX0_init_18 : decode cX0_init 18 = .ok (.return_, 1) := by decide +kernel
theorem dX0_add_0 : decode cX0_add 0 = .ok (.aload_n 0, 1) := by decide +kernel
theorem dX0_add_1 : decode cX0_add 1 = .ok (.getfield 18, 3) := by decide +kernel
theorem dX0_add_4 : decode cX0_add 4 = .ok (.iconst 4, 1) := by decide +kernel
theorem dX0_add_5 : decode cX0_add 5 = .ok (.if_icmp .ge 33, 3) := by decide +kernel
theorem dX0_add_8 : decode cX0_add 8 = .ok (.aload_n 0, 1) := by decide +kernel
theorem dX0_add_9 : decode cX0_add 9 = .ok (.getfield 9, 3) := by decide +kernel
theorem dX0_add_12 : decode cX0_add 12 = .ok (.aload_n 0, 1) := by decide +kernel
theorem dX0_add_13 : decode cX0_add 13 = .ok (.getfield 18, 3) := by decide +kernel
theorem dX0_add_16 : decode cX0_add 16 = .ok (.iload_n 1, 1) := by decide +kernel
theorem dX0_add_17 : decode cX0_add 17 = .ok (.iastore, 1) := by decide +kernel
theorem dX0_add_18 : decode cX0_add 18 = .ok (.aload_n 0, 1) := by decide +kernel
theorem dX0_add_19 : decode cX0_add 19 = .ok (.getfield 15, 3) := by decide +kernel
theorem dX0_add_22 : decode cX0_add 22 = .ok (.aload_n 0, 1) := by decide +kernel
theorem dX0_add_23 : decode cX0_add 23 = .ok (.getfield 18, 3) := by decide +kernel
theorem dX0_add_26 : decode cX0_add 26 = .ok (.iload_n 2, 1) := by decide +kernel
theorem dX0_add_27 : decode cX0_add 27 = .ok (.iastore, 1) := by decide +kernel
theorem dX0_add_28 : decode cX0_add 28 = .ok (.aload_n 0, 1) := by decide +kernel
theorem dX0_add_29 : decode cX0_add 29 = .ok (.dup, 1) := by decide +kernel
theorem dX0_add_30 : decode cX0_add 30 = .ok (.getfield 18, 3) := by decide +kernel
theorem dX0_add_33 : decode cX0_add 33 = .ok (.iconst 1, 1) := by decide +kernel
theorem dX0_add_34 : decode cX0_add 34 = .ok (.iadd, 1) := by decide +kernel
theorem dX0_add_35 : decode cX0_add 35 = .ok (.putfield 18, 3) := by decide +kernel
theorem dX0_add_38 : decode cX0_add 38 = .ok (.return_, 1) := by decide +kernel
theorem dX0_copyFrom_0 : decode cX0_copyFrom 0 = .ok (.aload_n 0, 1) := by decide +kernel
theorem dX0_copyFrom_1 : decode cX0_copyFrom 1 = .ok (.aload_n 1, 1) := by decide +kernel
theorem dX0_copyFrom_2 : decode cX0_copyFrom 2 = .ok (.getfield 18, 3) := by decide +kernel
theorem dX0_copyFrom_5 : decode cX0_copyFrom 5 = .ok (.putfield 18, 3) := by decide +kernel
theorem dX0_copyFrom_8 : decode cX0_copyFrom 8 = .ok (.iconst 0, 1) := by decide +kernel
theorem dX0_copyFrom_9 : decode cX0_copyFrom 9 = .ok (.istore_n 2, 1) := by decide +kernel
theorem dX0_copyFrom_10 : decode cX0_copyFrom 10 = .ok (.iload_n 2, 1) := by decide +kernel
theorem dX0_copyFrom_11 : decode cX0_copyFrom 11 = .ok (.iconst 4, 1) := by decide +kernel
theorem dX0_copyFrom_12 : decode cX0_copyFrom 12 = .ok (.if_icmp .ge 33, 3) := by decide +kernel
theorem dX0_copyFrom_15 : decode cX0_copyFrom 15 = .ok (.aload_n 0, 1) := by decide +kernel
theorem dX0_copyFrom_16 : decode cX0_copyFrom 16 = .ok (.getfield 9, 3) := by decide +kernel
theorem dX0_copyFrom_19 : decode cX0_copyFrom 19 = .ok (.iload_n 2, 1) := by decide +kernel
theorem dX0_copyFrom_20 : decode cX0_copyFrom 20 = .ok (.aload_n 1, 1) := by decide +kernel
theorem dX0_copyFrom_21 : decode cX0_copyFrom 21 = .ok (.getfield 9, 3) := by decide +kernel
theorem dX0_copyFrom_24 : decode cX0_copyFrom 24 = .ok (.iload_n 2, 1) := by decide +kernel
theorem dX0_copyFrom_25 : decode cX0_copyFrom 25 = .ok (.iaload, 1) := by decide +kernel
theorem dX0_copyFrom_26 : decode cX0_copyFrom 26 = .ok (.iastore, 1) := by decide +kernel
theorem dX0_copyFrom_27 : decode cX0_copyFrom 27 = .ok (.aload_n 0, 1) := by decide +kernel
theorem dX0_copyFrom_28 : decode cX0_copyFrom 28 = .ok (.getfield 15, 3) := by decide +kernel
theorem dX0_copyFrom_31 : decode cX0_copyFrom 31 = .ok (.iload_n 2, 1) := by decide +kernel
theorem dX0_copyFrom_32 : decode cX0_copyFrom 32 = .ok (.aload_n 1, 1) := by decide +kernel
theorem dX0_copyFrom_33 : decode cX0_copyFrom 33 = .ok (.getfield 15, 3) := by decide +kernel
theorem dX0_copyFrom_36 : decode cX0_copyFrom 36 = .ok (.iload_n 2, 1) := by decide +kernel
theorem dX0_copyFrom_37 : decode cX0_copyFrom 37 = .ok (.iaload, 1) := by decide +kernel
theorem dX0_copyFrom_38 : decode cX0_copyFrom 38 = .ok (.iastore, 1) := by decide +kernel
theorem dX0_copyFrom_39 : decode cX0_copyFrom 39 = .ok (.iinc 2 1, 3) := by decide +kernel
theorem dX0_copyFrom_42 : decode cX0_copyFrom 42 = .ok (.goto (-32), 3) := by decide +kernel
theorem dX0_copyFrom_45 : decode cX0_copyFrom 45 = .ok (.return_, 1) := by decide +kernel
theorem dX1_init_0 : decode cX1_init 0 = .ok (.aload_n 0, 1) := by decide +kernel
theorem dX1_init_1 : decode cX1_init 1 = .ok (.invokespecial 3, 3) := by decide +kernel
theorem dX1_init_4 : decode cX1_init 4 = .ok (.aload_n 0, 1) := by decide +kernel
theorem dX1_init_5 : decode cX1_init 5 = .ok (.iconst 5, 1) := by decide +kernel
theorem dX1_init_6 : decode cX1_init 6 = .ok (.anewarray 9, 3) := by decide +kernel
theorem dX1_init_9 : decode cX1_init 9 = .ok (.putfield 11, 3) := by decide +kernel
theorem dX1_init_12 : decode cX1_init 12 = .ok (.aload_n 0, 1) := by decide +kernel
theorem dX1_init_13 : decode cX1_init 13 = .ok (.iconst 4, 1) := by decide +kernel
theorem dX1_init_14 : decode cX1_init 14 = .ok (.newarray .int, 2) := by decide +kernel
theorem dX1_init_16 : decode cX1_init 16 = .ok (.putfield 17, 3) := by decide +kernel
theorem dX1_init_19 : decode cX1_init 19 = .ok (.iconst 0, 1) := by decide +kernel
theorem dX1_init_20 : decode cX1_init 20 = .ok (.istore_n 1, 1) := by decide +kernel
theorem dX1_init_21 : decode cX1_init 21 = .ok (.iload_n 1, 1) := by decide +kernel
theorem dX1_init_22 : decode cX1_init 22 = .ok (.iconst 5, 1) := by decide +kernel
theorem dX1_init_23 : decode cX1_init 23 = .ok (.if_icmp .ge 22, 3) := by decide +kernel
theorem dX1_init_26 : decode cX1_init 26 = .ok (.aload_n 0, 1) := by decide +kernel
theorem dX1_init_27 : decode cX1_init 27 = .ok (.getfield 11, 3) := by decide +kernel
theorem dX1_init_30 : decode cX1_init 30 = .ok (.iload_n 1, 1) := by decide +kernel
theorem dX1_init_31 : decode cX1_init 31 = .ok (.new 9, 3) := by decide +kernel
theorem dX1_init_34 : decode cX1_init 34 = .ok (.dup, 1) := by decide +kernel
theorem dX1_init_35 : decode cX1_init 35 = .ok (.invokespecial 21, 3) := by decide +kernel
theorem dX1_init_38 : decode cX1_init 38 = .ok (.aastore, 1) := by decide +kernel
theorem dX1_init_39 : decode cX1_init 39 = .ok (.iinc 1 1, 3) := by decide +kernel
theorem dX1_init_42 : decode cX1_init 42 = .ok (.goto (-21), 3) := by decide +kernel
theorem dX1_init_45 : decode cX1_init 45 = .ok (.aload_n 0, 1) := by decide +kernel
theorem dX1_init_46 : decode cX1_init 46 = .ok (.iconst 0, 1) := by decide +kernel
theorem dX1_init_47 : decode cX1_init 47 = .ok (.putfield 22, 3) := by decide +kernel
theorem dX1_init_50 : decode cX1_init 50 = .ok (.return_, 1) := by decide +kernel
theorem dX1_copyFrom_0 : decode cX1_copyFrom 0 = .ok (.aload_n 0, 1) := by decide +kernel
theorem dX1_copyFrom_1 : decode cX1_copyFrom 1 = .ok (.aload_n 1, 1) := by decide +kernel
theorem dX1_copyFrom_2 : decode cX1_copyFrom 2 = .ok (.getfield 22, 3) := by decide +kernel
theorem dX1_copyFrom_5 : decode cX1_copyFrom 5 = .ok (.putfield 22, 3) := by decide +kernel
theorem dX1_copyFrom_8 : decode cX1_copyFrom 8 = .ok (.iconst 0, 1) := by decide +kernel
theorem dX1_copyFrom_9 : decode cX1_copyFrom 9 = .ok (.istore_n 2, 1) := by decide +kernel
theorem dX1_copyFrom_10 : decode cX1_copyFrom 10 = .ok (.iload_n 2, 1) := by decide +kernel
theorem dX1_copyFrom_11 : decode cX1_copyFrom 11 = .ok (.aload_n 0, 1) := by decide +kernel
theorem dX1_copyFrom_12 : decode cX1_copyFrom 12 = .ok (.getfield 22, 3) := by decide +kernel
theorem dX1_copyFrom_15 : decode cX1_copyFrom 15 = .ok (.if_icmp .ge 24, 3) := by decide +kernel
theorem dX1_copyFrom_18 : decode cX1_copyFrom 18 = .ok (.aload_n 0, 1) := by decide +kernel
theorem dX1_copyFrom_19 : decode cX1_copyFrom 19 = .ok (.getfield 11, 3) := by decide +kernel
theorem dX1_copyFrom_22 : decode cX1_copyFrom 22 = .ok (.iload_n 2, 1) := by decide +kernel
theorem dX1_copyFrom_23 : decode cX1_copyFrom 23 = .ok (.aaload, 1) := by decide +kernel
theorem dX1_copyFrom_24 : decode cX1_copyFrom 24 = .ok (.aload_n 1, 1) := by decide +kernel
theorem dX1_copyFrom_25 : decode cX1_copyFrom 25 = .ok (.getfield 11, 3) := by decide +kernel
theorem dX1_copyFrom_28 : decode cX1_copyFrom 28 = .ok (.iload_n 2, 1) := by decide +kernel
theorem dX1_copyFrom_29 : decode cX1_copyFrom 29 = .ok (.aaload, 1) := by decide +kernel
theorem dX1_copyFrom_30 : decode cX1_copyFrom 30 = .ok (.invokevirtual 26, 3) := by decide +kernel
theorem dX1_copyFrom_33 : decode cX1_copyFrom 33 = .ok (.iinc 2 1, 3) := by decide +kernel
theorem dX1_copyFrom_36 : decode cX1_copyFrom 36 = .ok (.goto (-26), 3) := by decide +kernel
theorem dX1_copyFrom_39 : decode cX1_copyFrom 39 = .ok (.return_, 1) := by decide +kernel
theorem dX1_add_0 : decode cX1_add 0 = .ok (.aload_n 0, 1) := by decide +kernel
theorem dX1_add_1 : decode cX1_add 1 = .ok (.getfield 22, 3) := by decide +kernel
theorem dX1_add_4 : decode cX1_add 4 = .ok (.iconst 5, 1) := by decide +kernel
theorem dX1_add_5 : decode cX1_add 5 = .ok (.if_icmp .ge 26, 3) := by decide +kernel
theorem dX1_add_8 : decode cX1_add 8 = .ok (.aload_n 0, 1) := by decide +kernel
theorem dX1_add_9 : decode cX1_add 9 = .ok (.getfield 11, 3) := by decide +kernel
theorem dX1_add_12 : decode cX1_add 12 = .ok (.aload_n 0, 1) := by decide +kernel
theorem dX1_add_13 : decode cX1_add 13 = .ok (.getfield 22, 3) := by decide +kernel
theorem dX1_add_16 : decode cX1_add 16 = .ok (.aaload, 1) := by decide +kernel
theorem dX1_add_17 : decode cX1_add 17 = .ok (.iload_n 1, 1) := by decide +kernel
theorem dX1_add_18 : decode cX1_add 18 = .ok (.invokevirtual 30, 3) := by decide +kernel
theorem dX1_add_21 : decode cX1_add 21 = .ok (.aload_n 0, 1) := by decide +kernel
theorem dX1_add_22 : decode cX1_add 22 = .ok (.dup, 1) := by decide +kernel
theorem dX1_add_23 : decode cX1_add 23 = .ok (.getfield 22, 3) := by decide +kernel
theorem dX1_add_26 : decode cX1_add 26 = .ok (.iconst 1, 1) := by decide +kernel
theorem dX1_add_27 : decode cX1_add 27 = .ok (.iadd, 1) := by decide +kernel
theorem dX1_add_28 : decode cX1_add 28 = .ok (.putfield 22, 3) := by decide +kernel
theorem dX1_add_31 : decode cX1_add 31 = .ok (.return_, 1) := by decide +kernel
theorem dX1_everyone_0 : decode cX1_everyone 0 = .ok (.iconst 1, 1) := by decide +kernel
theorem dX1_everyone_1 : decode cX1_everyone 1 = .ok (.aload_n 0, 1) := by decide +kernel
theorem dX1_everyone_2 : decode cX1_everyone 2 = .ok (.getfield 22, 3) := by decide +kernel
theorem dX1_everyone_5 : decode cX1_everyone 5 = .ok (.ishl, 1) := by decide +kernel
theorem dX1_everyone_6 : decode cX1_everyone 6 = .ok (.iconst 1, 1) := by decide +kernel
theorem dX1_everyone_7 : decode cX1_everyone 7 = .ok (.isub, 1) := by decide +kernel
theorem dX1_everyone_8 : decode cX1_everyone 8 = .ok (.ireturn, 1) := by decide +kernel
theorem dX1_havingSight_0 : decode cX1_havingSight 0 = .ok (.iconst 0, 1) := by decide +kernel
theorem dX1_havingSight_1 : decode cX1_havingSight 1 = .ok (.istore_n 2, 1) := by decide +kernel
theorem dX1_havingSight_2 : decode cX1_havingSight 2 = .ok (.iconst 0, 1) := by decide +kernel
theorem dX1_havingSight_3 : decode cX1_havingSight 3 = .ok (.istore_n 3, 1) := by decide +kernel
theorem dX1_havingSight_4 : decode cX1_havingSight 4 = .ok (.iload_n 3, 1) := by decide +kernel
theorem dX1_havingSight_5 : decode cX1_havingSight 5 = .ok (.aload_n 0, 1) := by decide +kernel
theorem dX1_havingSight_6 : decode cX1_havingSight 6 = .ok (.getfield 22, 3) := by decide +kernel
theorem dX1_havingSight_9 : decode cX1_havingSight 9 = .ok (.if_icmp .ge 25, 3) := by decide +kernel
theorem dX1_havingSight_12 : decode cX1_havingSight 12 = .ok (.aload_n 0, 1) := by decide +kernel
theorem dX1_havingSight_13 : decode cX1_havingSight 13 = .ok (.getfield 11, 3) := by decide +kernel
theorem dX1_havingSight_16 : decode cX1_havingSight 16 = .ok (.iload_n 3, 1) := by decide +kernel
theorem dX1_havingSight_17 : decode cX1_havingSight 17 = .ok (.aaload, 1) := by decide +kernel
theorem dX1_havingSight_18 : decode cX1_havingSight 18 = .ok (.iload_n 1, 1) := by decide +kernel
theorem dX1_havingSight_19 : decode cX1_havingSight 19 = .ok (.invokevirtual 34, 3) := by decide +kernel
theorem dX1_havingSight_22 : decode cX1_havingSight 22 = .ok (.ifCond .eq 6, 3) := by decide +kernel
theorem dX1_havingSight_25 : decode cX1_havingSight 25 = .ok (.iinc 2 1, 3) := by decide +kernel
theorem dX1_havingSight_28 : decode cX1_havingSight 28 = .ok (.iinc 3 1, 3) := by decide +kernel
theorem dX1_havingSight_31 : decode cX1_havingSight 31 = .ok (.goto (-27), 3) := by decide +kernel
theorem dX1_havingSight_34 : decode cX1_havingSight 34 = .ok (.iload_n 2, 1) := by decide +kernel
theorem dX1_havingSight_35 : decode cX1_havingSight 35 = .ok (.ireturn, 1) := by decide +kernel
theorem dX1_unlikeSights_0 : decode cX1_unlikeSights 0 = .ok (.iconst 0, 1) := by decide +kernel
theorem dX1_unlikeSights_1 : decode cX1_unlikeSights 1 = .ok (.istore_n 1, 1) := by decide +kernel
theorem dX1_unlikeSights_2 : decode cX1_unlikeSights 2 = .ok (.iconst 0, 1) := by decide +kernel
theorem dX1_unlikeSights_3 : decode cX1_unlikeSights 3 = .ok (.istore_n 2, 1) := by decide +kernel
theorem dX1_unlikeSights_4 : decode cX1_unlikeSights 4 = .ok (.iload_n 2, 1) := by decide +kernel
theorem dX1_unlikeSights_5 : decode cX1_unlikeSights 5 = .ok (.bipush 24, 2) := by decide +kernel
theorem dX1_unlikeSights_7 : decode cX1_unlikeSights 7 = .ok (.if_icmp .ge 20, 3) := by decide +kernel
theorem dX1_unlikeSights_10 : decode cX1_unlikeSights 10 = .ok (.aload_n 0, 1) := by decide +kernel
theorem dX1_unlikeSights_11 : decode cX1_unlikeSights 11 = .ok (.iload_n 2, 1) := by decide +kernel
theorem dX1_unlikeSights_12 : decode cX1_unlikeSights 12 = .ok (.invokevirtual 38, 3) := by decide +kernel
theorem dX1_unlikeSights_15 : decode cX1_unlikeSights 15 = .ok (.ifCond .le 6, 3) := by decide +kernel
theorem dX1_unlikeSights_18 : decode cX1_unlikeSights 18 = .ok (.iinc 1 1, 3) := by decide +kernel
theorem dX1_unlikeSights_21 : decode cX1_unlikeSights 21 = .ok (.iinc 2 1, 3) := by decide +kernel
theorem dX1_unlikeSights_24 : decode cX1_unlikeSights 24 = .ok (.goto (-20), 3) := by decide +kernel
theorem dX1_unlikeSights_27 : decode cX1_unlikeSights 27 = .ok (.iload_n 1, 1) := by decide +kernel
theorem dX1_unlikeSights_28 : decode cX1_unlikeSights 28 = .ok (.ireturn, 1) := by decide +kernel
theorem dX1_saidAmong_0 : decode cX1_saidAmong 0 = .ok (.aload_n 0, 1) := by decide +kernel
theorem dX1_saidAmong_1 : decode cX1_saidAmong 1 = .ok (.iload_n 1, 1) := by decide +kernel
theorem dX1_saidAmong_2 : decode cX1_saidAmong 2 = .ok (.iload_n 2, 1) := by decide +kernel
theorem dX1_saidAmong_3 : decode cX1_saidAmong 3 = .ok (.invokevirtual 42, 3) := by decide +kernel
theorem dX1_saidAmong_6 : decode cX1_saidAmong 6 = .ok (.iconst (-1), 1) := by decide +kernel
theorem dX1_saidAmong_7 : decode cX1_saidAmong 7 = .ok (.istore_n 3, 1) := by decide +kernel
theorem dX1_saidAmong_8 : decode cX1_saidAmong 8 = .ok (.iconst 0, 1) := by decide +kernel
theorem dX1_saidAmong_9 : decode cX1_saidAmong 9 = .ok (.istore 4, 2) := by decide +kernel
theorem dX1_saidAmong_11 : decode cX1_saidAmong 11 = .ok (.iconst 0, 1) := by decide +kernel
theorem dX1_saidAmong_12 : decode cX1_saidAmong 12 = .ok (.istore 5, 2) := by decide +kernel
theorem dX1_saidAmong_14 : decode cX1_saidAmong 14 = .ok (.iload 5, 2) := by decide +kernel
theorem dX1_saidAmong_16 : decode cX1_saidAmong 16 = .ok (.iconst 4, 1) := by decide +kernel
theorem dX1_saidAmong_17 : decode cX1_saidAmong 17 = .ok (.if_icmp .ge 50, 3) := by decide +kernel
theorem dX1_saidAmong_20 : decode cX1_saidAmong 20 = .ok (.aload_n 0, 1) := by decide +kernel
theorem dX1_saidAmong_21 : decode cX1_saidAmong 21 = .ok (.getfield 17, 3) := by decide +kernel
theorem dX1_saidAmong_24 : decode cX1_saidAmong 24 = .ok (.iload 5, 2) := by decide +kernel
theorem dX1_saidAmong_26 : decode cX1_saidAmong 26 = .ok (.iaload, 1) := by decide +kernel
theorem dX1_saidAmong_27 : decode cX1_saidAmong 27 = .ok (.iload 4, 2) := by decide +kernel
theorem dX1_saidAmong_29 : decode cX1_saidAmong 29 = .ok (.if_icmp .le 18, 3) := by decide +kernel
theorem dX1_saidAmong_32 : decode cX1_saidAmong 32 = .ok (.iload 5, 2) := by decide +kernel
theorem dX1_saidAmong_34 : decode cX1_saidAmong 34 = .ok (.istore_n 3, 1) := by decide +kernel
theorem dX1_saidAmong_35 : decode cX1_saidAmong 35 = .ok (.aload_n 0, 1) := by decide +kernel
theorem dX1_saidAmong_36 : decode cX1_saidAmong 36 = .ok (.getfield 17, 3) := by decide +kernel
theorem dX1_saidAmong_39 : decode cX1_saidAmong 39 = .ok (.iload 5, 2) := by decide +kernel
theorem dX1_saidAmong_41 : decode cX1_saidAmong 41 = .ok (.iaload, 1) := by decide +kernel
theorem dX1_saidAmong_42 : decode cX1_saidAmong 42 = .ok (.istore 4, 2) := by decide +kernel
theorem dX1_saidAmong_44 : decode cX1_saidAmong 44 = .ok (.goto 17, 3) := by decide +kernel
theorem dX1_saidAmong_47 : decode cX1_saidAmong 47 = .ok (.aload_n 0, 1) := by decide +kernel
theorem dX1_saidAmong_48 : decode cX1_saidAmong 48 = .ok (.getfield 17, 3) := by decide +kernel
theorem dX1_saidAmong_51 : decode cX1_saidAmong 51 = .ok (.iload 5, 2) := by decide +kernel
theorem dX1_saidAmong_53 : decode cX1_saidAmong 53 = .ok (.iaload, 1) := by decide +kernel
theorem dX1_saidAmong_54 : decode cX1_saidAmong 54 = .ok (.iload 4, 2) := by decide +kernel
theorem dX1_saidAmong_56 : decode cX1_saidAmong 56 = .ok (.if_icmp .ne 5, 3) := by decide +kernel
theorem dX1_saidAmong_59 : decode cX1_saidAmong 59 = .ok (.iconst (-1), 1) := by decide +kernel
theorem dX1_saidAmong_60 : decode cX1_saidAmong 60 = .ok (.istore_n 3, 1) := by decide +kernel
theorem dX1_saidAmong_61 : decode cX1_saidAmong 61 = .ok (.iinc 5 1, 3) := by decide +kernel
theorem dX1_saidAmong_64 : decode cX1_saidAmong 64 = .ok (.goto (-50), 3) := by decide +kernel
theorem dX1_saidAmong_67 : decode cX1_saidAmong 67 = .ok (.iload_n 3, 1) := by decide +kernel
theorem dX1_saidAmong_68 : decode cX1_saidAmong 68 = .ok (.ireturn, 1) := by decide +kernel
theorem dX1_countTellers_0 : decode cX1_countTellers 0 = .ok (.iconst 0, 1) := by decide +kernel
theorem dX1_countTellers_1 : decode cX1_countTellers 1 = .ok (.istore_n 3, 1) := by decide +kernel
theorem dX1_countTellers_2 : decode cX1_countTellers 2 = .ok (.iload_n 3, 1) := by decide +kernel
theorem dX1_countTellers_3 : decode cX1_countTellers 3 = .ok (.iconst 4, 1) := by decide +kernel
theorem dX1_countTellers_4 : decode cX1_countTellers 4 = .ok (.if_icmp .ge 16, 3) := by decide +kernel
theorem dX1_countTellers_7 : decode cX1_countTellers 7 = .ok (.aload_n 0, 1) := by decide +kernel
theorem dX1_countTellers_8 : decode cX1_countTellers 8 = .ok (.getfield 17, 3) := by decide +kernel
theorem dX1_countTellers_11 : decode cX1_countTellers 11 = .ok (.iload_n 3, 1) := by decide +kernel
theorem dX1_countTellers_12 : decode cX1_countTellers 12 = .ok (.iconst 0, 1) := by decide +kernel
theorem dX1_countTellers_13 : decode cX1_countTellers 13 = .ok (.iastore, 1) := by decide +kernel
theorem dX1_countTellers_14 : decode cX1_countTellers 14 = .ok (.iinc 3 1, 3) := by decide +kernel
theorem dX1_countTellers_17 : decode cX1_countTellers 17 = .ok (.goto (-15), 3) := by decide +kernel
theorem dX1_countTellers_20 : decode cX1_countTellers 20 = .ok (.iconst 0, 1) := by decide +kernel
theorem dX1_countTellers_21 : decode cX1_countTellers 21 = .ok (.istore_n 3, 1) := by decide +kernel
theorem dX1_countTellers_22 : decode cX1_countTellers 22 = .ok (.iload_n 3, 1) := by decide +kernel
theorem dX1_countTellers_23 : decode cX1_countTellers 23 = .ok (.aload_n 0, 1) := by decide +kernel
theorem dX1_countTellers_24 : decode cX1_countTellers 24 = .ok (.getfield 22, 3) := by decide +kernel
theorem dX1_countTellers_27 : decode cX1_countTellers 27 = .ok (.if_icmp .ge 52, 3) := by decide +kernel
theorem dX1_countTellers_30 : decode cX1_countTellers 30 = .ok (.aload_n 0, 1) := by decide +kernel
theorem dX1_countTellers_31 : decode cX1_countTellers 31 = .ok (.getfield 11, 3) := by decide +kernel
theorem dX1_countTellers_34 : decode cX1_countTellers 34 = .ok (.iload_n 3, 1) := by decide +kernel
theorem dX1_countTellers_35 : decode cX1_countTellers 35 = .ok (.aaload, 1) := by decide +kernel
theorem dX1_countTellers_36 : decode cX1_countTellers 36 = .ok (.iload_n 2, 1) := by decide +kernel
theorem dX1_countTellers_37 : decode cX1_countTellers 37 = .ok (.invokevirtual 46, 3) := by decide +kernel
theorem dX1_countTellers_40 : decode cX1_countTellers 40 = .ok (.istore 4, 2) := by decide +kernel
theorem dX1_countTellers_42 : decode cX1_countTellers 42 = .ok (.iload_n 1, 1) := by decide +kernel
theorem dX1_countTellers_43 : decode cX1_countTellers 43 = .ok (.iload_n 3, 1) := by decide +kernel
theorem dX1_countTellers_44 : decode cX1_countTellers 44 = .ok (.ishr, 1) := by decide +kernel
theorem dX1_countTellers_45 : decode cX1_countTellers 45 = .ok (.iconst 1, 1) := by decide +kernel
theorem dX1_countTellers_46 : decode cX1_countTellers 46 = .ok (.iand, 1) := by decide +kernel
theorem dX1_countTellers_47 : decode cX1_countTellers 47 = .ok (.iconst 1, 1) := by decide +kernel
theorem dX1_countTellers_48 : decode cX1_countTellers 48 = .ok (.if_icmp .ne 25, 3) := by decide +kernel
theorem dX1_countTellers_51 : decode cX1_countTellers 51 = .ok (.iload 4, 2) := by decide +kernel
theorem dX1_countTellers_53 : decode cX1_countTellers 53 = .ok (.ifCond .lt 20, 3) := by decide +kernel
theorem dX1_countTellers_56 : decode cX1_countTellers 56 = .ok (.iload 4, 2) := by decide +kernel
theorem dX1_countTellers_58 : decode cX1_countTellers 58 = .ok (.iconst 4, 1) := by decide +kernel
theorem dX1_countTellers_59 : decode cX1_countTellers 59 = .ok (.if_icmp .ge 14, 3) := by decide +kernel
theorem dX1_countTellers_62 : decode cX1_countTellers 62 = .ok (.aload_n 0, 1) := by decide +kernel
theorem dX1_countTellers_63 : decode cX1_countTellers 63 = .ok (.getfield 17, 3) := by decide +kernel
theorem dX1_countTellers_66 : decode cX1_countTellers 66 = .ok (.iload 4, 2) := by decide +kernel
theorem dX1_countTellers_68 : decode cX1_countTellers 68 = .ok (.dup2, 1) := by decide +kernel
theorem dX1_countTellers_69 : decode cX1_countTellers 69 = .ok (.iaload, 1) := by decide +kernel
theorem dX1_countTellers_70 : decode cX1_countTellers 70 = .ok (.iconst 1, 1) := by decide +kernel
theorem dX1_countTellers_71 : decode cX1_countTellers 71 = .ok (.iadd, 1) := by decide +kernel
theorem dX1_countTellers_72 : decode cX1_countTellers 72 = .ok (.iastore, 1) := by decide +kernel
theorem dX1_countTellers_73 : decode cX1_countTellers 73 = .ok (.iinc 3 1, 3) := by decide +kernel
theorem dX1_countTellers_76 : decode cX1_countTellers 76 = .ok (.goto (-54), 3) := by decide +kernel
theorem dX1_countTellers_79 : decode cX1_countTellers 79 = .ok (.return_, 1) := by decide +kernel
theorem dX1_clashesBetween_0 : decode cX1_clashesBetween 0 = .ok (.iconst 0, 1) := by decide +kernel
theorem dX1_clashesBetween_1 : decode cX1_clashesBetween 1 = .ok (.istore_n 3, 1) := by decide +kernel
theorem dX1_clashesBetween_2 : decode cX1_clashesBetween 2 = .ok (.iconst 0, 1) := by decide +kernel
theorem dX1_clashesBetween_3 : decode cX1_clashesBetween 3 = .ok (.istore 4, 2) := by decide +kernel
theorem dX1_clashesBetween_5 : decode cX1_clashesBetween 5 = .ok (.iload 4, 2) := by decide +kernel
theorem dX1_clashesBetween_7 : decode cX1_clashesBetween 7 = .ok (.bipush 6, 2) := by decide +kernel
theorem dX1_clashesBetween_9 : decode cX1_clashesBetween 9 = .ok (.if_icmp .ge 57, 3) := by decide +kernel
theorem dX1_clashesBetween_12 : decode cX1_clashesBetween 12 = .ok (.aload_n 0, 1) := by decide +kernel
theorem dX1_clashesBetween_13 : decode cX1_clashesBetween 13 = .ok (.getfield 11, 3) := by decide +kernel
theorem dX1_clashesBetween_16 : decode cX1_clashesBetween 16 = .ok (.iload_n 1, 1) := by decide +kernel
theorem dX1_clashesBetween_17 : decode cX1_clashesBetween 17 = .ok (.aaload, 1) := by decide +kernel
theorem dX1_clashesBetween_18 : decode cX1_clashesBetween 18 = .ok (.iload 4, 2) := by decide +kernel
theorem dX1_clashesBetween_20 : decode cX1_clashesBetween 20 = .ok (.invokevirtual 46, 3) := by decide +kernel
theorem dX1_clashesBetween_23 : decode cX1_clashesBetween 23 = .ok (.istore 5, 2) := by decide +kernel
theorem dX1_clashesBetween_25 : decode cX1_clashesBetween 25 = .ok (.aload_n 0, 1) := by decide +kernel
theorem dX1_clashesBetween_26 : decode cX1_clashesBetween 26 = .ok (.getfield 11, 3) := by decide +kernel
theorem dX1_clashesBetween_29 : decode cX1_clashesBetween 29 = .ok (.iload_n 2, 1) := by decide +kernel
theorem dX1_clashesBetween_30 : decode cX1_clashesBetween 30 = .ok (.aaload, 1) := by decide +kernel
theorem dX1_clashesBetween_31 : decode cX1_clashesBetween 31 = .ok (.iload 4, 2) := by decide +kernel
theorem dX1_clashesBetween_33 : decode cX1_clashesBetween 33 = .ok (.invokevirtual 46, 3) := by decide +kernel
theorem dX1_clashesBetween_36 : decode cX1_clashesBetween 36 = .ok (.istore 6, 2) := by decide +kernel
theorem dX1_clashesBetween_38 : decode cX1_clashesBetween 38 = .ok (.iload 5, 2) := by decide +kernel
theorem dX1_clashesBetween_40 : decode cX1_clashesBetween 40 = .ok (.iconst (-1), 1) := by decide +kernel
theorem dX1_clashesBetween_41 : decode cX1_clashesBetween 41 = .ok (.if_icmp .eq 19, 3) := by decide +kernel
theorem dX1_clashesBetween_44 : decode cX1_clashesBetween 44 = .ok (.iload 6, 2) := by decide +kernel
theorem dX1_clashesBetween_46 : decode cX1_clashesBetween 46 = .ok (.iconst (-1), 1) := by decide +kernel
theorem dX1_clashesBetween_47 : decode cX1_clashesBetween 47 = .ok (.if_icmp .eq 13, 3) := by decide +kernel
theorem dX1_clashesBetween_50 : decode cX1_clashesBetween 50 = .ok (.iload 5, 2) := by decide +kernel
theorem dX1_clashesBetween_52 : decode cX1_clashesBetween 52 = .ok (.iload 6, 2) := by decide +kernel
theorem dX1_clashesBetween_54 : decode cX1_clashesBetween 54 = .ok (.if_icmp .eq 6, 3) := by decide +kernel
theorem dX1_clashesBetween_57 : decode cX1_clashesBetween 57 = .ok (.iinc 3 1, 3) := by decide +kernel
theorem dX1_clashesBetween_60 : decode cX1_clashesBetween 60 = .ok (.iinc 4 1, 3) := by decide +kernel
theorem dX1_clashesBetween_63 : decode cX1_clashesBetween 63 = .ok (.goto (-58), 3) := by decide +kernel
theorem dX1_clashesBetween_66 : decode cX1_clashesBetween 66 = .ok (.iload_n 3, 1) := by decide +kernel
theorem dX1_clashesBetween_67 : decode cX1_clashesBetween 67 = .ok (.ireturn, 1) := by decide +kernel
theorem dX1_clashesOf_0 : decode cX1_clashesOf 0 = .ok (.iconst 0, 1) := by decide +kernel
theorem dX1_clashesOf_1 : decode cX1_clashesOf 1 = .ok (.istore_n 2, 1) := by decide +kernel
theorem dX1_clashesOf_2 : decode cX1_clashesOf 2 = .ok (.iconst 0, 1) := by decide +kernel
theorem dX1_clashesOf_3 : decode cX1_clashesOf 3 = .ok (.istore_n 3, 1) := by decide +kernel
theorem dX1_clashesOf_4 : decode cX1_clashesOf 4 = .ok (.iload_n 3, 1) := by decide +kernel
theorem dX1_clashesOf_5 : decode cX1_clashesOf 5 = .ok (.aload_n 0, 1) := by decide +kernel
theorem dX1_clashesOf_6 : decode cX1_clashesOf 6 = .ok (.getfield 22, 3) := by decide +kernel
theorem dX1_clashesOf_9 : decode cX1_clashesOf 9 = .ok (.if_icmp .ge 18, 3) := by decide +kernel
theorem dX1_clashesOf_12 : decode cX1_clashesOf 12 = .ok (.iload_n 2, 1) := by decide +kernel
theorem dX1_clashesOf_13 : decode cX1_clashesOf 13 = .ok (.aload_n 0, 1) := by decide +kernel
theorem dX1_clashesOf_14 : decode cX1_clashesOf 14 = .ok (.iload_n 1, 1) := by decide +kernel
theorem dX1_clashesOf_15 : decode cX1_clashesOf 15 = .ok (.iload_n 3, 1) := by decide +kernel
theorem dX1_clashesOf_16 : decode cX1_clashesOf 16 = .ok (.invokevirtual 49, 3) := by decide +kernel
theorem dX1_clashesOf_19 : decode cX1_clashesOf 19 = .ok (.iadd, 1) := by decide +kernel
theorem dX1_clashesOf_20 : decode cX1_clashesOf 20 = .ok (.istore_n 2, 1) := by decide +kernel
theorem dX1_clashesOf_21 : decode cX1_clashesOf 21 = .ok (.iinc 3 1, 3) := by decide +kernel
theorem dX1_clashesOf_24 : decode cX1_clashesOf 24 = .ok (.goto (-20), 3) := by decide +kernel
theorem dX1_clashesOf_27 : decode cX1_clashesOf 27 = .ok (.iload_n 2, 1) := by decide +kernel
theorem dX1_clashesOf_28 : decode cX1_clashesOf 28 = .ok (.ireturn, 1) := by decide +kernel
theorem dX1_clashesAmong_0 : decode cX1_clashesAmong 0 = .ok (.iconst 0, 1) := by decide +kernel
theorem dX1_clashesAmong_1 : decode cX1_clashesAmong 1 = .ok (.istore_n 2, 1) := by decide +kernel
theorem dX1_clashesAmong_2 : decode cX1_clashesAmong 2 = .ok (.iconst 1, 1) := by decide +kernel
theorem dX1_clashesAmong_3 : decode cX1_clashesAmong 3 = .ok (.istore_n 3, 1) := by decide +kernel
theorem dX1_clashesAmong_4 : decode cX1_clashesAmong 4 = .ok (.iload_n 3, 1) := by decide +kernel
theorem dX1_clashesAmong_5 : decode cX1_clashesAmong 5 = .ok (.aload_n 0, 1) := by decide +kernel
theorem dX1_clashesAmong_6 : decode cX1_clashesAmong 6 = .ok (.getfield 22, 3) := by decide +kernel
theorem dX1_clashesAmong_9 : decode cX1_clashesAmong 9 = .ok (.if_icmp .ge 53, 3) := by decide +kernel
theorem dX1_clashesAmong_12 : decode cX1_clashesAmong 12 = .ok (.iconst 0, 1) := by decide +kernel
theorem dX1_clashesAmong_13 : decode cX1_clashesAmong 13 = .ok (.istore 4, 2) := by decide +kernel
theorem dX1_clashesAmong_15 : decode cX1_clashesAmong 15 = .ok (.iload 4, 2) := by decide +kernel
theorem dX1_clashesAmong_17 : decode cX1_clashesAmong 17 = .ok (.iload_n 3, 1) := by decide +kernel
theorem dX1_clashesAmong_18 : decode cX1_clashesAmong 18 = .ok (.if_icmp .ge 38, 3) := by decide +kernel
theorem dX1_clashesAmong_21 : decode cX1_clashesAmong 21 = .ok (.iload_n 1, 1) := by decide +kernel
theorem dX1_clashesAmong_22 : decode cX1_clashesAmong 22 = .ok (.iload 4, 2) := by decide +kernel
theorem dX1_clashesAmong_24 : decode cX1_clashesAmong 24 = .ok (.ishr, 1) := by decide +kernel
theorem dX1_clashesAmong_25 : decode cX1_clashesAmong 25 = .ok (.iconst 1, 1) := by decide +kernel
theorem dX1_clashesAmong_26 : decode cX1_clashesAmong 26 = .ok (.iand, 1) := by decide +kernel
theorem dX1_clashesAmong_27 : decode cX1_clashesAmong 27 = .ok (.iconst 1, 1) := by decide +kernel
theorem dX1_clashesAmong_28 : decode cX1_clashesAmong 28 = .ok (.if_icmp .ne 22, 3) := by decide +kernel
theorem dX1_clashesAmong_31 : decode cX1_clashesAmong 31 = .ok (.iload_n 1, 1) := by decide +kernel
theorem dX1_clashesAmong_32 : decode cX1_clashesAmong 32 = .ok (.iload_n 3, 1) := by decide +kernel
theorem dX1_clashesAmong_33 : decode cX1_clashesAmong 33 = .ok (.ishr, 1) := by decide +kernel
theorem dX1_clashesAmong_34 : decode cX1_clashesAmong 34 = .ok (.iconst 1, 1) := by decide +kernel
theorem dX1_clashesAmong_35 : decode cX1_clashesAmong 35 = .ok (.iand, 1) := by decide +kernel
theorem dX1_clashesAmong_36 : decode cX1_clashesAmong 36 = .ok (.iconst 1, 1) := by decide +kernel
theorem dX1_clashesAmong_37 : decode cX1_clashesAmong 37 = .ok (.if_icmp .ne 13, 3) := by decide +kernel
theorem dX1_clashesAmong_40 : decode cX1_clashesAmong 40 = .ok (.iload_n 2, 1) := by decide +kernel
theorem dX1_clashesAmong_41 : decode cX1_clashesAmong 41 = .ok (.aload_n 0, 1) := by decide +kernel
theorem dX1_clashesAmong_42 : decode cX1_clashesAmong 42 = .ok (.iload 4, 2) := by decide +kernel
theorem dX1_clashesAmong_44 : decode cX1_clashesAmong 44 = .ok (.iload_n 3, 1) := by decide +kernel
theorem dX1_clashesAmong_45 : decode cX1_clashesAmong 45 = .ok (.invokevirtual 49, 3) := by decide +kernel
theorem dX1_clashesAmong_48 : decode cX1_clashesAmong 48 = .ok (.iadd, 1) := by decide +kernel
theorem dX1_clashesAmong_49 : decode cX1_clashesAmong 49 = .ok (.istore_n 2, 1) := by decide +kernel
theorem dX1_clashesAmong_50 : decode cX1_clashesAmong 50 = .ok (.iinc 4 1, 3) := by decide +kernel
theorem dX1_clashesAmong_53 : decode cX1_clashesAmong 53 = .ok (.goto (-38), 3) := by decide +kernel
theorem dX1_clashesAmong_56 : decode cX1_clashesAmong 56 = .ok (.iinc 3 1, 3) := by decide +kernel
theorem dX1_clashesAmong_59 : decode cX1_clashesAmong 59 = .ok (.goto (-55), 3) := by decide +kernel
theorem dX1_clashesAmong_62 : decode cX1_clashesAmong 62 = .ok (.iload_n 2, 1) := by decide +kernel
theorem dX1_clashesAmong_63 : decode cX1_clashesAmong 63 = .ok (.ireturn, 1) := by decide +kernel
theorem dX1_fewestToKeep_0 : decode cX1_fewestToKeep 0 = .ok (.aload_n 0, 1) := by decide +kernel
theorem dX1_fewestToKeep_1 : decode cX1_fewestToKeep 1 = .ok (.invokevirtual 53, 3) := by decide +kernel
theorem dX1_fewestToKeep_4 : decode cX1_fewestToKeep 4 = .ok (.istore_n 1, 1) := by decide +kernel
theorem dX1_fewestToKeep_5 : decode cX1_fewestToKeep 5 = .ok (.aload_n 0, 1) := by decide +kernel
theorem dX1_fewestToKeep_6 : decode cX1_fewestToKeep 6 = .ok (.getfield 22, 3) := by decide +kernel
theorem dX1_fewestToKeep_9 : decode cX1_fewestToKeep 9 = .ok (.istore_n 2, 1) := by decide +kernel
theorem dX1_fewestToKeep_10 : decode cX1_fewestToKeep 10 = .ok (.iconst 0, 1) := by decide +kernel
theorem dX1_fewestToKeep_11 : decode cX1_fewestToKeep 11 = .ok (.istore_n 3, 1) := by decide +kernel
theorem dX1_fewestToKeep_12 : decode cX1_fewestToKeep 12 = .ok (.iload_n 3, 1) := by decide +kernel
theorem dX1_fewestToKeep_13 : decode cX1_fewestToKeep 13 = .ok (.aload_n 0, 1) := by decide +kernel
theorem dX1_fewestToKeep_14 : decode cX1_fewestToKeep 14 = .ok (.invokevirtual 53, 3) := by decide +kernel
theorem dX1_fewestToKeep_17 : decode cX1_fewestToKeep 17 = .ok (.if_icmp .ge 32, 3) := by decide +kernel
theorem dX1_fewestToKeep_20 : decode cX1_fewestToKeep 20 = .ok (.iload_n 3, 1) := by decide +kernel
theorem dX1_fewestToKeep_21 : decode cX1_fewestToKeep 21 = .ok (.invokestatic 57, 3) := by decide +kernel
theorem dX1_fewestToKeep_24 : decode cX1_fewestToKeep 24 = .ok (.iload_n 2, 1) := by decide +kernel
theorem dX1_fewestToKeep_25 : decode cX1_fewestToKeep 25 = .ok (.if_icmp .ge 18, 3) := by decide +kernel
theorem dX1_fewestToKeep_28 : decode cX1_fewestToKeep 28 = .ok (.aload_n 0, 1) := by decide +kernel
theorem dX1_fewestToKeep_29 : decode cX1_fewestToKeep 29 = .ok (.iload_n 3, 1) := by decide +kernel
theorem dX1_fewestToKeep_30 : decode cX1_fewestToKeep 30 = .ok (.invokevirtual 62, 3) := by decide +kernel
theorem dX1_fewestToKeep_33 : decode cX1_fewestToKeep 33 = .ok (.ifCond .eq 10, 3) := by decide +kernel
theorem dX1_fewestToKeep_36 : decode cX1_fewestToKeep 36 = .ok (.iload_n 3, 1) := by decide +kernel
theorem dX1_fewestToKeep_37 : decode cX1_fewestToKeep 37 = .ok (.istore_n 1, 1) := by decide +kernel
theorem dX1_fewestToKeep_38 : decode cX1_fewestToKeep 38 = .ok (.iload_n 3, 1) := by decide +kernel
theorem dX1_fewestToKeep_39 : decode cX1_fewestToKeep 39 = .ok (.invokestatic 57, 3) := by decide +kernel
theorem dX1_fewestToKeep_42 : decode cX1_fewestToKeep 42 = .ok (.istore_n 2, 1) := by decide +kernel
theorem dX1_fewestToKeep_43 : decode cX1_fewestToKeep 43 = .ok (.iinc 3 1, 3) := by decide +kernel
theorem dX1_fewestToKeep_46 : decode cX1_fewestToKeep 46 = .ok (.goto (-34), 3) := by decide +kernel
theorem dX1_fewestToKeep_49 : decode cX1_fewestToKeep 49 = .ok (.iload_n 1, 1) := by decide +kernel
theorem dX1_fewestToKeep_50 : decode cX1_fewestToKeep 50 = .ok (.ireturn, 1) := by decide +kernel
theorem dX1_saysTheSame_0 : decode cX1_saysTheSame 0 = .ok (.iconst 0, 1) := by decide +kernel
theorem dX1_saysTheSame_1 : decode cX1_saysTheSame 1 = .ok (.istore_n 2, 1) := by decide +kernel
theorem dX1_saysTheSame_2 : decode cX1_saysTheSame 2 = .ok (.iload_n 2, 1) := by decide +kernel
theorem dX1_saysTheSame_3 : decode cX1_saysTheSame 3 = .ok (.bipush 6, 2) := by decide +kernel
theorem dX1_saysTheSame_5 : decode cX1_saysTheSame 5 = .ok (.if_icmp .ge 29, 3) := by decide +kernel
theorem dX1_saysTheSame_8 : decode cX1_saysTheSame 8 = .ok (.aload_n 0, 1) := by decide +kernel
theorem dX1_saysTheSame_9 : decode cX1_saysTheSame 9 = .ok (.iload_n 1, 1) := by decide +kernel
theorem dX1_saysTheSame_10 : decode cX1_saysTheSame 10 = .ok (.iload_n 2, 1) := by decide +kernel
theorem dX1_saysTheSame_11 : decode cX1_saysTheSame 11 = .ok (.invokevirtual 65, 3) := by decide +kernel
theorem dX1_saysTheSame_14 : decode cX1_saysTheSame 14 = .ok (.aload_n 0, 1) := by decide +kernel
theorem dX1_saysTheSame_15 : decode cX1_saysTheSame 15 = .ok (.aload_n 0, 1) := by decide +kernel
theorem dX1_saysTheSame_16 : decode cX1_saysTheSame 16 = .ok (.invokevirtual 53, 3) := by decide +kernel
theorem dX1_saysTheSame_19 : decode cX1_saysTheSame 19 = .ok (.iload_n 2, 1) := by decide +kernel
theorem dX1_saysTheSame_20 : decode cX1_saysTheSame 20 = .ok (.invokevirtual 65, 3) := by decide +kernel
theorem dX1_saysTheSame_23 : decode cX1_saysTheSame 23 = .ok (.if_icmp .eq 5, 3) := by decide +kernel
theorem dX1_saysTheSame_26 : decode cX1_saysTheSame 26 = .ok (.iconst 0, 1) := by decide +kernel
theorem dX1_saysTheSame_27 : decode cX1_saysTheSame 27 = .ok (.ireturn, 1) := by decide +kernel
theorem dX1_saysTheSame_28 : decode cX1_saysTheSame 28 = .ok (.iinc 2 1, 3) := by decide +kernel
theorem dX1_saysTheSame_31 : decode cX1_saysTheSame 31 = .ok (.goto (-29), 3) := by decide +kernel
theorem dX1_saysTheSame_34 : decode cX1_saysTheSame 34 = .ok (.iconst 1, 1) := by decide +kernel
theorem dX1_saysTheSame_35 : decode cX1_saysTheSame 35 = .ok (.ireturn, 1) := by decide +kernel
theorem dX1_fewestToSendAway_0 : decode cX1_fewestToSendAway 0 = .ok (.aload_n 0, 1) := by decide +kernel
theorem dX1_fewestToSendAway_1 : decode cX1_fewestToSendAway 1 = .ok (.invokevirtual 53, 3) := by decide +kernel
theorem dX1_fewestToSendAway_4 : decode cX1_fewestToSendAway 4 = .ok (.istore_n 1, 1) := by decide +kernel
theorem dX1_fewestToSendAway_5 : decode cX1_fewestToSendAway 5 = .ok (.aload_n 0, 1) := by decide +kernel
theorem dX1_fewestToSendAway_6 : decode cX1_fewestToSendAway 6 = .ok (.getfield 22, 3) := by decide +kernel
theorem dX1_fewestToSendAway_9 : decode cX1_fewestToSendAway 9 = .ok (.istore_n 2, 1) := by decide +kernel
theorem dX1_fewestToSendAway_10 : decode cX1_fewestToSendAway 10 = .ok (.iconst 0, 1) := by decide +kernel
theorem dX1_fewestToSendAway_11 : decode cX1_fewestToSendAway 11 = .ok (.istore_n 3, 1) := by decide +kernel
theorem dX1_fewestToSendAway_12 : decode cX1_fewestToSendAway 12 = .ok (.iload_n 3, 1) := by decide +kernel
theorem dX1_fewestToSendAway_13 : decode cX1_fewestToSendAway 13 = .ok (.aload_n 0, 1) := by decide +kernel
theorem dX1_fewestToSendAway_14 : decode cX1_fewestToSendAway 14 = .ok (.invokevirtual 53, 3) := by decide +kernel
theorem dX1_fewestToSendAway_17 : decode cX1_fewestToSendAway 17 = .ok (.if_icmp .ge 39, 3) := by decide +kernel
theorem dX1_fewestToSendAway_20 : decode cX1_fewestToSendAway 20 = .ok (.iload_n 3, 1) := by decide +kernel
theorem dX1_fewestToSendAway_21 : decode cX1_fewestToSendAway 21 = .ok (.invokestatic 57, 3) := by decide +kernel
theorem dX1_fewestToSendAway_24 : decode cX1_fewestToSendAway 24 = .ok (.iload_n 2, 1) := by decide +kernel
theorem dX1_fewestToSendAway_25 : decode cX1_fewestToSendAway 25 = .ok (.if_icmp .ge 25, 3) := by decide +kernel
theorem dX1_fewestToSendAway_28 : decode cX1_fewestToSendAway 28 = .ok (.aload_n 0, 1) := by decide +kernel
theorem dX1_fewestToSendAway_29 : decode cX1_fewestToSendAway 29 = .ok (.aload_n 0, 1) := by decide +kernel
theorem dX1_fewestToSendAway_30 : decode cX1_fewestToSendAway 30 = .ok (.invokevirtual 53, 3) := by decide +kernel
theorem dX1_fewestToSendAway_33 : decode cX1_fewestToSendAway 33 = .ok (.iload_n 3, 1) := by decide +kernel
theorem dX1_fewestToSendAway_34 : decode cX1_fewestToSendAway 34 = .ok (.iconst (-1), 1) := by decide +kernel
theorem dX1_fewestToSendAway_35 : decode cX1_fewestToSendAway 35 = .ok (.ixor, 1) := by decide +kernel
theorem dX1_fewestToSendAway_36 : decode cX1_fewestToSendAway 36 = .ok (.iand, 1) := by decide +kernel
theorem dX1_fewestToSendAway_37 : decode cX1_fewestToSendAway 37 = .ok (.invokevirtual 68, 3) := by decide +kernel
theorem dX1_fewestToSendAway_40 : decode cX1_fewestToSendAway 40 = .ok (.ifCond .ne 10, 3) := by decide +kernel
theorem dX1_fewestToSendAway_43 : decode cX1_fewestToSendAway 43 = .ok (.iload_n 3, 1) := by decide +kernel
theorem dX1_fewestToSendAway_44 : decode cX1_fewestToSendAway 44 = .ok (.istore_n 1, 1) := by decide +kernel
theorem dX1_fewestToSendAway_45 : decode cX1_fewestToSendAway 45 = .ok (.iload_n 3, 1) := by decide +kernel
theorem dX1_fewestToSendAway_46 : decode cX1_fewestToSendAway 46 = .ok (.invokestatic 57, 3) := by decide +kernel
theorem dX1_fewestToSendAway_49 : decode cX1_fewestToSendAway 49 = .ok (.istore_n 2, 1) := by decide +kernel
theorem dX1_fewestToSendAway_50 : decode cX1_fewestToSendAway 50 = .ok (.iinc 3 1, 3) := by decide +kernel
theorem dX1_fewestToSendAway_53 : decode cX1_fewestToSendAway 53 = .ok (.goto (-41), 3) := by decide +kernel
theorem dX1_fewestToSendAway_56 : decode cX1_fewestToSendAway 56 = .ok (.iload_n 1, 1) := by decide +kernel
theorem dX1_fewestToSendAway_57 : decode cX1_fewestToSendAway 57 = .ok (.ireturn, 1) := by decide +kernel
theorem dX1_wrongBy_0 : decode cX1_wrongBy 0 = .ok (.iconst 0, 1) := by decide +kernel
theorem dX1_wrongBy_1 : decode cX1_wrongBy 1 = .ok (.istore_n 3, 1) := by decide +kernel
theorem dX1_wrongBy_2 : decode cX1_wrongBy 2 = .ok (.iconst 0, 1) := by decide +kernel
theorem dX1_wrongBy_3 : decode cX1_wrongBy 3 = .ok (.istore 4, 2) := by decide +kernel
theorem dX1_wrongBy_5 : decode cX1_wrongBy 5 = .ok (.iload 4, 2) := by decide +kernel
theorem dX1_wrongBy_7 : decode cX1_wrongBy 7 = .ok (.aload_n 0, 1) := by decide +kernel
theorem dX1_wrongBy_8 : decode cX1_wrongBy 8 = .ok (.getfield 22, 3) := by decide +kernel
theorem dX1_wrongBy_11 : decode cX1_wrongBy 11 = .ok (.if_icmp .ge 31, 3) := by decide +kernel
theorem dX1_wrongBy_14 : decode cX1_wrongBy 14 = .ok (.aload_n 0, 1) := by decide +kernel
theorem dX1_wrongBy_15 : decode cX1_wrongBy 15 = .ok (.getfield 11, 3) := by decide +kernel
theorem dX1_wrongBy_18 : decode cX1_wrongBy 18 = .ok (.iload 4, 2) := by decide +kernel
theorem dX1_wrongBy_20 : decode cX1_wrongBy 20 = .ok (.aaload, 1) := by decide +kernel
theorem dX1_wrongBy_21 : decode cX1_wrongBy 21 = .ok (.iload_n 1, 1) := by decide +kernel
theorem dX1_wrongBy_22 : decode cX1_wrongBy 22 = .ok (.iload_n 2, 1) := by decide +kernel
theorem dX1_wrongBy_23 : decode cX1_wrongBy 23 = .ok (.invokevirtual 71, 3) := by decide +kernel
theorem dX1_wrongBy_26 : decode cX1_wrongBy 26 = .ok (.ifCond .eq 10, 3) := by decide +kernel
theorem dX1_wrongBy_29 : decode cX1_wrongBy 29 = .ok (.iload_n 3, 1) := by decide +kernel
theorem dX1_wrongBy_30 : decode cX1_wrongBy 30 = .ok (.iconst 1, 1) := by decide +kernel
theorem dX1_wrongBy_31 : decode cX1_wrongBy 31 = .ok (.iload 4, 2) := by decide +kernel
theorem dX1_wrongBy_33 : decode cX1_wrongBy 33 = .ok (.ishl, 1) := by decide +kernel
theorem dX1_wrongBy_34 : decode cX1_wrongBy 34 = .ok (.ior, 1) := by decide +kernel
theorem dX1_wrongBy_35 : decode cX1_wrongBy 35 = .ok (.istore_n 3, 1) := by decide +kernel
theorem dX1_wrongBy_36 : decode cX1_wrongBy 36 = .ok (.iinc 4 1, 3) := by decide +kernel
theorem dX1_wrongBy_39 : decode cX1_wrongBy 39 = .ok (.goto (-34), 3) := by decide +kernel
theorem dX1_wrongBy_42 : decode cX1_wrongBy 42 = .ok (.iload_n 3, 1) := by decide +kernel
theorem dX1_wrongBy_43 : decode cX1_wrongBy 43 = .ok (.ireturn, 1) := by decide +kernel
theorem dX2_init_0 : decode cX2_init 0 = .ok (.aload_n 0, 1) := by decide +kernel
theorem dX2_init_1 : decode cX2_init 1 = .ok (.invokespecial 3, 3) := by decide +kernel
theorem dX2_init_4 : decode cX2_init 4 = .ok (.aload_n 0, 1) := by decide +kernel
theorem dX2_init_5 : decode cX2_init 5 = .ok (.bipush 54, 2) := by decide +kernel
theorem dX2_init_7 : decode cX2_init 7 = .ok (.newarray .int, 2) := by decide +kernel
theorem dX2_init_9 : decode cX2_init 9 = .ok (.putfield 9, 3) := by decide +kernel
theorem dX2_init_12 : decode cX2_init 12 = .ok (.aload_n 0, 1) := by decide +kernel
theorem dX2_init_13 : decode cX2_init 13 = .ok (.new 15, 3) := by decide +kernel
theorem dX2_init_16 : decode cX2_init 16 = .ok (.dup, 1) := by decide +kernel
theorem dX2_init_17 : decode cX2_init 17 = .ok (.invokespecial 17, 3) := by decide +kernel
theorem dX2_init_20 : decode cX2_init 20 = .ok (.putfield 18, 3) := by decide +kernel
theorem dX2_init_23 : decode cX2_init 23 = .ok (.aload_n 0, 1) := by decide +kernel
theorem dX2_init_24 : decode cX2_init 24 = .ok (.new 22, 3) := by decide +kernel
theorem dX2_init_27 : decode cX2_init 27 = .ok (.dup, 1) := by decide +kernel
theorem dX2_init_28 : decode cX2_init 28 = .ok (.invokespecial 24, 3) := by decide +kernel
theorem dX2_init_31 : decode cX2_init 31 = .ok (.putfield 25, 3) := by decide +kernel
theorem dX2_init_34 : decode cX2_init 34 = .ok (.return_, 1) := by decide +kernel
theorem dX2_write_0 : decode cX2_write 0 = .ok (.aload_n 0, 1) := by decide +kernel
theorem dX2_write_1 : decode cX2_write 1 = .ok (.getfield 29, 3) := by decide +kernel
theorem dX2_write_4 : decode cX2_write 4 = .ok (.bipush 54, 2) := by decide +kernel
theorem dX2_write_6 : decode cX2_write 6 = .ok (.if_icmp .ge 23, 3) := by decide +kernel
theorem dX2_write_9 : decode cX2_write 9 = .ok (.aload_n 0, 1) := by decide +kernel
theorem dX2_write_10 : decode cX2_write 10 = .ok (.getfield 9, 3) := by decide +kernel
theorem dX2_write_13 : decode cX2_write 13 = .ok (.aload_n 0, 1) := by decide +kernel
theorem dX2_write_14 : decode cX2_write 14 = .ok (.getfield 29, 3) := by decide +kernel
theorem dX2_write_17 : decode cX2_write 17 = .ok (.iload_n 1, 1) := by decide +kernel
theorem dX2_write_18 : decode cX2_write 18 = .ok (.iastore, 1) := by decide +kernel
theorem dX2_write_19 : decode cX2_write 19 = .ok (.aload_n 0, 1) := by decide +kernel
theorem dX2_write_20 : decode cX2_write 20 = .ok (.dup, 1) := by decide +kernel
theorem dX2_write_21 : decode cX2_write 21 = .ok (.getfield 29, 3) := by decide +kernel
theorem dX2_write_24 : decode cX2_write 24 = .ok (.iconst 1, 1) := by decide +kernel
theorem dX2_write_25 : decode cX2_write 25 = .ok (.iadd, 1) := by decide +kernel
theorem dX2_write_26 : decode cX2_write 26 = .ok (.putfield 29, 3) := by decide +kernel
theorem dX2_write_29 : decode cX2_write 29 = .ok (.return_, 1) := by decide +kernel
theorem dX2_read_0 : decode cX2_read 0 = .ok (.aload_n 0, 1) := by decide +kernel
theorem dX2_read_1 : decode cX2_read 1 = .ok (.getfield 18, 3) := by decide +kernel
theorem dX2_read_4 : decode cX2_read 4 = .ok (.iconst 0, 1) := by decide +kernel
theorem dX2_read_5 : decode cX2_read 5 = .ok (.putfield 33, 3) := by decide +kernel
theorem dX2_read_8 : decode cX2_read 8 = .ok (.aload_n 0, 1) := by decide +kernel
theorem dX2_read_9 : decode cX2_read 9 = .ok (.getfield 25, 3) := by decide +kernel
theorem dX2_read_12 : decode cX2_read 12 = .ok (.iconst 0, 1) := by decide +kernel
theorem dX2_read_13 : decode cX2_read 13 = .ok (.putfield 34, 3) := by decide +kernel
theorem dX2_read_16 : decode cX2_read 16 = .ok (.aload_n 0, 1) := by decide +kernel
theorem dX2_read_17 : decode cX2_read 17 = .ok (.iconst 0, 1) := by decide +kernel
theorem dX2_read_18 : decode cX2_read 18 = .ok (.putfield 35, 3) := by decide +kernel
theorem dX2_read_21 : decode cX2_read 21 = .ok (.iconst 0, 1) := by decide +kernel
theorem dX2_read_22 : decode cX2_read 22 = .ok (.istore_n 1, 1) := by decide +kernel
theorem dX2_read_23 : decode cX2_read 23 = .ok (.iload_n 1, 1) := by decide +kernel
theorem dX2_read_24 : decode cX2_read 24 = .ok (.aload_n 0, 1) := by decide +kernel
theorem dX2_read_25 : decode cX2_read 25 = .ok (.getfield 29, 3) := by decide +kernel
theorem dX2_read_28 : decode cX2_read 28 = .ok (.if_icmp .ge 24, 3) := by decide +kernel
theorem dX2_read_31 : decode cX2_read 31 = .ok (.aload_n 0, 1) := by decide +kernel
theorem dX2_read_32 : decode cX2_read 32 = .ok (.aload_n 0, 1) := by decide +kernel
theorem dX2_read_33 : decode cX2_read 33 = .ok (.getfield 9, 3) := by decide +kernel
theorem dX2_read_36 : decode cX2_read 36 = .ok (.iload_n 1, 1) := by decide +kernel
theorem dX2_read_37 : decode cX2_read 37 = .ok (.iaload, 1) := by decide +kernel
theorem dX2_read_38 : decode cX2_read 38 = .ok (.invokevirtual 38, 3) := by decide +kernel
theorem dX2_read_41 : decode cX2_read 41 = .ok (.ifCond .ne 5, 3) := by decide +kernel
theorem dX2_read_44 : decode cX2_read 44 = .ok (.iload_n 1, 1) := by decide +kernel
theorem dX2_read_45 : decode cX2_read 45 = .ok (.ireturn, 1) := by decide +kernel
theorem dX2_read_46 : decode cX2_read 46 = .ok (.iinc 1 1, 3) := by decide +kernel
theorem dX2_read_49 : decode cX2_read 49 = .ok (.goto (-26), 3) := by decide +kernel
theorem dX2_read_52 : decode cX2_read 52 = .ok (.aload_n 0, 1) := by decide +kernel
theorem dX2_read_53 : decode cX2_read 53 = .ok (.getfield 29, 3) := by decide +kernel
theorem dX2_read_56 : decode cX2_read 56 = .ok (.ireturn, 1) := by decide +kernel
theorem dX2_isWhole_0 : decode cX2_isWhole 0 = .ok (.aload_n 0, 1) := by decide +kernel
theorem dX2_isWhole_1 : decode cX2_isWhole 1 = .ok (.getfield 35, 3) := by decide +kernel
theorem dX2_isWhole_4 : decode cX2_isWhole 4 = .ok (.iconst 3, 1) := by decide +kernel
theorem dX2_isWhole_5 : decode cX2_isWhole 5 = .ok (.if_icmp .eq 12, 3) := by decide +kernel
theorem dX2_isWhole_8 : decode cX2_isWhole 8 = .ok (.aload_n 0, 1) := by decide +kernel
theorem dX2_isWhole_9 : decode cX2_isWhole 9 = .ok (.getfield 35, 3) := by decide +kernel
theorem dX2_isWhole_12 : decode cX2_isWhole 12 = .ok (.bipush 6, 2) := by decide +kernel
theorem dX2_isWhole_14 : decode cX2_isWhole 14 = .ok (.if_icmp .ne 7, 3) := by decide +kernel
theorem dX2_isWhole_17 : decode cX2_isWhole 17 = .ok (.iconst 1, 1) := by decide +kernel
theorem dX2_isWhole_18 : decode cX2_isWhole 18 = .ok (.goto 4, 3) := by decide +kernel
theorem dX2_isWhole_21 : decode cX2_isWhole 21 = .ok (.iconst 0, 1) := by decide +kernel
theorem dX2_isWhole_22 : decode cX2_isWhole 22 = .ok (.ireturn, 1) := by decide +kernel
theorem dX2_accepts_0 : decode cX2_accepts 0 = .ok (.aload_n 0, 1) := by decide +kernel
theorem dX2_accepts_1 : decode cX2_accepts 1 = .ok (.getfield 35, 3) := by decide +kernel
theorem dX2_accepts_4 : decode cX2_accepts 4 = .ok (.tableswitch 71 0 5 #[40, 46, 52, 58, 58, 65], 40) := by decide +kernel
theorem dX2_accepts_44 : decode cX2_accepts 44 = .ok (.aload_n 0, 1) := by decide +kernel
theorem dX2_accepts_45 : decode cX2_accepts 45 = .ok (.iload_n 1, 1) := by decide +kernel
theorem dX2_accepts_46 : decode cX2_accepts 46 = .ok (.invokevirtual 42, 3) := by decide +kernel
theorem dX2_accepts_49 : decode cX2_accepts 49 = .ok (.ireturn, 1) := by decide +kernel
theorem dX2_accepts_50 : decode cX2_accepts 50 = .ok (.aload_n 0, 1) := by decide +kernel
theorem dX2_accepts_51 : decode cX2_accepts 51 = .ok (.iload_n 1, 1) := by decide +kernel
theorem dX2_accepts_52 : decode cX2_accepts 52 = .ok (.invokevirtual 45, 3) := by decide +kernel
theorem dX2_accepts_55 : decode cX2_accepts 55 = .ok (.ireturn, 1) := by decide +kernel
theorem dX2_accepts_56 : decode cX2_accepts 56 = .ok (.aload_n 0, 1) := by decide +kernel
theorem dX2_accepts_57 : decode cX2_accepts 57 = .ok (.iload_n 1, 1) := by decide +kernel
theorem dX2_accepts_58 : decode cX2_accepts 58 = .ok (.invokevirtual 48, 3) := by decide +kernel
theorem dX2_accepts_61 : decode cX2_accepts 61 = .ok (.ireturn, 1) := by decide +kernel
theorem dX2_accepts_62 : decode cX2_accepts 62 = .ok (.aload_n 0, 1) := by decide +kernel
theorem dX2_accepts_63 : decode cX2_accepts 63 = .ok (.iload_n 1, 1) := by decide +kernel
theorem dX2_accepts_64 : decode cX2_accepts 64 = .ok (.iconst 5, 1) := by decide +kernel
theorem dX2_accepts_65 : decode cX2_accepts 65 = .ok (.invokevirtual 51, 3) := by decide +kernel
theorem dX2_accepts_68 : decode cX2_accepts 68 = .ok (.ireturn, 1) := by decide +kernel
theorem dX2_accepts_69 : decode cX2_accepts 69 = .ok (.aload_n 0, 1) := by decide +kernel
theorem dX2_accepts_70 : decode cX2_accepts 70 = .ok (.iload_n 1, 1) := by decide +kernel
theorem dX2_accepts_71 : decode cX2_accepts 71 = .ok (.invokevirtual 55, 3) := by decide +kernel
theorem dX2_accepts_74 : decode cX2_accepts 74 = .ok (.ireturn, 1) := by decide +kernel
theorem dX2_accepts_75 : decode cX2_accepts 75 = .ok (.aload_n 0, 1) := by decide +kernel
theorem dX2_accepts_76 : decode cX2_accepts 76 = .ok (.iload_n 1, 1) := by decide +kernel
theorem dX2_accepts_77 : decode cX2_accepts 77 = .ok (.invokevirtual 58, 3) := by decide +kernel
theorem dX2_accepts_80 : decode cX2_accepts 80 = .ok (.ireturn, 1) := by decide +kernel
theorem dX2_acceptsKind_0 : decode cX2_acceptsKind 0 = .ok (.iconst 0, 1) := by decide +kernel
theorem dX2_acceptsKind_1 : decode cX2_acceptsKind 1 = .ok (.istore_n 2, 1) := by decide +kernel
theorem dX2_acceptsKind_2 : decode cX2_acceptsKind 2 = .ok (.iload_n 2, 1) := by decide +kernel
theorem dX2_acceptsKind_3 : decode cX2_acceptsKind 3 = .ok (.iconst 5, 1) := by decide +kernel
theorem dX2_acceptsKind_4 : decode cX2_acceptsKind 4 = .ok (.if_icmp .ge 33, 3) := by decide +kernel
theorem dX2_acceptsKind_7 : decode cX2_acceptsKind 7 = .ok (.getstatic 61, 3) := by decide +kernel
theorem dX2_acceptsKind_10 : decode cX2_acceptsKind 10 = .ok (.iload_n 2, 1) := by decide +kernel
theorem dX2_acceptsKind_11 : decode cX2_acceptsKind 11 = .ok (.caload, 1) := by decide +kernel
theorem dX2_acceptsKind_12 : decode cX2_acceptsKind 12 = .ok (.iload_n 1, 1) := by decide +kernel
theorem dX2_acceptsKind_13 : decode cX2_acceptsKind 13 = .ok (.if_icmp .ne 18, 3) := by decide +kernel
theorem dX2_acceptsKind_16 : decode cX2_acceptsKind 16 = .ok (.aload_n 0, 1) := by decide +kernel
theorem dX2_acceptsKind_17 : decode cX2_acceptsKind 17 = .ok (.getfield 18, 3) := by decide +kernel
theorem dX2_acceptsKind_20 : decode cX2_acceptsKind 20 = .ok (.iload_n 2, 1) := by decide +kernel
theorem dX2_acceptsKind_21 : decode cX2_acceptsKind 21 = .ok (.invokevirtual 65, 3) := by decide +kernel
theorem dX2_acceptsKind_24 : decode cX2_acceptsKind 24 = .ok (.aload_n 0, 1) := by decide +kernel
theorem dX2_acceptsKind_25 : decode cX2_acceptsKind 25 = .ok (.iconst 1, 1) := by decide +kernel
theorem dX2_acceptsKind_26 : decode cX2_acceptsKind 26 = .ok (.putfield 35, 3) := by decide +kernel
theorem dX2_acceptsKind_29 : decode cX2_acceptsKind 29 = .ok (.iconst 1, 1) := by decide +kernel
theorem dX2_acceptsKind_30 : decode cX2_acceptsKind 30 = .ok (.ireturn, 1) := by decide +kernel
theorem dX2_acceptsKind_31 : decode cX2_acceptsKind 31 = .ok (.iinc 2 1, 3) := by decide +kernel
theorem dX2_acceptsKind_34 : decode cX2_acceptsKind 34 = .ok (.goto (-32), 3) := by decide +kernel
theorem dX2_acceptsKind_37 : decode cX2_acceptsKind 37 = .ok (.iconst 0, 1) := by decide +kernel
theorem dX2_acceptsKind_38 : decode cX2_acceptsKind 38 = .ok (.ireturn, 1) := by decide +kernel
theorem dX2_acceptsInWitness_0 : decode cX2_acceptsInWitness 0 = .ok (.iload_n 1, 1) := by decide +kernel
theorem dX2_acceptsInWitness_1 : decode cX2_acceptsInWitness 1 = .ok (.bipush 59, 2) := by decide +kernel
theorem dX2_acceptsInWitness_3 : decode cX2_acceptsInWitness 3 = .ok (.if_icmp .ne 10, 3) := by decide +kernel
theorem dX2_acceptsInWitness_6 : decode cX2_acceptsInWitness 6 = .ok (.aload_n 0, 1) := by decide +kernel
theorem dX2_acceptsInWitness_7 : decode cX2_acceptsInWitness 7 = .ok (.iconst 3, 1) := by decide +kernel
theorem dX2_acceptsInWitness_8 : decode cX2_acceptsInWitness 8 = .ok (.putfield 35, 3) := by decide +kernel
theorem dX2_acceptsInWitness_11 : decode cX2_acceptsInWitness 11 = .ok (.iconst 1, 1) := by decide +kernel
theorem dX2_acceptsInWitness_12 : decode cX2_acceptsInWitness 12 = .ok (.ireturn, 1) := by decide +kernel
theorem dX2_acceptsInWitness_13 : decode cX2_acceptsInWitness 13 = .ok (.iload_n 1, 1) := by decide +kernel
theorem dX2_acceptsInWitness_14 : decode cX2_acceptsInWitness 14 = .ok (.bipush 44, 2) := by decide +kernel
theorem dX2_acceptsInWitness_16 : decode cX2_acceptsInWitness 16 = .ok (.if_icmp .ne 21, 3) := by decide +kernel
theorem dX2_acceptsInWitness_19 : decode cX2_acceptsInWitness 19 = .ok (.aload_n 0, 1) := by decide +kernel
theorem dX2_acceptsInWitness_20 : decode cX2_acceptsInWitness 20 = .ok (.getfield 18, 3) := by decide +kernel
theorem dX2_acceptsInWitness_23 : decode cX2_acceptsInWitness 23 = .ok (.getfield 33, 3) := by decide +kernel
theorem dX2_acceptsInWitness_26 : decode cX2_acceptsInWitness 26 = .ok (.iconst 5, 1) := by decide +kernel
theorem dX2_acceptsInWitness_27 : decode cX2_acceptsInWitness 27 = .ok (.if_icmp .ge 10, 3) := by decide +kernel
theorem dX2_acceptsInWitness_30 : decode cX2_acceptsInWitness 30 = .ok (.aload_n 0, 1) := by decide +kernel
theorem dX2_acceptsInWitness_31 : decode cX2_acceptsInWitness 31 = .ok (.iconst 0, 1) := by decide +kernel
theorem dX2_acceptsInWitness_32 : decode cX2_acceptsInWitness 32 = .ok (.putfield 35, 3) := by decide +kernel
theorem dX2_acceptsInWitness_35 : decode cX2_acceptsInWitness 35 = .ok (.iconst 1, 1) := by decide +kernel
theorem dX2_acceptsInWitness_36 : decode cX2_acceptsInWitness 36 = .ok (.ireturn, 1) := by decide +kernel
theorem dX2_acceptsInWitness_37 : decode cX2_acceptsInWitness 37 = .ok (.aload_n 0, 1) := by decide +kernel
theorem dX2_acceptsInWitness_38 : decode cX2_acceptsInWitness 38 = .ok (.invokevirtual 69, 3) := by decide +kernel
theorem dX2_acceptsInWitness_41 : decode cX2_acceptsInWitness 41 = .ok (.getfield 73, 3) := by decide +kernel
theorem dX2_acceptsInWitness_44 : decode cX2_acceptsInWitness 44 = .ok (.iconst 3, 1) := by decide +kernel
theorem dX2_acceptsInWitness_45 : decode cX2_acceptsInWitness 45 = .ok (.if_icmp .ge 16, 3) := by decide +kernel
theorem dX2_acceptsInWitness_48 : decode cX2_acceptsInWitness 48 = .ok (.aload_n 0, 1) := by decide +kernel
theorem dX2_acceptsInWitness_49 : decode cX2_acceptsInWitness 49 = .ok (.iload_n 1, 1) := by decide +kernel
theorem dX2_acceptsInWitness_50 : decode cX2_acceptsInWitness 50 = .ok (.iconst 2, 1) := by decide +kernel
theorem dX2_acceptsInWitness_51 : decode cX2_acceptsInWitness 51 = .ok (.invokevirtual 51, 3) := by decide +kernel
theorem dX2_acceptsInWitness_54 : decode cX2_acceptsInWitness 54 = .ok (.ifCond .eq 7, 3) := by decide +kernel
theorem dX2_acceptsInWitness_57 : decode cX2_acceptsInWitness 57 = .ok (.iconst 1, 1) := by decide +kernel
theorem dX2_acceptsInWitness_58 : decode cX2_acceptsInWitness 58 = .ok (.goto 4, 3) := by decide +kernel
theorem dX2_acceptsInWitness_61 : decode cX2_acceptsInWitness 61 = .ok (.iconst 0, 1) := by decide +kernel
theorem dX2_acceptsInWitness_62 : decode cX2_acceptsInWitness 62 = .ok (.ireturn, 1) := by decide +kernel
theorem dX2_acceptsThing_0 : decode cX2_acceptsThing 0 = .ok (.iload_n 1, 1) := by decide +kernel
theorem dX2_acceptsThing_1 : decode cX2_acceptsThing 1 = .ok (.bipush 97, 2) := by decide +kernel
theorem dX2_acceptsThing_3 : decode cX2_acceptsThing 3 = .ok (.isub, 1) := by decide +kernel
theorem dX2_acceptsThing_4 : decode cX2_acceptsThing 4 = .ok (.invokestatic 76, 3) := by decide +kernel
theorem dX2_acceptsThing_7 : decode cX2_acceptsThing 7 = .ok (.ifCond .ne 5, 3) := by decide +kernel
theorem dX2_acceptsThing_10 : decode cX2_acceptsThing 10 = .ok (.iconst 0, 1) := by decide +kernel
theorem dX2_acceptsThing_11 : decode cX2_acceptsThing 11 = .ok (.ireturn, 1) := by decide +kernel
theorem dX2_acceptsThing_12 : decode cX2_acceptsThing 12 = .ok (.aload_n 0, 1) := by decide +kernel
theorem dX2_acceptsThing_13 : decode cX2_acceptsThing 13 = .ok (.iload_n 1, 1) := by decide +kernel
theorem dX2_acceptsThing_14 : decode cX2_acceptsThing 14 = .ok (.bipush 97, 2) := by decide +kernel
theorem dX2_acceptsThing_16 : decode cX2_acceptsThing 16 = .ok (.isub, 1) := by decide +kernel
theorem dX2_acceptsThing_17 : decode cX2_acceptsThing 17 = .ok (.putfield 79, 3) := by decide +kernel
theorem dX2_acceptsThing_20 : decode cX2_acceptsThing 20 = .ok (.aload_n 0, 1) := by decide +kernel
theorem dX2_acceptsThing_21 : decode cX2_acceptsThing 21 = .ok (.iload_n 2, 1) := by decide +kernel
theorem dX2_acceptsThing_22 : decode cX2_acceptsThing 22 = .ok (.putfield 35, 3) := by decide +kernel
theorem dX2_acceptsThing_25 : decode cX2_acceptsThing 25 = .ok (.iconst 1, 1) := by decide +kernel
theorem dX2_acceptsThing_26 : decode cX2_acceptsThing 26 = .ok (.ireturn, 1) := by decide +kernel
theorem dX2_acceptsColour_0 : decode cX2_acceptsColour 0 = .ok (.iload_n 1, 1) := by decide +kernel
theorem dX2_acceptsColour_1 : decode cX2_acceptsColour 1 = .ok (.bipush 48, 2) := by decide +kernel
theorem dX2_acceptsColour_3 : decode cX2_acceptsColour 3 = .ok (.isub, 1) := by decide +kernel
theorem dX2_acceptsColour_4 : decode cX2_acceptsColour 4 = .ok (.istore_n 2, 1) := by decide +kernel
theorem dX2_acceptsColour_5 : decode cX2_acceptsColour 5 = .ok (.aload_n 0, 1) := by decide +kernel
theorem dX2_acceptsColour_6 : decode cX2_acceptsColour 6 = .ok (.getfield 79, 3) := by decide +kernel
theorem dX2_acceptsColour_9 : decode cX2_acceptsColour 9 = .ok (.iconst 4, 1) := by decide +kernel
theorem dX2_acceptsColour_10 : decode cX2_acceptsColour 10 = .ok (.imul, 1) := by decide +kernel
theorem dX2_acceptsColour_11 : decode cX2_acceptsColour 11 = .ok (.iload_n 2, 1) := by decide +kernel
theorem dX2_acceptsColour_12 : decode cX2_acceptsColour 12 = .ok (.iadd, 1) := by decide +kernel
theorem dX2_acceptsColour_13 : decode cX2_acceptsColour 13 = .ok (.istore_n 3, 1) := by decide +kernel
theorem dX2_acceptsColour_14 : decode cX2_acceptsColour 14 = .ok (.iload_n 2, 1) := by decide +kernel
theorem dX2_acceptsColour_15 : decode cX2_acceptsColour 15 = .ok (.invokestatic 82, 3) := by decide +kernel
theorem dX2_acceptsColour_18 : decode cX2_acceptsColour 18 = .ok (.ifCond .eq 14, 3) := by decide +kernel
theorem dX2_acceptsColour_21 : decode cX2_acceptsColour 21 = .ok (.aload_n 0, 1) := by decide +kernel
theorem dX2_acceptsColour_22 : decode cX2_acceptsColour 22 = .ok (.invokevirtual 69, 3) := by decide +kernel
theorem dX2_acceptsColour_25 : decode cX2_acceptsColour 25 = .ok (.iload_n 3, 1) := by decide +kernel
theorem dX2_acceptsColour_26 : decode cX2_acceptsColour 26 = .ok (.invokevirtual 85, 3) := by decide +kernel
theorem dX2_acceptsColour_29 : decode cX2_acceptsColour 29 = .ok (.ifCond .eq 5, 3) := by decide +kernel
theorem dX2_acceptsColour_32 : decode cX2_acceptsColour 32 = .ok (.iconst 0, 1) := by decide +kernel
theorem dX2_acceptsColour_33 : decode cX2_acceptsColour 33 = .ok (.ireturn, 1) := by decide +kernel
theorem dX2_acceptsColour_34 : decode cX2_acceptsColour 34 = .ok (.aload_n 0, 1) := by decide +kernel
theorem dX2_acceptsColour_35 : decode cX2_acceptsColour 35 = .ok (.invokevirtual 69, 3) := by decide +kernel
theorem dX2_acceptsColour_38 : decode cX2_acceptsColour 38 = .ok (.iload_n 3, 1) := by decide +kernel
theorem dX2_acceptsColour_39 : decode cX2_acceptsColour 39 = .ok (.invokevirtual 88, 3) := by decide +kernel
theorem dX2_acceptsColour_42 : decode cX2_acceptsColour 42 = .ok (.aload_n 0, 1) := by decide +kernel
theorem dX2_acceptsColour_43 : decode cX2_acceptsColour 43 = .ok (.iconst 1, 1) := by decide +kernel
theorem dX2_acceptsColour_44 : decode cX2_acceptsColour 44 = .ok (.putfield 35, 3) := by decide +kernel
theorem dX2_acceptsColour_47 : decode cX2_acceptsColour 47 = .ok (.iconst 1, 1) := by decide +kernel
theorem dX2_acceptsColour_48 : decode cX2_acceptsColour 48 = .ok (.ireturn, 1) := by decide +kernel
theorem dX2_acceptsDue_0 : decode cX2_acceptsDue 0 = .ok (.iload_n 1, 1) := by decide +kernel
theorem dX2_acceptsDue_1 : decode cX2_acceptsDue 1 = .ok (.bipush 48, 2) := by decide +kernel
theorem dX2_acceptsDue_3 : decode cX2_acceptsDue 3 = .ok (.isub, 1) := by decide +kernel
theorem dX2_acceptsDue_4 : decode cX2_acceptsDue 4 = .ok (.istore_n 2, 1) := by decide +kernel
theorem dX2_acceptsDue_5 : decode cX2_acceptsDue 5 = .ok (.iload_n 2, 1) := by decide +kernel
theorem dX2_acceptsDue_6 : decode cX2_acceptsDue 6 = .ok (.iconst 1, 1) := by decide +kernel
theorem dX2_acceptsDue_7 : decode cX2_acceptsDue 7 = .ok (.bipush 6, 2) := by decide +kernel
theorem dX2_acceptsDue_9 : decode cX2_acceptsDue 9 = .ok (.invokestatic 89, 3) := by decide +kernel
theorem dX2_acceptsDue_12 : decode cX2_acceptsDue 12 = .ok (.ifCond .ne 5, 3) := by decide +kernel
theorem dX2_acceptsDue_15 : decode cX2_acceptsDue 15 = .ok (.iconst 0, 1) := by decide +kernel
theorem dX2_acceptsDue_16 : decode cX2_acceptsDue 16 = .ok (.ireturn, 1) := by decide +kernel
theorem dX2_acceptsDue_17 : decode cX2_acceptsDue 17 = .ok (.aload_n 0, 1) := by decide +kernel
theorem dX2_acceptsDue_18 : decode cX2_acceptsDue 18 = .ok (.getfield 25, 3) := by decide +kernel
theorem dX2_acceptsDue_21 : decode cX2_acceptsDue 21 = .ok (.aload_n 0, 1) := by decide +kernel
theorem dX2_acceptsDue_22 : decode cX2_acceptsDue 22 = .ok (.getfield 79, 3) := by decide +kernel
theorem dX2_acceptsDue_25 : decode cX2_acceptsDue 25 = .ok (.iload_n 2, 1) := by decide +kernel
theorem dX2_acceptsDue_26 : decode cX2_acceptsDue 26 = .ok (.invokevirtual 93, 3) := by decide +kernel
theorem dX2_acceptsDue_29 : decode cX2_acceptsDue 29 = .ok (.aload_n 0, 1) := by decide +kernel
theorem dX2_acceptsDue_30 : decode cX2_acceptsDue 30 = .ok (.bipush 6, 2) := by decide +kernel
theorem dX2_acceptsDue_32 : decode cX2_acceptsDue 32 = .ok (.putfield 35, 3) := by decide +kernel
theorem dX2_acceptsDue_35 : decode cX2_acceptsDue 35 = .ok (.iconst 1, 1) := by decide +kernel
theorem dX2_acceptsDue_36 : decode cX2_acceptsDue 36 = .ok (.ireturn, 1) := by decide +kernel
theorem dX2_acceptsBehindCase_0 : decode cX2_acceptsBehindCase 0 = .ok (.iload_n 1, 1) := by decide +kernel
theorem dX2_acceptsBehindCase_1 : decode cX2_acceptsBehindCase 1 = .ok (.bipush 44, 2) := by decide +kernel
theorem dX2_acceptsBehindCase_3 : decode cX2_acceptsBehindCase 3 = .ok (.if_icmp .ne 14, 3) := by decide +kernel
theorem dX2_acceptsBehindCase_6 : decode cX2_acceptsBehindCase 6 = .ok (.aload_n 0, 1) := by decide +kernel
