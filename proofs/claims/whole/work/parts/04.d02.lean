theorem dX2_acceptsBehindCase_7 : decode cX2_acceptsBehindCase 7 = .ok (.getfield 25, 3) := by decide +kernel
theorem dX2_acceptsBehindCase_10 : decode cX2_acceptsBehindCase 10 = .ok (.getfield 34, 3) := by decide +kernel
theorem dX2_acceptsBehindCase_13 : decode cX2_acceptsBehindCase 13 = .ok (.iconst 4, 1) := by decide +kernel
theorem dX2_acceptsBehindCase_14 : decode cX2_acceptsBehindCase 14 = .ok (.if_icmp .lt 5, 3) := by decide +kernel
theorem dX2_acceptsBehindCase_17 : decode cX2_acceptsBehindCase 17 = .ok (.iconst 0, 1) := by decide +kernel
theorem dX2_acceptsBehindCase_18 : decode cX2_acceptsBehindCase 18 = .ok (.ireturn, 1) := by decide +kernel
theorem dX2_acceptsBehindCase_19 : decode cX2_acceptsBehindCase 19 = .ok (.aload_n 0, 1) := by decide +kernel
theorem dX2_acceptsBehindCase_20 : decode cX2_acceptsBehindCase 20 = .ok (.iconst 4, 1) := by decide +kernel
theorem dX2_acceptsBehindCase_21 : decode cX2_acceptsBehindCase 21 = .ok (.putfield 35, 3) := by decide +kernel
theorem dX2_acceptsBehindCase_24 : decode cX2_acceptsBehindCase 24 = .ok (.iconst 1, 1) := by decide +kernel
theorem dX2_acceptsBehindCase_25 : decode cX2_acceptsBehindCase 25 = .ok (.ireturn, 1) := by decide +kernel
theorem dX2_latest_0 : decode cX2_latest 0 = .ok (.aload_n 0, 1) := by decide +kernel
theorem dX2_latest_1 : decode cX2_latest 1 = .ok (.getfield 18, 3) := by decide +kernel
theorem dX2_latest_4 : decode cX2_latest 4 = .ok (.getfield 96, 3) := by decide +kernel
theorem dX2_latest_7 : decode cX2_latest 7 = .ok (.aload_n 0, 1) := by decide +kernel
theorem dX2_latest_8 : decode cX2_latest 8 = .ok (.getfield 18, 3) := by decide +kernel
theorem dX2_latest_11 : decode cX2_latest 11 = .ok (.getfield 33, 3) := by decide +kernel
theorem dX2_latest_14 : decode cX2_latest 14 = .ok (.iconst 1, 1) := by decide +kernel
theorem dX2_latest_15 : decode cX2_latest 15 = .ok (.isub, 1) := by decide +kernel
theorem dX2_latest_16 : decode cX2_latest 16 = .ok (.iconst 0, 1) := by decide +kernel
theorem dX2_latest_17 : decode cX2_latest 17 = .ok (.invokestatic 100, 3) := by decide +kernel
theorem dX2_latest_20 : decode cX2_latest 20 = .ok (.aaload, 1) := by decide +kernel
theorem dX2_latest_21 : decode cX2_latest 21 = .ok (.areturn, 1) := by decide +kernel
theorem dX3_init_0 : decode cX3_init 0 = .ok (.aload_n 0, 1) := by decide +kernel
theorem dX3_init_1 : decode cX3_init 1 = .ok (.invokespecial 1, 3) := by decide +kernel
theorem dX3_init_4 : decode cX3_init 4 = .ok (.aload_n 0, 1) := by decide +kernel
theorem dX3_init_5 : decode cX3_init 5 = .ok (.new 7, 3) := by decide +kernel
theorem dX3_init_8 : decode cX3_init 8 = .ok (.dup, 1) := by decide +kernel
theorem dX3_init_9 : decode cX3_init 9 = .ok (.invokespecial 9, 3) := by decide +kernel
theorem dX3_init_12 : decode cX3_init 12 = .ok (.putfield 10, 3) := by decide +kernel
theorem dX3_init_15 : decode cX3_init 15 = .ok (.aload_n 0, 1) := by decide +kernel
theorem dX3_init_16 : decode cX3_init 16 = .ok (.new 16, 3) := by decide +kernel
theorem dX3_init_19 : decode cX3_init 19 = .ok (.dup, 1) := by decide +kernel
theorem dX3_init_20 : decode cX3_init 20 = .ok (.invokespecial 18, 3) := by decide +kernel
theorem dX3_init_23 : decode cX3_init 23 = .ok (.putfield 19, 3) := by decide +kernel
theorem dX3_init_26 : decode cX3_init 26 = .ok (.aload_n 0, 1) := by decide +kernel
theorem dX3_init_27 : decode cX3_init 27 = .ok (.new 23, 3) := by decide +kernel
theorem dX3_init_30 : decode cX3_init 30 = .ok (.dup, 1) := by decide +kernel
theorem dX3_init_31 : decode cX3_init 31 = .ok (.invokespecial 25, 3) := by decide +kernel
theorem dX3_init_34 : decode cX3_init 34 = .ok (.putfield 26, 3) := by decide +kernel
theorem dX3_init_37 : decode cX3_init 37 = .ok (.return_, 1) := by decide +kernel
theorem dX3_beginWith_0 : decode cX3_beginWith 0 = .ok (.aload_n 0, 1) := by decide +kernel
theorem dX3_beginWith_1 : decode cX3_beginWith 1 = .ok (.getfield 10, 3) := by decide +kernel
theorem dX3_beginWith_4 : decode cX3_beginWith 4 = .ok (.aload_n 1, 1) := by decide +kernel
theorem dX3_beginWith_5 : decode cX3_beginWith 5 = .ok (.invokevirtual 30, 3) := by decide +kernel
theorem dX3_beginWith_8 : decode cX3_beginWith 8 = .ok (.aload_n 0, 1) := by decide +kernel
theorem dX3_beginWith_9 : decode cX3_beginWith 9 = .ok (.getfield 19, 3) := by decide +kernel
theorem dX3_beginWith_12 : decode cX3_beginWith 12 = .ok (.iconst 0, 1) := by decide +kernel
theorem dX3_beginWith_13 : decode cX3_beginWith 13 = .ok (.putfield 34, 3) := by decide +kernel
theorem dX3_beginWith_16 : decode cX3_beginWith 16 = .ok (.aload_n 0, 1) := by decide +kernel
theorem dX3_beginWith_17 : decode cX3_beginWith 17 = .ok (.getfield 26, 3) := by decide +kernel
theorem dX3_beginWith_20 : decode cX3_beginWith 20 = .ok (.iconst 0, 1) := by decide +kernel
theorem dX3_beginWith_21 : decode cX3_beginWith 21 = .ok (.putfield 38, 3) := by decide +kernel
theorem dX3_beginWith_24 : decode cX3_beginWith 24 = .ok (.aload_n 0, 1) := by decide +kernel
theorem dX3_beginWith_25 : decode cX3_beginWith 25 = .ok (.iconst 0, 1) := by decide +kernel
theorem dX3_beginWith_26 : decode cX3_beginWith 26 = .ok (.putfield 39, 3) := by decide +kernel
theorem dX3_beginWith_29 : decode cX3_beginWith 29 = .ok (.return_, 1) := by decide +kernel
theorem dX3_copyFrom_0 : decode cX3_copyFrom 0 = .ok (.aload_n 0, 1) := by decide +kernel
theorem dX3_copyFrom_1 : decode cX3_copyFrom 1 = .ok (.getfield 10, 3) := by decide +kernel
theorem dX3_copyFrom_4 : decode cX3_copyFrom 4 = .ok (.aload_n 1, 1) := by decide +kernel
theorem dX3_copyFrom_5 : decode cX3_copyFrom 5 = .ok (.getfield 10, 3) := by decide +kernel
theorem dX3_copyFrom_8 : decode cX3_copyFrom 8 = .ok (.invokevirtual 30, 3) := by decide +kernel
theorem dX3_copyFrom_11 : decode cX3_copyFrom 11 = .ok (.aload_n 0, 1) := by decide +kernel
theorem dX3_copyFrom_12 : decode cX3_copyFrom 12 = .ok (.getfield 19, 3) := by decide +kernel
theorem dX3_copyFrom_15 : decode cX3_copyFrom 15 = .ok (.aload_n 1, 1) := by decide +kernel
theorem dX3_copyFrom_16 : decode cX3_copyFrom 16 = .ok (.getfield 19, 3) := by decide +kernel
theorem dX3_copyFrom_19 : decode cX3_copyFrom 19 = .ok (.invokevirtual 42, 3) := by decide +kernel
theorem dX3_copyFrom_22 : decode cX3_copyFrom 22 = .ok (.aload_n 0, 1) := by decide +kernel
theorem dX3_copyFrom_23 : decode cX3_copyFrom 23 = .ok (.getfield 26, 3) := by decide +kernel
theorem dX3_copyFrom_26 : decode cX3_copyFrom 26 = .ok (.aload_n 1, 1) := by decide +kernel
theorem dX3_copyFrom_27 : decode cX3_copyFrom 27 = .ok (.getfield 26, 3) := by decide +kernel
theorem dX3_copyFrom_30 : decode cX3_copyFrom 30 = .ok (.invokevirtual 45, 3) := by decide +kernel
theorem dX3_copyFrom_33 : decode cX3_copyFrom 33 = .ok (.aload_n 0, 1) := by decide +kernel
theorem dX3_copyFrom_34 : decode cX3_copyFrom 34 = .ok (.aload_n 1, 1) := by decide +kernel
theorem dX3_copyFrom_35 : decode cX3_copyFrom 35 = .ok (.getfield 39, 3) := by decide +kernel
theorem dX3_copyFrom_38 : decode cX3_copyFrom 38 = .ok (.putfield 39, 3) := by decide +kernel
theorem dX3_copyFrom_41 : decode cX3_copyFrom 41 = .ok (.return_, 1) := by decide +kernel
theorem dX4_init_0 : decode cX4_init 0 = .ok (.aload_n 0, 1) := by decide +kernel
theorem dX4_init_1 : decode cX4_init 1 = .ok (.invokespecial 3, 3) := by decide +kernel
theorem dX4_init_4 : decode cX4_init 4 = .ok (.aload_n 0, 1) := by decide +kernel
theorem dX4_init_5 : decode cX4_init 5 = .ok (.bipush 6, 2) := by decide +kernel
theorem dX4_init_7 : decode cX4_init 7 = .ok (.newarray .int, 2) := by decide +kernel
theorem dX4_init_9 : decode cX4_init 9 = .ok (.putfield 9, 3) := by decide +kernel
theorem dX4_init_12 : decode cX4_init 12 = .ok (.aload_n 0, 1) := by decide +kernel
theorem dX4_init_13 : decode cX4_init 13 = .ok (.bipush 6, 2) := by decide +kernel
theorem dX4_init_15 : decode cX4_init 15 = .ok (.newarray .int, 2) := by decide +kernel
theorem dX4_init_17 : decode cX4_init 17 = .ok (.putfield 15, 3) := by decide +kernel
theorem dX4_init_20 : decode cX4_init 20 = .ok (.return_, 1) := by decide +kernel
theorem dX4_add_0 : decode cX4_add 0 = .ok (.aload_n 0, 1) := by decide +kernel
theorem dX4_add_1 : decode cX4_add 1 = .ok (.getfield 18, 3) := by decide +kernel
theorem dX4_add_4 : decode cX4_add 4 = .ok (.bipush 6, 2) := by decide +kernel
theorem dX4_add_6 : decode cX4_add 6 = .ok (.if_icmp .ge 54, 3) := by decide +kernel
theorem dX4_add_9 : decode cX4_add 9 = .ok (.aload_n 0, 1) := by decide +kernel
theorem dX4_add_10 : decode cX4_add 10 = .ok (.getfield 9, 3) := by decide +kernel
theorem dX4_add_13 : decode cX4_add 13 = .ok (.aload_n 0, 1) := by decide +kernel
theorem dX4_add_14 : decode cX4_add 14 = .ok (.getfield 18, 3) := by decide +kernel
theorem dX4_add_17 : decode cX4_add 17 = .ok (.iload_n 1, 1) := by decide +kernel
theorem dX4_add_18 : decode cX4_add 18 = .ok (.iastore, 1) := by decide +kernel
theorem dX4_add_19 : decode cX4_add 19 = .ok (.aload_n 0, 1) := by decide +kernel
theorem dX4_add_20 : decode cX4_add 20 = .ok (.getfield 15, 3) := by decide +kernel
theorem dX4_add_23 : decode cX4_add 23 = .ok (.aload_n 0, 1) := by decide +kernel
theorem dX4_add_24 : decode cX4_add 24 = .ok (.getfield 18, 3) := by decide +kernel
theorem dX4_add_27 : decode cX4_add 27 = .ok (.iload_n 3, 1) := by decide +kernel
theorem dX4_add_28 : decode cX4_add 28 = .ok (.ifCond .eq 11, 3) := by decide +kernel
theorem dX4_add_31 : decode cX4_add 31 = .ok (.getstatic 22, 3) := by decide +kernel
theorem dX4_add_34 : decode cX4_add 34 = .ok (.iload_n 2, 1) := by decide +kernel
theorem dX4_add_35 : decode cX4_add 35 = .ok (.iaload, 1) := by decide +kernel
theorem dX4_add_36 : decode cX4_add 36 = .ok (.goto 13, 3) := by decide +kernel
theorem dX4_add_39 : decode cX4_add 39 = .ok (.bipush 31, 2) := by decide +kernel
theorem dX4_add_41 : decode cX4_add 41 = .ok (.getstatic 22, 3) := by decide +kernel
theorem dX4_add_44 : decode cX4_add 44 = .ok (.iload_n 2, 1) := by decide +kernel
theorem dX4_add_45 : decode cX4_add 45 = .ok (.iaload, 1) := by decide +kernel
theorem dX4_add_46 : decode cX4_add 46 = .ok (.iconst (-1), 1) := by decide +kernel
theorem dX4_add_47 : decode cX4_add 47 = .ok (.ixor, 1) := by decide +kernel
theorem dX4_add_48 : decode cX4_add 48 = .ok (.iand, 1) := by decide +kernel
theorem dX4_add_49 : decode cX4_add 49 = .ok (.iastore, 1) := by decide +kernel
theorem dX4_add_50 : decode cX4_add 50 = .ok (.aload_n 0, 1) := by decide +kernel
theorem dX4_add_51 : decode cX4_add 51 = .ok (.dup, 1) := by decide +kernel
theorem dX4_add_52 : decode cX4_add 52 = .ok (.getfield 18, 3) := by decide +kernel
theorem dX4_add_55 : decode cX4_add 55 = .ok (.iconst 1, 1) := by decide +kernel
theorem dX4_add_56 : decode cX4_add 56 = .ok (.iadd, 1) := by decide +kernel
theorem dX4_add_57 : decode cX4_add 57 = .ok (.putfield 18, 3) := by decide +kernel
theorem dX4_add_60 : decode cX4_add 60 = .ok (.return_, 1) := by decide +kernel
theorem dX4_copyFrom_0 : decode cX4_copyFrom 0 = .ok (.aload_n 0, 1) := by decide +kernel
theorem dX4_copyFrom_1 : decode cX4_copyFrom 1 = .ok (.aload_n 1, 1) := by decide +kernel
theorem dX4_copyFrom_2 : decode cX4_copyFrom 2 = .ok (.getfield 18, 3) := by decide +kernel
theorem dX4_copyFrom_5 : decode cX4_copyFrom 5 = .ok (.putfield 18, 3) := by decide +kernel
theorem dX4_copyFrom_8 : decode cX4_copyFrom 8 = .ok (.iconst 0, 1) := by decide +kernel
theorem dX4_copyFrom_9 : decode cX4_copyFrom 9 = .ok (.istore_n 2, 1) := by decide +kernel
theorem dX4_copyFrom_10 : decode cX4_copyFrom 10 = .ok (.iload_n 2, 1) := by decide +kernel
theorem dX4_copyFrom_11 : decode cX4_copyFrom 11 = .ok (.bipush 6, 2) := by decide +kernel
theorem dX4_copyFrom_13 : decode cX4_copyFrom 13 = .ok (.if_icmp .ge 33, 3) := by decide +kernel
theorem dX4_copyFrom_16 : decode cX4_copyFrom 16 = .ok (.aload_n 0, 1) := by decide +kernel
theorem dX4_copyFrom_17 : decode cX4_copyFrom 17 = .ok (.getfield 9, 3) := by decide +kernel
theorem dX4_copyFrom_20 : decode cX4_copyFrom 20 = .ok (.iload_n 2, 1) := by decide +kernel
theorem dX4_copyFrom_21 : decode cX4_copyFrom 21 = .ok (.aload_n 1, 1) := by decide +kernel
theorem dX4_copyFrom_22 : decode cX4_copyFrom 22 = .ok (.getfield 9, 3) := by decide +kernel
theorem dX4_copyFrom_25 : decode cX4_copyFrom 25 = .ok (.iload_n 2, 1) := by decide +kernel
theorem dX4_copyFrom_26 : decode cX4_copyFrom 26 = .ok (.iaload, 1) := by decide +kernel
theorem dX4_copyFrom_27 : decode cX4_copyFrom 27 = .ok (.iastore, 1) := by decide +kernel
theorem dX4_copyFrom_28 : decode cX4_copyFrom 28 = .ok (.aload_n 0, 1) := by decide +kernel
theorem dX4_copyFrom_29 : decode cX4_copyFrom 29 = .ok (.getfield 15, 3) := by decide +kernel
theorem dX4_copyFrom_32 : decode cX4_copyFrom 32 = .ok (.iload_n 2, 1) := by decide +kernel
theorem dX4_copyFrom_33 : decode cX4_copyFrom 33 = .ok (.aload_n 1, 1) := by decide +kernel
theorem dX4_copyFrom_34 : decode cX4_copyFrom 34 = .ok (.getfield 15, 3) := by decide +kernel
theorem dX4_copyFrom_37 : decode cX4_copyFrom 37 = .ok (.iload_n 2, 1) := by decide +kernel
theorem dX4_copyFrom_38 : decode cX4_copyFrom 38 = .ok (.iaload, 1) := by decide +kernel
theorem dX4_copyFrom_39 : decode cX4_copyFrom 39 = .ok (.iastore, 1) := by decide +kernel
theorem dX4_copyFrom_40 : decode cX4_copyFrom 40 = .ok (.iinc 2 1, 3) := by decide +kernel
theorem dX4_copyFrom_43 : decode cX4_copyFrom 43 = .ok (.goto (-33), 3) := by decide +kernel
theorem dX4_copyFrom_46 : decode cX4_copyFrom 46 = .ok (.return_, 1) := by decide +kernel
theorem dX4_sortsOf_0 : decode cX4_sortsOf 0 = .ok (.bipush 31, 2) := by decide +kernel
theorem dX4_sortsOf_2 : decode cX4_sortsOf 2 = .ok (.istore_n 2, 1) := by decide +kernel
theorem dX4_sortsOf_3 : decode cX4_sortsOf 3 = .ok (.iconst 0, 1) := by decide +kernel
theorem dX4_sortsOf_4 : decode cX4_sortsOf 4 = .ok (.istore_n 3, 1) := by decide +kernel
theorem dX4_sortsOf_5 : decode cX4_sortsOf 5 = .ok (.iload_n 3, 1) := by decide +kernel
theorem dX4_sortsOf_6 : decode cX4_sortsOf 6 = .ok (.aload_n 0, 1) := by decide +kernel
theorem dX4_sortsOf_7 : decode cX4_sortsOf 7 = .ok (.getfield 18, 3) := by decide +kernel
theorem dX4_sortsOf_10 : decode cX4_sortsOf 10 = .ok (.if_icmp .ge 28, 3) := by decide +kernel
theorem dX4_sortsOf_13 : decode cX4_sortsOf 13 = .ok (.aload_n 0, 1) := by decide +kernel
theorem dX4_sortsOf_14 : decode cX4_sortsOf 14 = .ok (.getfield 9, 3) := by decide +kernel
theorem dX4_sortsOf_17 : decode cX4_sortsOf 17 = .ok (.iload_n 3, 1) := by decide +kernel
theorem dX4_sortsOf_18 : decode cX4_sortsOf 18 = .ok (.iaload, 1) := by decide +kernel
theorem dX4_sortsOf_19 : decode cX4_sortsOf 19 = .ok (.iload_n 1, 1) := by decide +kernel
theorem dX4_sortsOf_20 : decode cX4_sortsOf 20 = .ok (.if_icmp .ne 12, 3) := by decide +kernel
theorem dX4_sortsOf_23 : decode cX4_sortsOf 23 = .ok (.iload_n 2, 1) := by decide +kernel
theorem dX4_sortsOf_24 : decode cX4_sortsOf 24 = .ok (.aload_n 0, 1) := by decide +kernel
theorem dX4_sortsOf_25 : decode cX4_sortsOf 25 = .ok (.getfield 15, 3) := by decide +kernel
theorem dX4_sortsOf_28 : decode cX4_sortsOf 28 = .ok (.iload_n 3, 1) := by decide +kernel
theorem dX4_sortsOf_29 : decode cX4_sortsOf 29 = .ok (.iaload, 1) := by decide +kernel
theorem dX4_sortsOf_30 : decode cX4_sortsOf 30 = .ok (.iand, 1) := by decide +kernel
theorem dX4_sortsOf_31 : decode cX4_sortsOf 31 = .ok (.istore_n 2, 1) := by decide +kernel
theorem dX4_sortsOf_32 : decode cX4_sortsOf 32 = .ok (.iinc 3 1, 3) := by decide +kernel
theorem dX4_sortsOf_35 : decode cX4_sortsOf 35 = .ok (.goto (-30), 3) := by decide +kernel
theorem dX4_sortsOf_38 : decode cX4_sortsOf 38 = .ok (.iload_n 2, 1) := by decide +kernel
theorem dX4_sortsOf_39 : decode cX4_sortsOf 39 = .ok (.ireturn, 1) := by decide +kernel
theorem dX4_askFor_0 : decode cX4_askFor 0 = .ok (.aload_n 0, 1) := by decide +kernel
theorem dX4_askFor_1 : decode cX4_askFor 1 = .ok (.iload_n 1, 1) := by decide +kernel
theorem dX4_askFor_2 : decode cX4_askFor 2 = .ok (.invokevirtual 25, 3) := by decide +kernel
theorem dX4_askFor_5 : decode cX4_askFor 5 = .ok (.istore_n 2, 1) := by decide +kernel
theorem dX4_askFor_6 : decode cX4_askFor 6 = .ok (.iconst (-1), 1) := by decide +kernel
theorem dX4_askFor_7 : decode cX4_askFor 7 = .ok (.istore_n 3, 1) := by decide +kernel
theorem dX4_askFor_8 : decode cX4_askFor 8 = .ok (.bipush 6, 2) := by decide +kernel
theorem dX4_askFor_10 : decode cX4_askFor 10 = .ok (.istore 4, 2) := by decide +kernel
theorem dX4_askFor_12 : decode cX4_askFor 12 = .ok (.iconst 0, 1) := by decide +kernel
theorem dX4_askFor_13 : decode cX4_askFor 13 = .ok (.istore 5, 2) := by decide +kernel
theorem dX4_askFor_15 : decode cX4_askFor 15 = .ok (.iload 5, 2) := by decide +kernel
theorem dX4_askFor_17 : decode cX4_askFor 17 = .ok (.iconst 4, 1) := by decide +kernel
theorem dX4_askFor_18 : decode cX4_askFor 18 = .ok (.if_icmp .ge 60, 3) := by decide +kernel
theorem dX4_askFor_21 : decode cX4_askFor 21 = .ok (.iload_n 2, 1) := by decide +kernel
theorem dX4_askFor_22 : decode cX4_askFor 22 = .ok (.getstatic 22, 3) := by decide +kernel
theorem dX4_askFor_25 : decode cX4_askFor 25 = .ok (.iload 5, 2) := by decide +kernel
theorem dX4_askFor_27 : decode cX4_askFor 27 = .ok (.iaload, 1) := by decide +kernel
theorem dX4_askFor_28 : decode cX4_askFor 28 = .ok (.iand, 1) := by decide +kernel
theorem dX4_askFor_29 : decode cX4_askFor 29 = .ok (.invokestatic 29, 3) := by decide +kernel
theorem dX4_askFor_32 : decode cX4_askFor 32 = .ok (.istore 6, 2) := by decide +kernel
theorem dX4_askFor_34 : decode cX4_askFor 34 = .ok (.iload_n 2, 1) := by decide +kernel
theorem dX4_askFor_35 : decode cX4_askFor 35 = .ok (.getstatic 22, 3) := by decide +kernel
theorem dX4_askFor_38 : decode cX4_askFor 38 = .ok (.iload 5, 2) := by decide +kernel
theorem dX4_askFor_40 : decode cX4_askFor 40 = .ok (.iaload, 1) := by decide +kernel
theorem dX4_askFor_41 : decode cX4_askFor 41 = .ok (.iconst (-1), 1) := by decide +kernel
theorem dX4_askFor_42 : decode cX4_askFor 42 = .ok (.ixor, 1) := by decide +kernel
theorem dX4_askFor_43 : decode cX4_askFor 43 = .ok (.iand, 1) := by decide +kernel
theorem dX4_askFor_44 : decode cX4_askFor 44 = .ok (.invokestatic 29, 3) := by decide +kernel
theorem dX4_askFor_47 : decode cX4_askFor 47 = .ok (.istore 7, 2) := by decide +kernel
theorem dX4_askFor_49 : decode cX4_askFor 49 = .ok (.iload 6, 2) := by decide +kernel
theorem dX4_askFor_51 : decode cX4_askFor 51 = .ok (.iload 7, 2) := by decide +kernel
theorem dX4_askFor_53 : decode cX4_askFor 53 = .ok (.invokestatic 34, 3) := by decide +kernel
theorem dX4_askFor_56 : decode cX4_askFor 56 = .ok (.istore 8, 2) := by decide +kernel
theorem dX4_askFor_58 : decode cX4_askFor 58 = .ok (.iload 8, 2) := by decide +kernel
theorem dX4_askFor_60 : decode cX4_askFor 60 = .ok (.iload 4, 2) := by decide +kernel
theorem dX4_askFor_62 : decode cX4_askFor 62 = .ok (.if_icmp .ge 10, 3) := by decide +kernel
theorem dX4_askFor_65 : decode cX4_askFor 65 = .ok (.iload 5, 2) := by decide +kernel
theorem dX4_askFor_67 : decode cX4_askFor 67 = .ok (.istore_n 3, 1) := by decide +kernel
theorem dX4_askFor_68 : decode cX4_askFor 68 = .ok (.iload 8, 2) := by decide +kernel
theorem dX4_askFor_70 : decode cX4_askFor 70 = .ok (.istore 4, 2) := by decide +kernel
theorem dX4_askFor_72 : decode cX4_askFor 72 = .ok (.iinc 5 1, 3) := by decide +kernel
theorem dX4_askFor_75 : decode cX4_askFor 75 = .ok (.goto (-60), 3) := by decide +kernel
theorem dX4_askFor_78 : decode cX4_askFor 78 = .ok (.iload_n 2, 1) := by decide +kernel
theorem dX4_askFor_79 : decode cX4_askFor 79 = .ok (.ifCond .ne 7, 3) := by decide +kernel
theorem dX4_askFor_82 : decode cX4_askFor 82 = .ok (.iconst (-1), 1) := by decide +kernel
theorem dX4_askFor_83 : decode cX4_askFor 83 = .ok (.goto 4, 3) := by decide +kernel
theorem dX4_askFor_86 : decode cX4_askFor 86 = .ok (.iload_n 3, 1) := by decide +kernel
theorem dX4_askFor_87 : decode cX4_askFor 87 = .ok (.ireturn, 1) := by decide +kernel
theorem dX5_init_0 : decode cX5_init 0 = .ok (.aload_n 0, 1) := by decide +kernel
theorem dX5_init_1 : decode cX5_init 1 = .ok (.invokespecial 3, 3) := by decide +kernel
theorem dX5_init_4 : decode cX5_init 4 = .ok (.aload_n 0, 1) := by decide +kernel
theorem dX5_init_5 : decode cX5_init 5 = .ok (.bipush 6, 2) := by decide +kernel
theorem dX5_init_7 : decode cX5_init 7 = .ok (.newarray .int, 2) := by decide +kernel
theorem dX5_init_9 : decode cX5_init 9 = .ok (.putfield 9, 3) := by decide +kernel
theorem dX5_init_12 : decode cX5_init 12 = .ok (.aload_n 0, 1) := by decide +kernel
theorem dX5_init_13 : decode cX5_init 13 = .ok (.bipush 6, 2) := by decide +kernel
theorem dX5_init_15 : decode cX5_init 15 = .ok (.newarray .int, 2) := by decide +kernel
theorem dX5_init_17 : decode cX5_init 17 = .ok (.putfield 15, 3) := by decide +kernel
theorem dX5_init_20 : decode cX5_init 20 = .ok (.aload_n 0, 1) := by decide +kernel
theorem dX5_init_21 : decode cX5_init 21 = .ok (.bipush 6, 2) := by decide +kernel
theorem dX5_init_23 : decode cX5_init 23 = .ok (.newarray .int, 2) := by decide +kernel
theorem dX5_init_25 : decode cX5_init 25 = .ok (.putfield 18, 3) := by decide +kernel
theorem dX5_init_28 : decode cX5_init 28 = .ok (.return_, 1) := by decide +kernel
theorem dX5_add_0 : decode cX5_add 0 = .ok (.aload_n 0, 1) := by decide +kernel
theorem dX5_add_1 : decode cX5_add 1 = .ok (.getfield 21, 3) := by decide +kernel
theorem dX5_add_4 : decode cX5_add 4 = .ok (.bipush 6, 2) := by decide +kernel
theorem dX5_add_6 : decode cX5_add 6 = .ok (.if_icmp .ge 43, 3) := by decide +kernel
theorem dX5_add_9 : decode cX5_add 9 = .ok (.aload_n 0, 1) := by decide +kernel
theorem dX5_add_10 : decode cX5_add 10 = .ok (.getfield 9, 3) := by decide +kernel
theorem dX5_add_13 : decode cX5_add 13 = .ok (.aload_n 0, 1) := by decide +kernel
theorem dX5_add_14 : decode cX5_add 14 = .ok (.getfield 21, 3) := by decide +kernel
theorem dX5_add_17 : decode cX5_add 17 = .ok (.iload_n 1, 1) := by decide +kernel
theorem dX5_add_18 : decode cX5_add 18 = .ok (.iastore, 1) := by decide +kernel
theorem dX5_add_19 : decode cX5_add 19 = .ok (.aload_n 0, 1) := by decide +kernel
theorem dX5_add_20 : decode cX5_add 20 = .ok (.getfield 15, 3) := by decide +kernel
theorem dX5_add_23 : decode cX5_add 23 = .ok (.aload_n 0, 1) := by decide +kernel
theorem dX5_add_24 : decode cX5_add 24 = .ok (.getfield 21, 3) := by decide +kernel
theorem dX5_add_27 : decode cX5_add 27 = .ok (.iload_n 2, 1) := by decide +kernel
theorem dX5_add_28 : decode cX5_add 28 = .ok (.iastore, 1) := by decide +kernel
theorem dX5_add_29 : decode cX5_add 29 = .ok (.aload_n 0, 1) := by decide +kernel
theorem dX5_add_30 : decode cX5_add 30 = .ok (.getfield 18, 3) := by decide +kernel
theorem dX5_add_33 : decode cX5_add 33 = .ok (.aload_n 0, 1) := by decide +kernel
theorem dX5_add_34 : decode cX5_add 34 = .ok (.getfield 21, 3) := by decide +kernel
theorem dX5_add_37 : decode cX5_add 37 = .ok (.iload_n 3, 1) := by decide +kernel
theorem dX5_add_38 : decode cX5_add 38 = .ok (.iastore, 1) := by decide +kernel
theorem dX5_add_39 : decode cX5_add 39 = .ok (.aload_n 0, 1) := by decide +kernel
theorem dX5_add_40 : decode cX5_add 40 = .ok (.dup, 1) := by decide +kernel
theorem dX5_add_41 : decode cX5_add 41 = .ok (.getfield 21, 3) := by decide +kernel
theorem dX5_add_44 : decode cX5_add 44 = .ok (.iconst 1, 1) := by decide +kernel
theorem dX5_add_45 : decode cX5_add 45 = .ok (.iadd, 1) := by decide +kernel
theorem dX5_add_46 : decode cX5_add 46 = .ok (.putfield 21, 3) := by decide +kernel
theorem dX5_add_49 : decode cX5_add 49 = .ok (.return_, 1) := by decide +kernel
theorem dX5_copyFrom_0 : decode cX5_copyFrom 0 = .ok (.aload_n 0, 1) := by decide +kernel
theorem dX5_copyFrom_1 : decode cX5_copyFrom 1 = .ok (.aload_n 1, 1) := by decide +kernel
theorem dX5_copyFrom_2 : decode cX5_copyFrom 2 = .ok (.getfield 21, 3) := by decide +kernel
theorem dX5_copyFrom_5 : decode cX5_copyFrom 5 = .ok (.putfield 21, 3) := by decide +kernel
theorem dX5_copyFrom_8 : decode cX5_copyFrom 8 = .ok (.iconst 0, 1) := by decide +kernel
theorem dX5_copyFrom_9 : decode cX5_copyFrom 9 = .ok (.istore_n 2, 1) := by decide +kernel
theorem dX5_copyFrom_10 : decode cX5_copyFrom 10 = .ok (.iload_n 2, 1) := by decide +kernel
theorem dX5_copyFrom_11 : decode cX5_copyFrom 11 = .ok (.bipush 6, 2) := by decide +kernel
theorem dX5_copyFrom_13 : decode cX5_copyFrom 13 = .ok (.if_icmp .ge 45, 3) := by decide +kernel
theorem dX5_copyFrom_16 : decode cX5_copyFrom 16 = .ok (.aload_n 0, 1) := by decide +kernel
theorem dX5_copyFrom_17 : decode cX5_copyFrom 17 = .ok (.getfield 9, 3) := by decide +kernel
theorem dX5_copyFrom_20 : decode cX5_copyFrom 20 = .ok (.iload_n 2, 1) := by decide +kernel
theorem dX5_copyFrom_21 : decode cX5_copyFrom 21 = .ok (.aload_n 1, 1) := by decide +kernel
theorem dX5_copyFrom_22 : decode cX5_copyFrom 22 = .ok (.getfield 9, 3) := by decide +kernel
theorem dX5_copyFrom_25 : decode cX5_copyFrom 25 = .ok (.iload_n 2, 1) := by decide +kernel
theorem dX5_copyFrom_26 : decode cX5_copyFrom 26 = .ok (.iaload, 1) := by decide +kernel
theorem dX5_copyFrom_27 : decode cX5_copyFrom 27 = .ok (.iastore, 1) := by decide +kernel
theorem dX5_copyFrom_28 : decode cX5_copyFrom 28 = .ok (.aload_n 0, 1) := by decide +kernel
theorem dX5_copyFrom_29 : decode cX5_copyFrom 29 = .ok (.getfield 15, 3) := by decide +kernel
theorem dX5_copyFrom_32 : decode cX5_copyFrom 32 = .ok (.iload_n 2, 1) := by decide +kernel
theorem dX5_copyFrom_33 : decode cX5_copyFrom 33 = .ok (.aload_n 1, 1) := by decide +kernel
theorem dX5_copyFrom_34 : decode cX5_copyFrom 34 = .ok (.getfield 15, 3) := by decide +kernel
theorem dX5_copyFrom_37 : decode cX5_copyFrom 37 = .ok (.iload_n 2, 1) := by decide +kernel
theorem dX5_copyFrom_38 : decode cX5_copyFrom 38 = .ok (.iaload, 1) := by decide +kernel
theorem dX5_copyFrom_39 : decode cX5_copyFrom 39 = .ok (.iastore, 1) := by decide +kernel
theorem dX5_copyFrom_40 : decode cX5_copyFrom 40 = .ok (.aload_n 0, 1) := by decide +kernel
theorem dX5_copyFrom_41 : decode cX5_copyFrom 41 = .ok (.getfield 18, 3) := by decide +kernel
theorem dX5_copyFrom_44 : decode cX5_copyFrom 44 = .ok (.iload_n 2, 1) := by decide +kernel
theorem dX5_copyFrom_45 : decode cX5_copyFrom 45 = .ok (.aload_n 1, 1) := by decide +kernel
theorem dX5_copyFrom_46 : decode cX5_copyFrom 46 = .ok (.getfield 18, 3) := by decide +kernel
theorem dX5_copyFrom_49 : decode cX5_copyFrom 49 = .ok (.iload_n 2, 1) := by decide +kernel
theorem dX5_copyFrom_50 : decode cX5_copyFrom 50 = .ok (.iaload, 1) := by decide +kernel
theorem dX5_copyFrom_51 : decode cX5_copyFrom 51 = .ok (.iastore, 1) := by decide +kernel
theorem dX5_copyFrom_52 : decode cX5_copyFrom 52 = .ok (.iinc 2 1, 3) := by decide +kernel
theorem dX5_copyFrom_55 : decode cX5_copyFrom 55 = .ok (.goto (-45), 3) := by decide +kernel
theorem dX5_copyFrom_58 : decode cX5_copyFrom 58 = .ok (.return_, 1) := by decide +kernel
theorem dX5_comeIn_0 : decode cX5_comeIn 0 = .ok (.iconst 0, 1) := by decide +kernel
theorem dX5_comeIn_1 : decode cX5_comeIn 1 = .ok (.istore_n 3, 1) := by decide +kernel
theorem dX5_comeIn_2 : decode cX5_comeIn 2 = .ok (.iload_n 3, 1) := by decide +kernel
theorem dX5_comeIn_3 : decode cX5_comeIn 3 = .ok (.aload_n 0, 1) := by decide +kernel
theorem dX5_comeIn_4 : decode cX5_comeIn 4 = .ok (.getfield 21, 3) := by decide +kernel
theorem dX5_comeIn_7 : decode cX5_comeIn 7 = .ok (.if_icmp .ge 59, 3) := by decide +kernel
theorem dX5_comeIn_10 : decode cX5_comeIn 10 = .ok (.aload_n 0, 1) := by decide +kernel
theorem dX5_comeIn_11 : decode cX5_comeIn 11 = .ok (.getfield 9, 3) := by decide +kernel
theorem dX5_comeIn_14 : decode cX5_comeIn 14 = .ok (.iload_n 3, 1) := by decide +kernel
theorem dX5_comeIn_15 : decode cX5_comeIn 15 = .ok (.iaload, 1) := by decide +kernel
theorem dX5_comeIn_16 : decode cX5_comeIn 16 = .ok (.iload_n 1, 1) := by decide +kernel
theorem dX5_comeIn_17 : decode cX5_comeIn 17 = .ok (.if_icmp .ne 43, 3) := by decide +kernel
theorem dX5_comeIn_20 : decode cX5_comeIn 20 = .ok (.aload_n 0, 1) := by decide +kernel
theorem dX5_comeIn_21 : decode cX5_comeIn 21 = .ok (.getfield 15, 3) := by decide +kernel
theorem dX5_comeIn_24 : decode cX5_comeIn 24 = .ok (.iload_n 3, 1) := by decide +kernel
theorem dX5_comeIn_25 : decode cX5_comeIn 25 = .ok (.iaload, 1) := by decide +kernel
theorem dX5_comeIn_26 : decode cX5_comeIn 26 = .ok (.iconst 0, 1) := by decide +kernel
theorem dX5_comeIn_27 : decode cX5_comeIn 27 = .ok (.aload_n 2, 1) := by decide +kernel
theorem dX5_comeIn_28 : decode cX5_comeIn 28 = .ok (.getfield 25, 3) := by decide +kernel
theorem dX5_comeIn_31 : decode cX5_comeIn 31 = .ok (.iconst 1, 1) := by decide +kernel
theorem dX5_comeIn_32 : decode cX5_comeIn 32 = .ok (.isub, 1) := by decide +kernel
theorem dX5_comeIn_33 : decode cX5_comeIn 33 = .ok (.invokestatic 28, 3) := by decide +kernel
theorem dX5_comeIn_36 : decode cX5_comeIn 36 = .ok (.ifCond .eq 24, 3) := by decide +kernel
theorem dX5_comeIn_39 : decode cX5_comeIn 39 = .ok (.aload_n 2, 1) := by decide +kernel
theorem dX5_comeIn_40 : decode cX5_comeIn 40 = .ok (.getfield 32, 3) := by decide +kernel
theorem dX5_comeIn_43 : decode cX5_comeIn 43 = .ok (.aload_n 0, 1) := by decide +kernel
theorem dX5_comeIn_44 : decode cX5_comeIn 44 = .ok (.getfield 15, 3) := by decide +kernel
theorem dX5_comeIn_47 : decode cX5_comeIn 47 = .ok (.iload_n 3, 1) := by decide +kernel
theorem dX5_comeIn_48 : decode cX5_comeIn 48 = .ok (.iaload, 1) := by decide +kernel
theorem dX5_comeIn_49 : decode cX5_comeIn 49 = .ok (.aaload, 1) := by decide +kernel
theorem dX5_comeIn_50 : decode cX5_comeIn 50 = .ok (.aload_n 0, 1) := by decide +kernel
theorem dX5_comeIn_51 : decode cX5_comeIn 51 = .ok (.getfield 18, 3) := by decide +kernel
theorem dX5_comeIn_54 : decode cX5_comeIn 54 = .ok (.iload_n 3, 1) := by decide +kernel
theorem dX5_comeIn_55 : decode cX5_comeIn 55 = .ok (.iaload, 1) := by decide +kernel
theorem dX5_comeIn_56 : decode cX5_comeIn 56 = .ok (.invokevirtual 35, 3) := by decide +kernel
theorem dX5_comeIn_59 : decode cX5_comeIn 59 = .ok (.pop, 1) := by decide +kernel
theorem dX5_comeIn_60 : decode cX5_comeIn 60 = .ok (.iinc 3 1, 3) := by decide +kernel
theorem dX5_comeIn_63 : decode cX5_comeIn 63 = .ok (.goto (-61), 3) := by decide +kernel
theorem dX5_comeIn_66 : decode cX5_comeIn 66 = .ok (.return_, 1) := by decide +kernel
theorem dX6_init_0 : decode cX6_init 0 = .ok (.aload_n 0, 1) := by decide +kernel
theorem dX6_init_1 : decode cX6_init 1 = .ok (.invokespecial 3, 3) := by decide +kernel
theorem dX6_init_4 : decode cX6_init 4 = .ok (.aload_n 0, 1) := by decide +kernel
theorem dX6_init_5 : decode cX6_init 5 = .ok (.bipush 7, 2) := by decide +kernel
theorem dX6_init_7 : decode cX6_init 7 = .ok (.newarray .int, 2) := by decide +kernel
theorem dX6_init_9 : decode cX6_init 9 = .ok (.putfield 9, 3) := by decide +kernel
theorem dX6_init_12 : decode cX6_init 12 = .ok (.aload_n 0, 1) := by decide +kernel
theorem dX6_init_13 : decode cX6_init 13 = .ok (.sipush 128, 3) := by decide +kernel
theorem dX6_init_16 : decode cX6_init 16 = .ok (.newarray .int, 2) := by decide +kernel
theorem dX6_init_18 : decode cX6_init 18 = .ok (.putfield 15, 3) := by decide +kernel
theorem dX6_init_21 : decode cX6_init 21 = .ok (.return_, 1) := by decide +kernel
theorem dX6_goBy_0 : decode cX6_goBy 0 = .ok (.iconst 1, 1) := by decide +kernel
theorem dX6_goBy_1 : decode cX6_goBy 1 = .ok (.istore 4, 2) := by decide +kernel
theorem dX6_goBy_3 : decode cX6_goBy 3 = .ok (.iload 4, 2) := by decide +kernel
theorem dX6_goBy_5 : decode cX6_goBy 5 = .ok (.bipush 6, 2) := by decide +kernel
theorem dX6_goBy_7 : decode cX6_goBy 7 = .ok (.if_icmp .gt 31, 3) := by decide +kernel
theorem dX6_goBy_10 : decode cX6_goBy 10 = .ok (.aload_n 0, 1) := by decide +kernel
theorem dX6_goBy_11 : decode cX6_goBy 11 = .ok (.getfield 9, 3) := by decide +kernel
theorem dX6_goBy_14 : decode cX6_goBy 14 = .ok (.iload 4, 2) := by decide +kernel
theorem dX6_goBy_16 : decode cX6_goBy 16 = .ok (.aload_n 0, 1) := by decide +kernel
theorem dX6_goBy_17 : decode cX6_goBy 17 = .ok (.iload 4, 2) := by decide +kernel
theorem dX6_goBy_19 : decode cX6_goBy 19 = .ok (.aload_n 1, 1) := by decide +kernel
theorem dX6_goBy_20 : decode cX6_goBy 20 = .ok (.aload_n 2, 1) := by decide +kernel
theorem dX6_goBy_21 : decode cX6_goBy 21 = .ok (.invokevirtual 18, 3) := by decide +kernel
theorem dX6_goBy_24 : decode cX6_goBy 24 = .ok (.iastore, 1) := by decide +kernel
theorem dX6_goBy_25 : decode cX6_goBy 25 = .ok (.aload_n 3, 1) := by decide +kernel
theorem dX6_goBy_26 : decode cX6_goBy 26 = .ok (.iload 4, 2) := by decide +kernel
theorem dX6_goBy_28 : decode cX6_goBy 28 = .ok (.aload_n 2, 1) := by decide +kernel
theorem dX6_goBy_29 : decode cX6_goBy 29 = .ok (.invokevirtual 22, 3) := by decide +kernel
theorem dX6_goBy_32 : decode cX6_goBy 32 = .ok (.iinc 4 1, 3) := by decide +kernel
theorem dX6_goBy_35 : decode cX6_goBy 35 = .ok (.goto (-32), 3) := by decide +kernel
theorem dX6_goBy_38 : decode cX6_goBy 38 = .ok (.bipush 6, 2) := by decide +kernel
theorem dX6_goBy_40 : decode cX6_goBy 40 = .ok (.istore 4, 2) := by decide +kernel
theorem dX6_goBy_42 : decode cX6_goBy 42 = .ok (.iload 4, 2) := by decide +kernel
theorem dX6_goBy_44 : decode cX6_goBy 44 = .ok (.iconst 1, 1) := by decide +kernel
theorem dX6_goBy_45 : decode cX6_goBy 45 = .ok (.if_icmp .lt 46, 3) := by decide +kernel
theorem dX6_goBy_48 : decode cX6_goBy 48 = .ok (.iconst 0, 1) := by decide +kernel
theorem dX6_goBy_49 : decode cX6_goBy 49 = .ok (.istore 5, 2) := by decide +kernel
theorem dX6_goBy_51 : decode cX6_goBy 51 = .ok (.iload 5, 2) := by decide +kernel
theorem dX6_goBy_53 : decode cX6_goBy 53 = .ok (.bipush 16, 2) := by decide +kernel
theorem dX6_goBy_55 : decode cX6_goBy 55 = .ok (.if_icmp .ge 30, 3) := by decide +kernel
theorem dX6_goBy_58 : decode cX6_goBy 58 = .ok (.aload_n 0, 1) := by decide +kernel
theorem dX6_goBy_59 : decode cX6_goBy 59 = .ok (.getfield 15, 3) := by decide +kernel
theorem dX6_goBy_62 : decode cX6_goBy 62 = .ok (.iload 4, 2) := by decide +kernel
theorem dX6_goBy_64 : decode cX6_goBy 64 = .ok (.bipush 16, 2) := by decide +kernel
theorem dX6_goBy_66 : decode cX6_goBy 66 = .ok (.imul, 1) := by decide +kernel
theorem dX6_goBy_67 : decode cX6_goBy 67 = .ok (.iload 5, 2) := by decide +kernel
theorem dX6_goBy_69 : decode cX6_goBy 69 = .ok (.iadd, 1) := by decide +kernel
theorem dX6_goBy_70 : decode cX6_goBy 70 = .ok (.aload_n 0, 1) := by decide +kernel
theorem dX6_goBy_71 : decode cX6_goBy 71 = .ok (.iload 4, 2) := by decide +kernel
theorem dX6_goBy_73 : decode cX6_goBy 73 = .ok (.iload 5, 2) := by decide +kernel
theorem dX6_goBy_75 : decode cX6_goBy 75 = .ok (.invokevirtual 28, 3) := by decide +kernel
theorem dX6_goBy_78 : decode cX6_goBy 78 = .ok (.iastore, 1) := by decide +kernel
theorem dX6_goBy_79 : decode cX6_goBy 79 = .ok (.iinc 5 1, 3) := by decide +kernel
theorem dX6_goBy_82 : decode cX6_goBy 82 = .ok (.goto (-31), 3) := by decide +kernel
theorem dX6_goBy_85 : decode cX6_goBy 85 = .ok (.iinc 4 (-1), 3) := by decide +kernel
theorem dX6_goBy_88 : decode cX6_goBy 88 = .ok (.goto (-46), 3) := by decide +kernel
theorem dX6_goBy_91 : decode cX6_goBy 91 = .ok (.return_, 1) := by decide +kernel
theorem dX6_winnableOn_0 : decode cX6_winnableOn 0 = .ok (.iconst 0, 1) := by decide +kernel
theorem dX6_winnableOn_1 : decode cX6_winnableOn 1 = .ok (.istore 4, 2) := by decide +kernel
theorem dX6_winnableOn_3 : decode cX6_winnableOn 3 = .ok (.iconst 0, 1) := by decide +kernel
theorem dX6_winnableOn_4 : decode cX6_winnableOn 4 = .ok (.istore 5, 2) := by decide +kernel
theorem dX6_winnableOn_6 : decode cX6_winnableOn 6 = .ok (.iload 5, 2) := by decide +kernel
theorem dX6_winnableOn_8 : decode cX6_winnableOn 8 = .ok (.aload_n 2, 1) := by decide +kernel
theorem dX6_winnableOn_9 : decode cX6_winnableOn 9 = .ok (.getfield 32, 3) := by decide +kernel
theorem dX6_winnableOn_12 : decode cX6_winnableOn 12 = .ok (.if_icmp .ge 48, 3) := by decide +kernel
theorem dX6_winnableOn_15 : decode cX6_winnableOn 15 = .ok (.aload_n 2, 1) := by decide +kernel
theorem dX6_winnableOn_16 : decode cX6_winnableOn 16 = .ok (.getfield 38, 3) := by decide +kernel
theorem dX6_winnableOn_19 : decode cX6_winnableOn 19 = .ok (.iload 5, 2) := by decide +kernel
theorem dX6_winnableOn_21 : decode cX6_winnableOn 21 = .ok (.iaload, 1) := by decide +kernel
theorem dX6_winnableOn_22 : decode cX6_winnableOn 22 = .ok (.iload_n 1, 1) := by decide +kernel
theorem dX6_winnableOn_23 : decode cX6_winnableOn 23 = .ok (.if_icmp .lt 31, 3) := by decide +kernel
theorem dX6_winnableOn_26 : decode cX6_winnableOn 26 = .ok (.aload_n 3, 1) := by decide +kernel
theorem dX6_winnableOn_27 : decode cX6_winnableOn 27 = .ok (.aload_n 3, 1) := by decide +kernel
theorem dX6_winnableOn_28 : decode cX6_winnableOn 28 = .ok (.invokevirtual 41, 3) := by decide +kernel
theorem dX6_winnableOn_31 : decode cX6_winnableOn 31 = .ok (.aload_n 2, 1) := by decide +kernel
theorem dX6_winnableOn_32 : decode cX6_winnableOn 32 = .ok (.getfield 47, 3) := by decide +kernel
theorem dX6_winnableOn_35 : decode cX6_winnableOn 35 = .ok (.iload 5, 2) := by decide +kernel
theorem dX6_winnableOn_37 : decode cX6_winnableOn 37 = .ok (.iaload, 1) := by decide +kernel
theorem dX6_winnableOn_38 : decode cX6_winnableOn 38 = .ok (.invokevirtual 50, 3) := by decide +kernel
theorem dX6_winnableOn_41 : decode cX6_winnableOn 41 = .ok (.iconst (-1), 1) := by decide +kernel
theorem dX6_winnableOn_42 : decode cX6_winnableOn 42 = .ok (.if_icmp .eq 12, 3) := by decide +kernel
theorem dX6_winnableOn_45 : decode cX6_winnableOn 45 = .ok (.iload 4, 2) := by decide +kernel
theorem dX6_winnableOn_47 : decode cX6_winnableOn 47 = .ok (.iconst 1, 1) := by decide +kernel
theorem dX6_winnableOn_48 : decode cX6_winnableOn 48 = .ok (.iload 5, 2) := by decide +kernel
theorem dX6_winnableOn_50 : decode cX6_winnableOn 50 = .ok (.ishl, 1) := by decide +kernel
theorem dX6_winnableOn_51 : decode cX6_winnableOn 51 = .ok (.ior, 1) := by decide +kernel
theorem dX6_winnableOn_52 : decode cX6_winnableOn 52 = .ok (.istore 4, 2) := by decide +kernel
theorem dX6_winnableOn_54 : decode cX6_winnableOn 54 = .ok (.iinc 5 1, 3) := by decide +kernel
theorem dX6_winnableOn_57 : decode cX6_winnableOn 57 = .ok (.goto (-51), 3) := by decide +kernel
theorem dX6_winnableOn_60 : decode cX6_winnableOn 60 = .ok (.iload 4, 2) := by decide +kernel
theorem dX6_winnableOn_62 : decode cX6_winnableOn 62 = .ok (.ireturn, 1) := by decide +kernel
theorem dX6_mostFrom_0 : decode cX6_mostFrom 0 = .ok (.iconst 0, 1) := by decide +kernel
theorem dX6_mostFrom_1 : decode cX6_mostFrom 1 = .ok (.istore_n 3, 1) := by decide +kernel
theorem dX6_mostFrom_2 : decode cX6_mostFrom 2 = .ok (.iconst 0, 1) := by decide +kernel
theorem dX6_mostFrom_3 : decode cX6_mostFrom 3 = .ok (.istore 4, 2) := by decide +kernel
theorem dX6_mostFrom_5 : decode cX6_mostFrom 5 = .ok (.iload 4, 2) := by decide +kernel
theorem dX6_mostFrom_7 : decode cX6_mostFrom 7 = .ok (.iconst 4, 1) := by decide +kernel
theorem dX6_mostFrom_8 : decode cX6_mostFrom 8 = .ok (.if_icmp .gt 22, 3) := by decide +kernel
theorem dX6_mostFrom_11 : decode cX6_mostFrom 11 = .ok (.iload_n 3, 1) := by decide +kernel
theorem dX6_mostFrom_12 : decode cX6_mostFrom 12 = .ok (.aload_n 0, 1) := by decide +kernel
theorem dX6_mostFrom_13 : decode cX6_mostFrom 13 = .ok (.iload 4, 2) := by decide +kernel
theorem dX6_mostFrom_15 : decode cX6_mostFrom 15 = .ok (.iload_n 1, 1) := by decide +kernel
theorem dX6_mostFrom_16 : decode cX6_mostFrom 16 = .ok (.iload_n 2, 1) := by decide +kernel
theorem dX6_mostFrom_17 : decode cX6_mostFrom 17 = .ok (.invokevirtual 53, 3) := by decide +kernel
theorem dX6_mostFrom_20 : decode cX6_mostFrom 20 = .ok (.invokestatic 57, 3) := by decide +kernel
theorem dX6_mostFrom_23 : decode cX6_mostFrom 23 = .ok (.istore_n 3, 1) := by decide +kernel
theorem dX6_mostFrom_24 : decode cX6_mostFrom 24 = .ok (.iinc 4 1, 3) := by decide +kernel
theorem dX6_mostFrom_27 : decode cX6_mostFrom 27 = .ok (.goto (-22), 3) := by decide +kernel
theorem dX6_mostFrom_30 : decode cX6_mostFrom 30 = .ok (.iload_n 3, 1) := by decide +kernel
theorem dX6_mostFrom_31 : decode cX6_mostFrom 31 = .ok (.ireturn, 1) := by decide +kernel
theorem dX6_wonBy_0 : decode cX6_wonBy 0 = .ok (.iload_n 2, 1) := by decide +kernel
theorem dX6_wonBy_1 : decode cX6_wonBy 1 = .ok (.iconst 1, 1) := by decide +kernel
theorem dX6_wonBy_2 : decode cX6_wonBy 2 = .ok (.iadd, 1) := by decide +kernel
theorem dX6_wonBy_3 : decode cX6_wonBy 3 = .ok (.bipush 16, 2) := by decide +kernel
theorem dX6_wonBy_5 : decode cX6_wonBy 5 = .ok (.imul, 1) := by decide +kernel
theorem dX6_wonBy_6 : decode cX6_wonBy 6 = .ok (.istore 4, 2) := by decide +kernel
theorem dX6_wonBy_8 : decode cX6_wonBy 8 = .ok (.iload_n 1, 1) := by decide +kernel
theorem dX6_wonBy_9 : decode cX6_wonBy 9 = .ok (.ifCond .ne 13, 3) := by decide +kernel
theorem dX6_wonBy_12 : decode cX6_wonBy 12 = .ok (.aload_n 0, 1) := by decide +kernel
theorem dX6_wonBy_13 : decode cX6_wonBy 13 = .ok (.getfield 15, 3) := by decide +kernel
theorem dX6_wonBy_16 : decode cX6_wonBy 16 = .ok (.iload 4, 2) := by decide +kernel
theorem dX6_wonBy_18 : decode cX6_wonBy 18 = .ok (.iload_n 3, 1) := by decide +kernel
theorem dX6_wonBy_19 : decode cX6_wonBy 19 = .ok (.iadd, 1) := by decide +kernel
theorem dX6_wonBy_20 : decode cX6_wonBy 20 = .ok (.iaload, 1) := by decide +kernel
theorem dX6_wonBy_21 : decode cX6_wonBy 21 = .ok (.ireturn, 1) := by decide +kernel
theorem dX6_wonBy_22 : decode cX6_wonBy 22 = .ok (.iconst 1, 1) := by decide +kernel
theorem dX6_wonBy_23 : decode cX6_wonBy 23 = .ok (.iload_n 1, 1) := by decide +kernel
theorem dX6_wonBy_24 : decode cX6_wonBy 24 = .ok (.iconst 1, 1) := by decide +kernel
theorem dX6_wonBy_25 : decode cX6_wonBy 25 = .ok (.isub, 1) := by decide +kernel
theorem dX6_wonBy_26 : decode cX6_wonBy 26 = .ok (.ishl, 1) := by decide +kernel
theorem dX6_wonBy_27 : decode cX6_wonBy 27 = .ok (.istore 5, 2) := by decide +kernel
theorem dX6_wonBy_29 : decode cX6_wonBy 29 = .ok (.aload_n 0, 1) := by decide +kernel
theorem dX6_wonBy_30 : decode cX6_wonBy 30 = .ok (.getfield 9, 3) := by decide +kernel
theorem dX6_wonBy_33 : decode cX6_wonBy 33 = .ok (.iload_n 2, 1) := by decide +kernel
theorem dX6_wonBy_34 : decode cX6_wonBy 34 = .ok (.iaload, 1) := by decide +kernel
theorem dX6_wonBy_35 : decode cX6_wonBy 35 = .ok (.iload_n 3, 1) := by decide +kernel
theorem dX6_wonBy_36 : decode cX6_wonBy 36 = .ok (.iconst (-1), 1) := by decide +kernel
theorem dX6_wonBy_37 : decode cX6_wonBy 37 = .ok (.ixor, 1) := by decide +kernel
theorem dX6_wonBy_38 : decode cX6_wonBy 38 = .ok (.iand, 1) := by decide +kernel
theorem dX6_wonBy_39 : decode cX6_wonBy 39 = .ok (.iload 5, 2) := by decide +kernel
theorem dX6_wonBy_41 : decode cX6_wonBy 41 = .ok (.iand, 1) := by decide +kernel
theorem dX6_wonBy_42 : decode cX6_wonBy 42 = .ok (.ifCond .eq 7, 3) := by decide +kernel
theorem dX6_wonBy_45 : decode cX6_wonBy 45 = .ok (.iconst 1, 1) := by decide +kernel
theorem dX6_wonBy_46 : decode cX6_wonBy 46 = .ok (.goto 4, 3) := by decide +kernel
theorem dX6_wonBy_49 : decode cX6_wonBy 49 = .ok (.iconst 0, 1) := by decide +kernel
theorem dX6_wonBy_50 : decode cX6_wonBy 50 = .ok (.istore 6, 2) := by decide +kernel
theorem dX6_wonBy_52 : decode cX6_wonBy 52 = .ok (.iload 6, 2) := by decide +kernel
theorem dX6_wonBy_54 : decode cX6_wonBy 54 = .ok (.ifCond .eq 20, 3) := by decide +kernel
theorem dX6_wonBy_57 : decode cX6_wonBy 57 = .ok (.iconst 1, 1) := by decide +kernel
theorem dX6_wonBy_58 : decode cX6_wonBy 58 = .ok (.aload_n 0, 1) := by decide +kernel
theorem dX6_wonBy_59 : decode cX6_wonBy 59 = .ok (.getfield 15, 3) := by decide +kernel
theorem dX6_wonBy_62 : decode cX6_wonBy 62 = .ok (.iload 4, 2) := by decide +kernel
theorem dX6_wonBy_64 : decode cX6_wonBy 64 = .ok (.iload_n 3, 1) := by decide +kernel
theorem dX6_wonBy_65 : decode cX6_wonBy 65 = .ok (.iload 5, 2) := by decide +kernel
theorem dX6_wonBy_67 : decode cX6_wonBy 67 = .ok (.ior, 1) := by decide +kernel
theorem dX6_wonBy_68 : decode cX6_wonBy 68 = .ok (.iadd, 1) := by decide +kernel
theorem dX6_wonBy_69 : decode cX6_wonBy 69 = .ok (.iaload, 1) := by decide +kernel
theorem dX6_wonBy_70 : decode cX6_wonBy 70 = .ok (.iadd, 1) := by decide +kernel
theorem dX6_wonBy_71 : decode cX6_wonBy 71 = .ok (.goto 4, 3) := by decide +kernel
theorem dX6_wonBy_74 : decode cX6_wonBy 74 = .ok (.iconst (-1), 1) := by decide +kernel
theorem dX6_wonBy_75 : decode cX6_wonBy 75 = .ok (.ireturn, 1) := by decide +kernel
theorem dX6_mostWon_0 : decode cX6_mostWon 0 = .ok (.aload_n 0, 1) := by decide +kernel
theorem dX6_mostWon_1 : decode cX6_mostWon 1 = .ok (.getfield 15, 3) := by decide +kernel
theorem dX6_mostWon_4 : decode cX6_mostWon 4 = .ok (.bipush 16, 2) := by decide +kernel
theorem dX6_mostWon_6 : decode cX6_mostWon 6 = .ok (.iaload, 1) := by decide +kernel
theorem dX6_mostWon_7 : decode cX6_mostWon 7 = .ok (.ireturn, 1) := by decide +kernel
theorem dX6_leastOrder_0 : decode cX6_leastOrder 0 = .ok (.iconst 0, 1) := by decide +kernel
theorem dX6_leastOrder_1 : decode cX6_leastOrder 1 = .ok (.istore_n 1, 1) := by decide +kernel
theorem dX6_leastOrder_2 : decode cX6_leastOrder 2 = .ok (.iconst 0, 1) := by decide +kernel
theorem dX6_leastOrder_3 : decode cX6_leastOrder 3 = .ok (.istore_n 2, 1) := by decide +kernel
theorem dX6_leastOrder_4 : decode cX6_leastOrder 4 = .ok (.iconst 1, 1) := by decide +kernel
theorem dX6_leastOrder_5 : decode cX6_leastOrder 5 = .ok (.istore_n 3, 1) := by decide +kernel
theorem dX6_leastOrder_6 : decode cX6_leastOrder 6 = .ok (.iload_n 3, 1) := by decide +kernel
theorem dX6_leastOrder_7 : decode cX6_leastOrder 7 = .ok (.bipush 6, 2) := by decide +kernel
theorem dX6_leastOrder_9 : decode cX6_leastOrder 9 = .ok (.if_icmp .gt 43, 3) := by decide +kernel
theorem dX6_leastOrder_12 : decode cX6_leastOrder 12 = .ok (.aload_n 0, 1) := by decide +kernel
theorem dX6_leastOrder_13 : decode cX6_leastOrder 13 = .ok (.iload_n 3, 1) := by decide +kernel
theorem dX6_leastOrder_14 : decode cX6_leastOrder 14 = .ok (.iload_n 2, 1) := by decide +kernel
theorem dX6_leastOrder_15 : decode cX6_leastOrder 15 = .ok (.invokevirtual 62, 3) := by decide +kernel
theorem dX6_leastOrder_18 : decode cX6_leastOrder 18 = .ok (.istore 4, 2) := by decide +kernel
theorem dX6_leastOrder_20 : decode cX6_leastOrder 20 = .ok (.iload_n 1, 1) := by decide +kernel
theorem dX6_leastOrder_21 : decode cX6_leastOrder 21 = .ok (.bipush 10, 2) := by decide +kernel
theorem dX6_leastOrder_23 : decode cX6_leastOrder 23 = .ok (.imul, 1) := by decide +kernel
theorem dX6_leastOrder_24 : decode cX6_leastOrder 24 = .ok (.iload 4, 2) := by decide +kernel
theorem dX6_leastOrder_26 : decode cX6_leastOrder 26 = .ok (.iadd, 1) := by decide +kernel
theorem dX6_leastOrder_27 : decode cX6_leastOrder 27 = .ok (.istore_n 1, 1) := by decide +kernel
theorem dX6_leastOrder_28 : decode cX6_leastOrder 28 = .ok (.iload_n 2, 1) := by decide +kernel
theorem dX6_leastOrder_29 : decode cX6_leastOrder 29 = .ok (.iload 4, 2) := by decide +kernel
theorem dX6_leastOrder_31 : decode cX6_leastOrder 31 = .ok (.ifCond .ne 7, 3) := by decide +kernel
theorem dX6_leastOrder_34 : decode cX6_leastOrder 34 = .ok (.iconst 0, 1) := by decide +kernel
theorem dX6_leastOrder_35 : decode cX6_leastOrder 35 = .ok (.goto 9, 3) := by decide +kernel
theorem dX6_leastOrder_38 : decode cX6_leastOrder 38 = .ok (.iconst 1, 1) := by decide +kernel
theorem dX6_leastOrder_39 : decode cX6_leastOrder 39 = .ok (.iload 4, 2) := by decide +kernel
theorem dX6_leastOrder_41 : decode cX6_leastOrder 41 = .ok (.iconst 1, 1) := by decide +kernel
theorem dX6_leastOrder_42 : decode cX6_leastOrder 42 = .ok (.isub, 1) := by decide +kernel
theorem dX6_leastOrder_43 : decode cX6_leastOrder 43 = .ok (.ishl, 1) := by decide +kernel
theorem dX6_leastOrder_44 : decode cX6_leastOrder 44 = .ok (.ior, 1) := by decide +kernel
theorem dX6_leastOrder_45 : decode cX6_leastOrder 45 = .ok (.istore_n 2, 1) := by decide +kernel
theorem dX6_leastOrder_46 : decode cX6_leastOrder 46 = .ok (.iinc 3 1, 3) := by decide +kernel
theorem dX6_leastOrder_49 : decode cX6_leastOrder 49 = .ok (.goto (-43), 3) := by decide +kernel
theorem dX6_leastOrder_52 : decode cX6_leastOrder 52 = .ok (.iload_n 1, 1) := by decide +kernel
theorem dX6_leastOrder_53 : decode cX6_leastOrder 53 = .ok (.ireturn, 1) := by decide +kernel
theorem dX6_leastChoice_0 : decode cX6_leastChoice 0 = .ok (.iconst 0, 1) := by decide +kernel
theorem dX6_leastChoice_1 : decode cX6_leastChoice 1 = .ok (.istore_n 3, 1) := by decide +kernel
theorem dX6_leastChoice_2 : decode cX6_leastChoice 2 = .ok (.iload_n 3, 1) := by decide +kernel
theorem dX6_leastChoice_3 : decode cX6_leastChoice 3 = .ok (.iconst 4, 1) := by decide +kernel
theorem dX6_leastChoice_4 : decode cX6_leastChoice 4 = .ok (.if_icmp .ge 32, 3) := by decide +kernel
theorem dX6_leastChoice_7 : decode cX6_leastChoice 7 = .ok (.aload_n 0, 1) := by decide +kernel
theorem dX6_leastChoice_8 : decode cX6_leastChoice 8 = .ok (.iload_n 3, 1) := by decide +kernel
theorem dX6_leastChoice_9 : decode cX6_leastChoice 9 = .ok (.iload_n 1, 1) := by decide +kernel
theorem dX6_leastChoice_10 : decode cX6_leastChoice 10 = .ok (.iload_n 2, 1) := by decide +kernel
theorem dX6_leastChoice_11 : decode cX6_leastChoice 11 = .ok (.invokevirtual 53, 3) := by decide +kernel
theorem dX6_leastChoice_14 : decode cX6_leastChoice 14 = .ok (.aload_n 0, 1) := by decide +kernel
theorem dX6_leastChoice_15 : decode cX6_leastChoice 15 = .ok (.getfield 15, 3) := by decide +kernel
theorem dX6_leastChoice_18 : decode cX6_leastChoice 18 = .ok (.iload_n 1, 1) := by decide +kernel
theorem dX6_leastChoice_19 : decode cX6_leastChoice 19 = .ok (.bipush 16, 2) := by decide +kernel
theorem dX6_leastChoice_21 : decode cX6_leastChoice 21 = .ok (.imul, 1) := by decide +kernel
theorem dX6_leastChoice_22 : decode cX6_leastChoice 22 = .ok (.iload_n 2, 1) := by decide +kernel
theorem dX6_leastChoice_23 : decode cX6_leastChoice 23 = .ok (.iadd, 1) := by decide +kernel
theorem dX6_leastChoice_24 : decode cX6_leastChoice 24 = .ok (.iaload, 1) := by decide +kernel
theorem dX6_leastChoice_25 : decode cX6_leastChoice 25 = .ok (.if_icmp .ne 5, 3) := by decide +kernel
theorem dX6_leastChoice_28 : decode cX6_leastChoice 28 = .ok (.iload_n 3, 1) := by decide +kernel
theorem dX6_leastChoice_29 : decode cX6_leastChoice 29 = .ok (.ireturn, 1) := by decide +kernel
theorem dX6_leastChoice_30 : decode cX6_leastChoice 30 = .ok (.iinc 3 1, 3) := by decide +kernel
theorem dX6_leastChoice_33 : decode cX6_leastChoice 33 = .ok (.goto (-31), 3) := by decide +kernel
theorem dX6_leastChoice_36 : decode cX6_leastChoice 36 = .ok (.iconst 4, 1) := by decide +kernel
theorem dX6_leastChoice_37 : decode cX6_leastChoice 37 = .ok (.ireturn, 1) := by decide +kernel
theorem dX7_init_0 : decode cX7_init 0 = .ok (.aload_n 0, 1) := by decide +kernel
theorem dX7_init_1 : decode cX7_init 1 = .ok (.invokespecial 3, 3) := by decide +kernel
theorem dX7_init_4 : decode cX7_init 4 = .ok (.aload_n 0, 1) := by decide +kernel
theorem dX7_init_5 : decode cX7_init 5 = .ok (.iconst 3, 1) := by decide +kernel
theorem dX7_init_6 : decode cX7_init 6 = .ok (.newarray .int, 2) := by decide +kernel
theorem dX7_init_8 : decode cX7_init 8 = .ok (.putfield 9, 3) := by decide +kernel
theorem dX7_init_11 : decode cX7_init 11 = .ok (.return_, 1) := by decide +kernel
theorem dX7_beginAs_0 : decode cX7_beginAs 0 = .ok (.aload_n 0, 1) := by decide +kernel
theorem dX7_beginAs_1 : decode cX7_beginAs 1 = .ok (.iload_n 1, 1) := by decide +kernel
theorem dX7_beginAs_2 : decode cX7_beginAs 2 = .ok (.putfield 15, 3) := by decide +kernel
theorem dX7_beginAs_5 : decode cX7_beginAs 5 = .ok (.aload_n 0, 1) := by decide +kernel
theorem dX7_beginAs_6 : decode cX7_beginAs 6 = .ok (.iconst 0, 1) := by decide +kernel
theorem dX7_beginAs_7 : decode cX7_beginAs 7 = .ok (.putfield 19, 3) := by decide +kernel
theorem dX7_beginAs_10 : decode cX7_beginAs 10 = .ok (.return_, 1) := by decide +kernel
theorem dX7_copyFrom_0 : decode cX7_copyFrom 0 = .ok (.aload_n 0, 1) := by decide +kernel
theorem dX7_copyFrom_1 : decode cX7_copyFrom 1 = .ok (.aload_n 1, 1) := by decide +kernel
theorem dX7_copyFrom_2 : decode cX7_copyFrom 2 = .ok (.getfield 15, 3) := by decide +kernel
theorem dX7_copyFrom_5 : decode cX7_copyFrom 5 = .ok (.putfield 15, 3) := by decide +kernel
theorem dX7_copyFrom_8 : decode cX7_copyFrom 8 = .ok (.aload_n 0, 1) := by decide +kernel
theorem dX7_copyFrom_9 : decode cX7_copyFrom 9 = .ok (.aload_n 1, 1) := by decide +kernel
theorem dX7_copyFrom_10 : decode cX7_copyFrom 10 = .ok (.getfield 19, 3) := by decide +kernel
theorem dX7_copyFrom_13 : decode cX7_copyFrom 13 = .ok (.putfield 19, 3) := by decide +kernel
theorem dX7_copyFrom_16 : decode cX7_copyFrom 16 = .ok (.iconst 0, 1) := by decide +kernel
theorem dX7_copyFrom_17 : decode cX7_copyFrom 17 = .ok (.istore_n 2, 1) := by decide +kernel
theorem dX7_copyFrom_18 : decode cX7_copyFrom 18 = .ok (.iload_n 2, 1) := by decide +kernel
theorem dX7_copyFrom_19 : decode cX7_copyFrom 19 = .ok (.iconst 3, 1) := by decide +kernel
theorem dX7_copyFrom_20 : decode cX7_copyFrom 20 = .ok (.if_icmp .ge 21, 3) := by decide +kernel
theorem dX7_copyFrom_23 : decode cX7_copyFrom 23 = .ok (.aload_n 0, 1) := by decide +kernel
theorem dX7_copyFrom_24 : decode cX7_copyFrom 24 = .ok (.getfield 9, 3) := by decide +kernel
theorem dX7_copyFrom_27 : decode cX7_copyFrom 27 = .ok (.iload_n 2, 1) := by decide +kernel
theorem dX7_copyFrom_28 : decode cX7_copyFrom 28 = .ok (.aload_n 1, 1) := by decide +kernel
theorem dX7_copyFrom_29 : decode cX7_copyFrom 29 = .ok (.getfield 9, 3) := by decide +kernel
theorem dX7_copyFrom_32 : decode cX7_copyFrom 32 = .ok (.iload_n 2, 1) := by decide +kernel
theorem dX7_copyFrom_33 : decode cX7_copyFrom 33 = .ok (.iaload, 1) := by decide +kernel
theorem dX7_copyFrom_34 : decode cX7_copyFrom 34 = .ok (.iastore, 1) := by decide +kernel
theorem dX7_copyFrom_35 : decode cX7_copyFrom 35 = .ok (.iinc 2 1, 3) := by decide +kernel
theorem dX7_copyFrom_38 : decode cX7_copyFrom 38 = .ok (.goto (-20), 3) := by decide +kernel
theorem dX7_copyFrom_41 : decode cX7_copyFrom 41 = .ok (.return_, 1) := by decide +kernel
theorem dX7_isSuch_0 : decode cX7_isSuch 0 = .ok (.iload_n 1, 1) := by decide +kernel
theorem dX7_isSuch_1 : decode cX7_isSuch 1 = .ok (.ifCond .eq 24, 3) := by decide +kernel
theorem dX7_isSuch_4 : decode cX7_isSuch 4 = .ok (.iload_n 1, 1) := by decide +kernel
theorem dX7_isSuch_5 : decode cX7_isSuch 5 = .ok (.aload_n 0, 1) := by decide +kernel
theorem dX7_isSuch_6 : decode cX7_isSuch 6 = .ok (.getfield 15, 3) := by decide +kernel
theorem dX7_isSuch_9 : decode cX7_isSuch 9 = .ok (.if_icmp .eq 16, 3) := by decide +kernel
theorem dX7_isSuch_12 : decode cX7_isSuch 12 = .ok (.iload_n 1, 1) := by decide +kernel
theorem dX7_isSuch_13 : decode cX7_isSuch 13 = .ok (.iconst 3, 1) := by decide +kernel
theorem dX7_isSuch_14 : decode cX7_isSuch 14 = .ok (.if_icmp .ne 15, 3) := by decide +kernel
theorem dX7_isSuch_17 : decode cX7_isSuch 17 = .ok (.aload_n 0, 1) := by decide +kernel
theorem dX7_isSuch_18 : decode cX7_isSuch 18 = .ok (.getfield 15, 3) := by decide +kernel
theorem dX7_isSuch_21 : decode cX7_isSuch 21 = .ok (.iconst 4, 1) := by decide +kernel
theorem dX7_isSuch_22 : decode cX7_isSuch 22 = .ok (.if_icmp .ne 7, 3) := by decide +kernel
theorem dX7_isSuch_25 : decode cX7_isSuch 25 = .ok (.iconst 1, 1) := by decide +kernel
theorem dX7_isSuch_26 : decode cX7_isSuch 26 = .ok (.goto 4, 3) := by decide +kernel
theorem dX7_isSuch_29 : decode cX7_isSuch 29 = .ok (.iconst 0, 1) := by decide +kernel
theorem dX7_isSuch_30 : decode cX7_isSuch 30 = .ok (.ireturn, 1) := by decide +kernel
theorem dX7_hasSight_0 : decode cX7_hasSight 0 = .ok (.iconst 0, 1) := by decide +kernel
theorem dX7_hasSight_1 : decode cX7_hasSight 1 = .ok (.istore_n 2, 1) := by decide +kernel
theorem dX7_hasSight_2 : decode cX7_hasSight 2 = .ok (.iload_n 2, 1) := by decide +kernel
theorem dX7_hasSight_3 : decode cX7_hasSight 3 = .ok (.aload_n 0, 1) := by decide +kernel
theorem dX7_hasSight_4 : decode cX7_hasSight 4 = .ok (.getfield 19, 3) := by decide +kernel
theorem dX7_hasSight_7 : decode cX7_hasSight 7 = .ok (.if_icmp .ge 21, 3) := by decide +kernel
theorem dX7_hasSight_10 : decode cX7_hasSight 10 = .ok (.aload_n 0, 1) := by decide +kernel
theorem dX7_hasSight_11 : decode cX7_hasSight 11 = .ok (.getfield 9, 3) := by decide +kernel
theorem dX7_hasSight_14 : decode cX7_hasSight 14 = .ok (.iload_n 2, 1) := by decide +kernel
theorem dX7_hasSight_15 : decode cX7_hasSight 15 = .ok (.iaload, 1) := by decide +kernel
theorem dX7_hasSight_16 : decode cX7_hasSight 16 = .ok (.iload_n 1, 1) := by decide +kernel
theorem dX7_hasSight_17 : decode cX7_hasSight 17 = .ok (.if_icmp .ne 5, 3) := by decide +kernel
theorem dX7_hasSight_20 : decode cX7_hasSight 20 = .ok (.iconst 1, 1) := by decide +kernel
theorem dX7_hasSight_21 : decode cX7_hasSight 21 = .ok (.ireturn, 1) := by decide +kernel
theorem dX7_hasSight_22 : decode cX7_hasSight 22 = .ok (.iinc 2 1, 3) := by decide +kernel
theorem dX7_hasSight_25 : decode cX7_hasSight 25 = .ok (.goto (-23), 3) := by decide +kernel
theorem dX7_hasSight_28 : decode cX7_hasSight 28 = .ok (.iconst 0, 1) := by decide +kernel
theorem dX7_hasSight_29 : decode cX7_hasSight 29 = .ok (.ireturn, 1) := by decide +kernel
theorem dX7_hasOtherColour_0 : decode cX7_hasOtherColour 0 = .ok (.iconst 0, 1) := by decide +kernel
theorem dX7_hasOtherColour_1 : decode cX7_hasOtherColour 1 = .ok (.istore_n 3, 1) := by decide +kernel
theorem dX7_hasOtherColour_2 : decode cX7_hasOtherColour 2 = .ok (.iload_n 3, 1) := by decide +kernel
theorem dX7_hasOtherColour_3 : decode cX7_hasOtherColour 3 = .ok (.aload_n 0, 1) := by decide +kernel
theorem dX7_hasOtherColour_4 : decode cX7_hasOtherColour 4 = .ok (.getfield 19, 3) := by decide +kernel
theorem dX7_hasOtherColour_7 : decode cX7_hasOtherColour 7 = .ok (.if_icmp .ge 35, 3) := by decide +kernel
theorem dX7_hasOtherColour_10 : decode cX7_hasOtherColour 10 = .ok (.aload_n 0, 1) := by decide +kernel
theorem dX7_hasOtherColour_11 : decode cX7_hasOtherColour 11 = .ok (.getfield 9, 3) := by decide +kernel
theorem dX7_hasOtherColour_14 : decode cX7_hasOtherColour 14 = .ok (.iload_n 3, 1) := by decide +kernel
theorem dX7_hasOtherColour_15 : decode cX7_hasOtherColour 15 = .ok (.iaload, 1) := by decide +kernel
theorem dX7_hasOtherColour_16 : decode cX7_hasOtherColour 16 = .ok (.iconst 4, 1) := by decide +kernel
theorem dX7_hasOtherColour_17 : decode cX7_hasOtherColour 17 = .ok (.idiv, 1) := by decide +kernel
theorem dX7_hasOtherColour_18 : decode cX7_hasOtherColour 18 = .ok (.iload_n 1, 1) := by decide +kernel
theorem dX7_hasOtherColour_19 : decode cX7_hasOtherColour 19 = .ok (.if_icmp .ne 17, 3) := by decide +kernel
theorem dX7_hasOtherColour_22 : decode cX7_hasOtherColour 22 = .ok (.aload_n 0, 1) := by decide +kernel
theorem dX7_hasOtherColour_23 : decode cX7_hasOtherColour 23 = .ok (.getfield 9, 3) := by decide +kernel
theorem dX7_hasOtherColour_26 : decode cX7_hasOtherColour 26 = .ok (.iload_n 3, 1) := by decide +kernel
theorem dX7_hasOtherColour_27 : decode cX7_hasOtherColour 27 = .ok (.iaload, 1) := by decide +kernel
theorem dX7_hasOtherColour_28 : decode cX7_hasOtherColour 28 = .ok (.iconst 4, 1) := by decide +kernel
theorem dX7_hasOtherColour_29 : decode cX7_hasOtherColour 29 = .ok (.irem, 1) := by decide +kernel
theorem dX7_hasOtherColour_30 : decode cX7_hasOtherColour 30 = .ok (.iload_n 2, 1) := by decide +kernel
theorem dX7_hasOtherColour_31 : decode cX7_hasOtherColour 31 = .ok (.if_icmp .eq 5, 3) := by decide +kernel
theorem dX7_hasOtherColour_34 : decode cX7_hasOtherColour 34 = .ok (.iconst 1, 1) := by decide +kernel
theorem dX7_hasOtherColour_35 : decode cX7_hasOtherColour 35 = .ok (.ireturn, 1) := by decide +kernel
theorem dX7_hasOtherColour_36 : decode cX7_hasOtherColour 36 = .ok (.iinc 3 1, 3) := by decide +kernel
theorem dX7_hasOtherColour_39 : decode cX7_hasOtherColour 39 = .ok (.goto (-37), 3) := by decide +kernel
theorem dX7_hasOtherColour_42 : decode cX7_hasOtherColour 42 = .ok (.iconst 0, 1) := by decide +kernel
theorem dX7_hasOtherColour_43 : decode cX7_hasOtherColour 43 = .ok (.ireturn, 1) := by decide +kernel
theorem dX7_sightAt_0 : decode cX7_sightAt 0 = .ok (.iload_n 1, 1) := by decide +kernel
theorem dX7_sightAt_1 : decode cX7_sightAt 1 = .ok (.ifCond .lt 20, 3) := by decide +kernel
theorem dX7_sightAt_4 : decode cX7_sightAt 4 = .ok (.iload_n 1, 1) := by decide +kernel
theorem dX7_sightAt_5 : decode cX7_sightAt 5 = .ok (.aload_n 0, 1) := by decide +kernel
theorem dX7_sightAt_6 : decode cX7_sightAt 6 = .ok (.getfield 19, 3) := by decide +kernel
theorem dX7_sightAt_9 : decode cX7_sightAt 9 = .ok (.if_icmp .ge 12, 3) := by decide +kernel
theorem dX7_sightAt_12 : decode cX7_sightAt 12 = .ok (.aload_n 0, 1) := by decide +kernel
theorem dX7_sightAt_13 : decode cX7_sightAt 13 = .ok (.getfield 9, 3) := by decide +kernel
theorem dX7_sightAt_16 : decode cX7_sightAt 16 = .ok (.iload_n 1, 1) := by decide +kernel
theorem dX7_sightAt_17 : decode cX7_sightAt 17 = .ok (.iaload, 1) := by decide +kernel
theorem dX7_sightAt_18 : decode cX7_sightAt 18 = .ok (.goto 4, 3) := by decide +kernel
theorem dX7_sightAt_21 : decode cX7_sightAt 21 = .ok (.iconst (-1), 1) := by decide +kernel
theorem dX7_sightAt_22 : decode cX7_sightAt 22 = .ok (.ireturn, 1) := by decide +kernel
theorem dX7_colourOf_0 : decode cX7_colourOf 0 = .ok (.aload_n 0, 1) := by decide +kernel
theorem dX7_colourOf_1 : decode cX7_colourOf 1 = .ok (.getfield 19, 3) := by decide +kernel
theorem dX7_colourOf_4 : decode cX7_colourOf 4 = .ok (.iconst 1, 1) := by decide +kernel
theorem dX7_colourOf_5 : decode cX7_colourOf 5 = .ok (.isub, 1) := by decide +kernel
theorem dX7_colourOf_6 : decode cX7_colourOf 6 = .ok (.istore_n 2, 1) := by decide +kernel
theorem dX7_colourOf_7 : decode cX7_colourOf 7 = .ok (.iload_n 2, 1) := by decide +kernel
theorem dX7_colourOf_8 : decode cX7_colourOf 8 = .ok (.ifCond .lt 30, 3) := by decide +kernel
theorem dX7_colourOf_11 : decode cX7_colourOf 11 = .ok (.aload_n 0, 1) := by decide +kernel
theorem dX7_colourOf_12 : decode cX7_colourOf 12 = .ok (.getfield 9, 3) := by decide +kernel
theorem dX7_colourOf_15 : decode cX7_colourOf 15 = .ok (.iload_n 2, 1) := by decide +kernel
theorem dX7_colourOf_16 : decode cX7_colourOf 16 = .ok (.iaload, 1) := by decide +kernel
theorem dX7_colourOf_17 : decode cX7_colourOf 17 = .ok (.iconst 4, 1) := by decide +kernel
theorem dX7_colourOf_18 : decode cX7_colourOf 18 = .ok (.idiv, 1) := by decide +kernel
theorem dX7_colourOf_19 : decode cX7_colourOf 19 = .ok (.iload_n 1, 1) := by decide +kernel
theorem dX7_colourOf_20 : decode cX7_colourOf 20 = .ok (.if_icmp .ne 12, 3) := by decide +kernel
