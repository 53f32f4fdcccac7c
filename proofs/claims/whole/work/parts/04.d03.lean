theorem dX7_colourOf_23 : decode cX7_colourOf 23 = .ok (.aload_n 0, 1) := by decide +kernel
theorem dX7_colourOf_24 : decode cX7_colourOf 24 = .ok (.getfield 9, 3) := by decide +kernel
theorem dX7_colourOf_27 : decode cX7_colourOf 27 = .ok (.iload_n 2, 1) := by decide +kernel
theorem dX7_colourOf_28 : decode cX7_colourOf 28 = .ok (.iaload, 1) := by decide +kernel
theorem dX7_colourOf_29 : decode cX7_colourOf 29 = .ok (.iconst 4, 1) := by decide +kernel
theorem dX7_colourOf_30 : decode cX7_colourOf 30 = .ok (.irem, 1) := by decide +kernel
theorem dX7_colourOf_31 : decode cX7_colourOf 31 = .ok (.ireturn, 1) := by decide +kernel
theorem dX7_colourOf_32 : decode cX7_colourOf 32 = .ok (.iinc 2 (-1), 3) := by decide +kernel
theorem dX7_colourOf_35 : decode cX7_colourOf 35 = .ok (.goto (-28), 3) := by decide +kernel
theorem dX7_colourOf_38 : decode cX7_colourOf 38 = .ok (.iconst (-1), 1) := by decide +kernel
theorem dX7_colourOf_39 : decode cX7_colourOf 39 = .ok (.ireturn, 1) := by decide +kernel
theorem dX7_meets_0 : decode cX7_meets 0 = .ok (.iload_n 1, 1) := by decide +kernel
theorem dX7_meets_1 : decode cX7_meets 1 = .ok (.iconst 4, 1) := by decide +kernel
theorem dX7_meets_2 : decode cX7_meets 2 = .ok (.idiv, 1) := by decide +kernel
theorem dX7_meets_3 : decode cX7_meets 3 = .ok (.istore_n 2, 1) := by decide +kernel
theorem dX7_meets_4 : decode cX7_meets 4 = .ok (.aload_n 0, 1) := by decide +kernel
theorem dX7_meets_5 : decode cX7_meets 5 = .ok (.getfield 15, 3) := by decide +kernel
theorem dX7_meets_8 : decode cX7_meets 8 = .ok (.tableswitch 70 1 4 #[32, 40, 42, 59], 32) := by decide +kernel
theorem dX7_meets_40 : decode cX7_meets 40 = .ok (.aload_n 0, 1) := by decide +kernel
theorem dX7_meets_41 : decode cX7_meets 41 = .ok (.iconst 0, 1) := by decide +kernel
theorem dX7_meets_42 : decode cX7_meets 42 = .ok (.putfield 19, 3) := by decide +kernel
theorem dX7_meets_45 : decode cX7_meets 45 = .ok (.goto 39, 3) := by decide +kernel
theorem dX7_meets_48 : decode cX7_meets 48 = .ok (.iconst 0, 1) := by decide +kernel
theorem dX7_meets_49 : decode cX7_meets 49 = .ok (.ireturn, 1) := by decide +kernel
theorem dX7_meets_50 : decode cX7_meets 50 = .ok (.aload_n 0, 1) := by decide +kernel
theorem dX7_meets_51 : decode cX7_meets 51 = .ok (.iload_n 2, 1) := by decide +kernel
theorem dX7_meets_52 : decode cX7_meets 52 = .ok (.iconst 4, 1) := by decide +kernel
theorem dX7_meets_53 : decode cX7_meets 53 = .ok (.imul, 1) := by decide +kernel
theorem dX7_meets_54 : decode cX7_meets 54 = .ok (.iload_n 2, 1) := by decide +kernel
theorem dX7_meets_55 : decode cX7_meets 55 = .ok (.iconst 4, 1) := by decide +kernel
theorem dX7_meets_56 : decode cX7_meets 56 = .ok (.imul, 1) := by decide +kernel
theorem dX7_meets_57 : decode cX7_meets 57 = .ok (.iconst 4, 1) := by decide +kernel
theorem dX7_meets_58 : decode cX7_meets 58 = .ok (.iadd, 1) := by decide +kernel
theorem dX7_meets_59 : decode cX7_meets 59 = .ok (.iconst 1, 1) := by decide +kernel
theorem dX7_meets_60 : decode cX7_meets 60 = .ok (.isub, 1) := by decide +kernel
theorem dX7_meets_61 : decode cX7_meets 61 = .ok (.invokevirtual 22, 3) := by decide +kernel
theorem dX7_meets_64 : decode cX7_meets 64 = .ok (.goto 20, 3) := by decide +kernel
theorem dX7_meets_67 : decode cX7_meets 67 = .ok (.aload_n 0, 1) := by decide +kernel
theorem dX7_meets_68 : decode cX7_meets 68 = .ok (.iload_n 2, 1) := by decide +kernel
theorem dX7_meets_69 : decode cX7_meets 69 = .ok (.invokevirtual 26, 3) := by decide +kernel
theorem dX7_meets_72 : decode cX7_meets 72 = .ok (.iconst (-1), 1) := by decide +kernel
theorem dX7_meets_73 : decode cX7_meets 73 = .ok (.if_icmp .eq 11, 3) := by decide +kernel
theorem dX7_meets_76 : decode cX7_meets 76 = .ok (.iconst 0, 1) := by decide +kernel
theorem dX7_meets_77 : decode cX7_meets 77 = .ok (.ireturn, 1) := by decide +kernel
theorem dX7_meets_78 : decode cX7_meets 78 = .ok (.aload_n 0, 1) := by decide +kernel
theorem dX7_meets_79 : decode cX7_meets 79 = .ok (.iload_n 1, 1) := by decide +kernel
theorem dX7_meets_80 : decode cX7_meets 80 = .ok (.iload_n 1, 1) := by decide +kernel
theorem dX7_meets_81 : decode cX7_meets 81 = .ok (.invokevirtual 22, 3) := by decide +kernel
theorem dX7_meets_84 : decode cX7_meets 84 = .ok (.aload_n 0, 1) := by decide +kernel
theorem dX7_meets_85 : decode cX7_meets 85 = .ok (.iload_n 1, 1) := by decide +kernel
theorem dX7_meets_86 : decode cX7_meets 86 = .ok (.invokevirtual 30, 3) := by decide +kernel
theorem dX7_meets_89 : decode cX7_meets 89 = .ok (.iconst 1, 1) := by decide +kernel
theorem dX7_meets_90 : decode cX7_meets 90 = .ok (.ireturn, 1) := by decide +kernel
theorem dX7_add_0 : decode cX7_add 0 = .ok (.aload_n 0, 1) := by decide +kernel
theorem dX7_add_1 : decode cX7_add 1 = .ok (.getfield 19, 3) := by decide +kernel
theorem dX7_add_4 : decode cX7_add 4 = .ok (.iconst 3, 1) := by decide +kernel
theorem dX7_add_5 : decode cX7_add 5 = .ok (.if_icmp .lt 19, 3) := by decide +kernel
theorem dX7_add_8 : decode cX7_add 8 = .ok (.aload_n 0, 1) := by decide +kernel
theorem dX7_add_9 : decode cX7_add 9 = .ok (.aload_n 0, 1) := by decide +kernel
theorem dX7_add_10 : decode cX7_add 10 = .ok (.getfield 9, 3) := by decide +kernel
theorem dX7_add_13 : decode cX7_add 13 = .ok (.iconst 0, 1) := by decide +kernel
theorem dX7_add_14 : decode cX7_add 14 = .ok (.iaload, 1) := by decide +kernel
theorem dX7_add_15 : decode cX7_add 15 = .ok (.aload_n 0, 1) := by decide +kernel
theorem dX7_add_16 : decode cX7_add 16 = .ok (.getfield 9, 3) := by decide +kernel
theorem dX7_add_19 : decode cX7_add 19 = .ok (.iconst 0, 1) := by decide +kernel
theorem dX7_add_20 : decode cX7_add 20 = .ok (.iaload, 1) := by decide +kernel
theorem dX7_add_21 : decode cX7_add 21 = .ok (.invokevirtual 22, 3) := by decide +kernel
theorem dX7_add_24 : decode cX7_add 24 = .ok (.aload_n 0, 1) := by decide +kernel
theorem dX7_add_25 : decode cX7_add 25 = .ok (.getfield 19, 3) := by decide +kernel
theorem dX7_add_28 : decode cX7_add 28 = .ok (.iconst 3, 1) := by decide +kernel
theorem dX7_add_29 : decode cX7_add 29 = .ok (.if_icmp .ge 23, 3) := by decide +kernel
theorem dX7_add_32 : decode cX7_add 32 = .ok (.aload_n 0, 1) := by decide +kernel
theorem dX7_add_33 : decode cX7_add 33 = .ok (.getfield 9, 3) := by decide +kernel
theorem dX7_add_36 : decode cX7_add 36 = .ok (.aload_n 0, 1) := by decide +kernel
theorem dX7_add_37 : decode cX7_add 37 = .ok (.getfield 19, 3) := by decide +kernel
theorem dX7_add_40 : decode cX7_add 40 = .ok (.iload_n 1, 1) := by decide +kernel
theorem dX7_add_41 : decode cX7_add 41 = .ok (.iastore, 1) := by decide +kernel
theorem dX7_add_42 : decode cX7_add 42 = .ok (.aload_n 0, 1) := by decide +kernel
theorem dX7_add_43 : decode cX7_add 43 = .ok (.dup, 1) := by decide +kernel
theorem dX7_add_44 : decode cX7_add 44 = .ok (.getfield 19, 3) := by decide +kernel
theorem dX7_add_47 : decode cX7_add 47 = .ok (.iconst 1, 1) := by decide +kernel
theorem dX7_add_48 : decode cX7_add 48 = .ok (.iadd, 1) := by decide +kernel
theorem dX7_add_49 : decode cX7_add 49 = .ok (.putfield 19, 3) := by decide +kernel
theorem dX7_add_52 : decode cX7_add 52 = .ok (.return_, 1) := by decide +kernel
theorem dX7_dropBetween_0 : decode cX7_dropBetween 0 = .ok (.iconst 0, 1) := by decide +kernel
theorem dX7_dropBetween_1 : decode cX7_dropBetween 1 = .ok (.istore_n 3, 1) := by decide +kernel
theorem dX7_dropBetween_2 : decode cX7_dropBetween 2 = .ok (.iconst 0, 1) := by decide +kernel
theorem dX7_dropBetween_3 : decode cX7_dropBetween 3 = .ok (.istore 4, 2) := by decide +kernel
theorem dX7_dropBetween_5 : decode cX7_dropBetween 5 = .ok (.iload 4, 2) := by decide +kernel
theorem dX7_dropBetween_7 : decode cX7_dropBetween 7 = .ok (.aload_n 0, 1) := by decide +kernel
theorem dX7_dropBetween_8 : decode cX7_dropBetween 8 = .ok (.getfield 19, 3) := by decide +kernel
theorem dX7_dropBetween_11 : decode cX7_dropBetween 11 = .ok (.if_icmp .ge 47, 3) := by decide +kernel
theorem dX7_dropBetween_14 : decode cX7_dropBetween 14 = .ok (.aload_n 0, 1) := by decide +kernel
theorem dX7_dropBetween_15 : decode cX7_dropBetween 15 = .ok (.getfield 9, 3) := by decide +kernel
theorem dX7_dropBetween_18 : decode cX7_dropBetween 18 = .ok (.iload 4, 2) := by decide +kernel
theorem dX7_dropBetween_20 : decode cX7_dropBetween 20 = .ok (.iaload, 1) := by decide +kernel
theorem dX7_dropBetween_21 : decode cX7_dropBetween 21 = .ok (.iload_n 1, 1) := by decide +kernel
theorem dX7_dropBetween_22 : decode cX7_dropBetween 22 = .ok (.if_icmp .lt 14, 3) := by decide +kernel
theorem dX7_dropBetween_25 : decode cX7_dropBetween 25 = .ok (.aload_n 0, 1) := by decide +kernel
theorem dX7_dropBetween_26 : decode cX7_dropBetween 26 = .ok (.getfield 9, 3) := by decide +kernel
theorem dX7_dropBetween_29 : decode cX7_dropBetween 29 = .ok (.iload 4, 2) := by decide +kernel
theorem dX7_dropBetween_31 : decode cX7_dropBetween 31 = .ok (.iaload, 1) := by decide +kernel
theorem dX7_dropBetween_32 : decode cX7_dropBetween 32 = .ok (.iload_n 2, 1) := by decide +kernel
theorem dX7_dropBetween_33 : decode cX7_dropBetween 33 = .ok (.if_icmp .le 19, 3) := by decide +kernel
theorem dX7_dropBetween_36 : decode cX7_dropBetween 36 = .ok (.aload_n 0, 1) := by decide +kernel
theorem dX7_dropBetween_37 : decode cX7_dropBetween 37 = .ok (.getfield 9, 3) := by decide +kernel
theorem dX7_dropBetween_40 : decode cX7_dropBetween 40 = .ok (.iload_n 3, 1) := by decide +kernel
theorem dX7_dropBetween_41 : decode cX7_dropBetween 41 = .ok (.aload_n 0, 1) := by decide +kernel
theorem dX7_dropBetween_42 : decode cX7_dropBetween 42 = .ok (.getfield 9, 3) := by decide +kernel
theorem dX7_dropBetween_45 : decode cX7_dropBetween 45 = .ok (.iload 4, 2) := by decide +kernel
theorem dX7_dropBetween_47 : decode cX7_dropBetween 47 = .ok (.iaload, 1) := by decide +kernel
theorem dX7_dropBetween_48 : decode cX7_dropBetween 48 = .ok (.iastore, 1) := by decide +kernel
theorem dX7_dropBetween_49 : decode cX7_dropBetween 49 = .ok (.iinc 3 1, 3) := by decide +kernel
theorem dX7_dropBetween_52 : decode cX7_dropBetween 52 = .ok (.iinc 4 1, 3) := by decide +kernel
theorem dX7_dropBetween_55 : decode cX7_dropBetween 55 = .ok (.goto (-50), 3) := by decide +kernel
theorem dX7_dropBetween_58 : decode cX7_dropBetween 58 = .ok (.aload_n 0, 1) := by decide +kernel
theorem dX7_dropBetween_59 : decode cX7_dropBetween 59 = .ok (.iload_n 3, 1) := by decide +kernel
theorem dX7_dropBetween_60 : decode cX7_dropBetween 60 = .ok (.putfield 19, 3) := by decide +kernel
theorem dX7_dropBetween_63 : decode cX7_dropBetween 63 = .ok (.return_, 1) := by decide +kernel
theorem dX8_init_0 : decode cX8_init 0 = .ok (.aload_n 0, 1) := by decide +kernel
theorem dX8_init_1 : decode cX8_init 1 = .ok (.invokespecial 3, 3) := by decide +kernel
theorem dX8_init_4 : decode cX8_init 4 = .ok (.aload_n 0, 1) := by decide +kernel
theorem dX8_init_5 : decode cX8_init 5 = .ok (.bipush 32, 2) := by decide +kernel
theorem dX8_init_7 : decode cX8_init 7 = .ok (.newarray .int, 2) := by decide +kernel
theorem dX8_init_9 : decode cX8_init 9 = .ok (.putfield 9, 3) := by decide +kernel
theorem dX8_init_12 : decode cX8_init 12 = .ok (.aload_n 0, 1) := by decide +kernel
theorem dX8_init_13 : decode cX8_init 13 = .ok (.bipush 32, 2) := by decide +kernel
theorem dX8_init_15 : decode cX8_init 15 = .ok (.newarray .int, 2) := by decide +kernel
theorem dX8_init_17 : decode cX8_init 17 = .ok (.putfield 15, 3) := by decide +kernel
theorem dX8_init_20 : decode cX8_init 20 = .ok (.return_, 1) := by decide +kernel
theorem dX8_howMany_0 : decode cX8_howMany 0 = .ok (.iconst 0, 1) := by decide +kernel
theorem dX8_howMany_1 : decode cX8_howMany 1 = .ok (.istore 5, 2) := by decide +kernel
theorem dX8_howMany_3 : decode cX8_howMany 3 = .ok (.iload 5, 2) := by decide +kernel
theorem dX8_howMany_5 : decode cX8_howMany 5 = .ok (.bipush 32, 2) := by decide +kernel
theorem dX8_howMany_7 : decode cX8_howMany 7 = .ok (.if_icmp .ge 26, 3) := by decide +kernel
theorem dX8_howMany_10 : decode cX8_howMany 10 = .ok (.aload_n 0, 1) := by decide +kernel
theorem dX8_howMany_11 : decode cX8_howMany 11 = .ok (.getfield 9, 3) := by decide +kernel
theorem dX8_howMany_14 : decode cX8_howMany 14 = .ok (.iload 5, 2) := by decide +kernel
theorem dX8_howMany_16 : decode cX8_howMany 16 = .ok (.iload 5, 2) := by decide +kernel
theorem dX8_howMany_18 : decode cX8_howMany 18 = .ok (.ifCond .ne 7, 3) := by decide +kernel
theorem dX8_howMany_21 : decode cX8_howMany 21 = .ok (.iconst 1, 1) := by decide +kernel
theorem dX8_howMany_22 : decode cX8_howMany 22 = .ok (.goto 4, 3) := by decide +kernel
theorem dX8_howMany_25 : decode cX8_howMany 25 = .ok (.iconst 0, 1) := by decide +kernel
theorem dX8_howMany_26 : decode cX8_howMany 26 = .ok (.iastore, 1) := by decide +kernel
theorem dX8_howMany_27 : decode cX8_howMany 27 = .ok (.iinc 5 1, 3) := by decide +kernel
theorem dX8_howMany_30 : decode cX8_howMany 30 = .ok (.goto (-27), 3) := by decide +kernel
theorem dX8_howMany_33 : decode cX8_howMany 33 = .ok (.iconst 0, 1) := by decide +kernel
theorem dX8_howMany_34 : decode cX8_howMany 34 = .ok (.istore 5, 2) := by decide +kernel
theorem dX8_howMany_36 : decode cX8_howMany 36 = .ok (.iload 5, 2) := by decide +kernel
theorem dX8_howMany_38 : decode cX8_howMany 38 = .ok (.bipush 6, 2) := by decide +kernel
theorem dX8_howMany_40 : decode cX8_howMany 40 = .ok (.if_icmp .ge 28, 3) := by decide +kernel
theorem dX8_howMany_43 : decode cX8_howMany 43 = .ok (.aload_n 0, 1) := by decide +kernel
theorem dX8_howMany_44 : decode cX8_howMany 44 = .ok (.aload_n 1, 1) := by decide +kernel
theorem dX8_howMany_45 : decode cX8_howMany 45 = .ok (.iload 5, 2) := by decide +kernel
theorem dX8_howMany_47 : decode cX8_howMany 47 = .ok (.iload 5, 2) := by decide +kernel
theorem dX8_howMany_49 : decode cX8_howMany 49 = .ok (.iload_n 3, 1) := by decide +kernel
theorem dX8_howMany_50 : decode cX8_howMany 50 = .ok (.if_icmp .ne 8, 3) := by decide +kernel
theorem dX8_howMany_53 : decode cX8_howMany 53 = .ok (.iload 4, 2) := by decide +kernel
theorem dX8_howMany_55 : decode cX8_howMany 55 = .ok (.goto 4, 3) := by decide +kernel
theorem dX8_howMany_58 : decode cX8_howMany 58 = .ok (.iconst (-1), 1) := by decide +kernel
theorem dX8_howMany_59 : decode cX8_howMany 59 = .ok (.invokevirtual 18, 3) := by decide +kernel
theorem dX8_howMany_62 : decode cX8_howMany 62 = .ok (.iinc 5 1, 3) := by decide +kernel
theorem dX8_howMany_65 : decode cX8_howMany 65 = .ok (.goto (-29), 3) := by decide +kernel
theorem dX8_howMany_68 : decode cX8_howMany 68 = .ok (.iconst 0, 1) := by decide +kernel
theorem dX8_howMany_69 : decode cX8_howMany 69 = .ok (.istore 5, 2) := by decide +kernel
theorem dX8_howMany_71 : decode cX8_howMany 71 = .ok (.iconst 0, 1) := by decide +kernel
theorem dX8_howMany_72 : decode cX8_howMany 72 = .ok (.istore 6, 2) := by decide +kernel
theorem dX8_howMany_74 : decode cX8_howMany 74 = .ok (.iload 6, 2) := by decide +kernel
theorem dX8_howMany_76 : decode cX8_howMany 76 = .ok (.bipush 32, 2) := by decide +kernel
theorem dX8_howMany_78 : decode cX8_howMany 78 = .ok (.if_icmp .ge 30, 3) := by decide +kernel
theorem dX8_howMany_81 : decode cX8_howMany 81 = .ok (.iload 6, 2) := by decide +kernel
theorem dX8_howMany_83 : decode cX8_howMany 83 = .ok (.invokestatic 22, 3) := by decide +kernel
theorem dX8_howMany_86 : decode cX8_howMany 86 = .ok (.iload_n 2, 1) := by decide +kernel
theorem dX8_howMany_87 : decode cX8_howMany 87 = .ok (.if_icmp .gt 15, 3) := by decide +kernel
theorem dX8_howMany_90 : decode cX8_howMany 90 = .ok (.iload 5, 2) := by decide +kernel
theorem dX8_howMany_92 : decode cX8_howMany 92 = .ok (.aload_n 0, 1) := by decide +kernel
theorem dX8_howMany_93 : decode cX8_howMany 93 = .ok (.getfield 9, 3) := by decide +kernel
theorem dX8_howMany_96 : decode cX8_howMany 96 = .ok (.iload 6, 2) := by decide +kernel
theorem dX8_howMany_98 : decode cX8_howMany 98 = .ok (.iaload, 1) := by decide +kernel
theorem dX8_howMany_99 : decode cX8_howMany 99 = .ok (.iadd, 1) := by decide +kernel
theorem dX8_howMany_100 : decode cX8_howMany 100 = .ok (.istore 5, 2) := by decide +kernel
theorem dX8_howMany_102 : decode cX8_howMany 102 = .ok (.iinc 6 1, 3) := by decide +kernel
theorem dX8_howMany_105 : decode cX8_howMany 105 = .ok (.goto (-31), 3) := by decide +kernel
theorem dX8_howMany_108 : decode cX8_howMany 108 = .ok (.iload 5, 2) := by decide +kernel
theorem dX8_howMany_110 : decode cX8_howMany 110 = .ok (.ireturn, 1) := by decide +kernel
theorem dX8_tellOf_0 : decode cX8_tellOf 0 = .ok (.iconst 0, 1) := by decide +kernel
theorem dX8_tellOf_1 : decode cX8_tellOf 1 = .ok (.istore 4, 2) := by decide +kernel
theorem dX8_tellOf_3 : decode cX8_tellOf 3 = .ok (.iload 4, 2) := by decide +kernel
theorem dX8_tellOf_5 : decode cX8_tellOf 5 = .ok (.bipush 32, 2) := by decide +kernel
theorem dX8_tellOf_7 : decode cX8_tellOf 7 = .ok (.if_icmp .ge 17, 3) := by decide +kernel
theorem dX8_tellOf_10 : decode cX8_tellOf 10 = .ok (.aload_n 0, 1) := by decide +kernel
theorem dX8_tellOf_11 : decode cX8_tellOf 11 = .ok (.getfield 15, 3) := by decide +kernel
theorem dX8_tellOf_14 : decode cX8_tellOf 14 = .ok (.iload 4, 2) := by decide +kernel
theorem dX8_tellOf_16 : decode cX8_tellOf 16 = .ok (.iconst 0, 1) := by decide +kernel
theorem dX8_tellOf_17 : decode cX8_tellOf 17 = .ok (.iastore, 1) := by decide +kernel
theorem dX8_tellOf_18 : decode cX8_tellOf 18 = .ok (.iinc 4 1, 3) := by decide +kernel
theorem dX8_tellOf_21 : decode cX8_tellOf 21 = .ok (.goto (-18), 3) := by decide +kernel
theorem dX8_tellOf_24 : decode cX8_tellOf 24 = .ok (.iconst 0, 1) := by decide +kernel
theorem dX8_tellOf_25 : decode cX8_tellOf 25 = .ok (.istore 4, 2) := by decide +kernel
theorem dX8_tellOf_27 : decode cX8_tellOf 27 = .ok (.iload 4, 2) := by decide +kernel
theorem dX8_tellOf_29 : decode cX8_tellOf 29 = .ok (.iconst 4, 1) := by decide +kernel
theorem dX8_tellOf_30 : decode cX8_tellOf 30 = .ok (.if_icmp .ge 65, 3) := by decide +kernel
theorem dX8_tellOf_33 : decode cX8_tellOf 33 = .ok (.iload_n 3, 1) := by decide +kernel
theorem dX8_tellOf_34 : decode cX8_tellOf 34 = .ok (.iconst (-1), 1) := by decide +kernel
theorem dX8_tellOf_35 : decode cX8_tellOf 35 = .ok (.if_icmp .eq 9, 3) := by decide +kernel
theorem dX8_tellOf_38 : decode cX8_tellOf 38 = .ok (.iload_n 3, 1) := by decide +kernel
theorem dX8_tellOf_39 : decode cX8_tellOf 39 = .ok (.iload 4, 2) := by decide +kernel
theorem dX8_tellOf_41 : decode cX8_tellOf 41 = .ok (.if_icmp .ne 48, 3) := by decide +kernel
theorem dX8_tellOf_44 : decode cX8_tellOf 44 = .ok (.aload_n 1, 1) := by decide +kernel
theorem dX8_tellOf_45 : decode cX8_tellOf 45 = .ok (.iload_n 2, 1) := by decide +kernel
theorem dX8_tellOf_46 : decode cX8_tellOf 46 = .ok (.iload 4, 2) := by decide +kernel
theorem dX8_tellOf_48 : decode cX8_tellOf 48 = .ok (.invokevirtual 28, 3) := by decide +kernel
theorem dX8_tellOf_51 : decode cX8_tellOf 51 = .ok (.istore 5, 2) := by decide +kernel
theorem dX8_tellOf_53 : decode cX8_tellOf 53 = .ok (.iconst 0, 1) := by decide +kernel
theorem dX8_tellOf_54 : decode cX8_tellOf 54 = .ok (.istore 6, 2) := by decide +kernel
theorem dX8_tellOf_56 : decode cX8_tellOf 56 = .ok (.iload 6, 2) := by decide +kernel
theorem dX8_tellOf_58 : decode cX8_tellOf 58 = .ok (.bipush 32, 2) := by decide +kernel
theorem dX8_tellOf_60 : decode cX8_tellOf 60 = .ok (.if_icmp .ge 29, 3) := by decide +kernel
theorem dX8_tellOf_63 : decode cX8_tellOf 63 = .ok (.aload_n 0, 1) := by decide +kernel
theorem dX8_tellOf_64 : decode cX8_tellOf 64 = .ok (.getfield 15, 3) := by decide +kernel
theorem dX8_tellOf_67 : decode cX8_tellOf 67 = .ok (.iload 6, 2) := by decide +kernel
theorem dX8_tellOf_69 : decode cX8_tellOf 69 = .ok (.iload 5, 2) := by decide +kernel
theorem dX8_tellOf_71 : decode cX8_tellOf 71 = .ok (.ior, 1) := by decide +kernel
theorem dX8_tellOf_72 : decode cX8_tellOf 72 = .ok (.dup2, 1) := by decide +kernel
theorem dX8_tellOf_73 : decode cX8_tellOf 73 = .ok (.iaload, 1) := by decide +kernel
theorem dX8_tellOf_74 : decode cX8_tellOf 74 = .ok (.aload_n 0, 1) := by decide +kernel
theorem dX8_tellOf_75 : decode cX8_tellOf 75 = .ok (.getfield 9, 3) := by decide +kernel
theorem dX8_tellOf_78 : decode cX8_tellOf 78 = .ok (.iload 6, 2) := by decide +kernel
theorem dX8_tellOf_80 : decode cX8_tellOf 80 = .ok (.iaload, 1) := by decide +kernel
theorem dX8_tellOf_81 : decode cX8_tellOf 81 = .ok (.iadd, 1) := by decide +kernel
theorem dX8_tellOf_82 : decode cX8_tellOf 82 = .ok (.iastore, 1) := by decide +kernel
theorem dX8_tellOf_83 : decode cX8_tellOf 83 = .ok (.iinc 6 1, 3) := by decide +kernel
theorem dX8_tellOf_86 : decode cX8_tellOf 86 = .ok (.goto (-30), 3) := by decide +kernel
theorem dX8_tellOf_89 : decode cX8_tellOf 89 = .ok (.iinc 4 1, 3) := by decide +kernel
theorem dX8_tellOf_92 : decode cX8_tellOf 92 = .ok (.goto (-65), 3) := by decide +kernel
theorem dX8_tellOf_95 : decode cX8_tellOf 95 = .ok (.iconst 0, 1) := by decide +kernel
theorem dX8_tellOf_96 : decode cX8_tellOf 96 = .ok (.istore 4, 2) := by decide +kernel
theorem dX8_tellOf_98 : decode cX8_tellOf 98 = .ok (.iload 4, 2) := by decide +kernel
theorem dX8_tellOf_100 : decode cX8_tellOf 100 = .ok (.bipush 32, 2) := by decide +kernel
theorem dX8_tellOf_102 : decode cX8_tellOf 102 = .ok (.if_icmp .ge 23, 3) := by decide +kernel
theorem dX8_tellOf_105 : decode cX8_tellOf 105 = .ok (.aload_n 0, 1) := by decide +kernel
theorem dX8_tellOf_106 : decode cX8_tellOf 106 = .ok (.getfield 9, 3) := by decide +kernel
theorem dX8_tellOf_109 : decode cX8_tellOf 109 = .ok (.iload 4, 2) := by decide +kernel
theorem dX8_tellOf_111 : decode cX8_tellOf 111 = .ok (.aload_n 0, 1) := by decide +kernel
theorem dX8_tellOf_112 : decode cX8_tellOf 112 = .ok (.getfield 15, 3) := by decide +kernel
theorem dX8_tellOf_115 : decode cX8_tellOf 115 = .ok (.iload 4, 2) := by decide +kernel
theorem dX8_tellOf_117 : decode cX8_tellOf 117 = .ok (.iaload, 1) := by decide +kernel
theorem dX8_tellOf_118 : decode cX8_tellOf 118 = .ok (.iastore, 1) := by decide +kernel
theorem dX8_tellOf_119 : decode cX8_tellOf 119 = .ok (.iinc 4 1, 3) := by decide +kernel
theorem dX8_tellOf_122 : decode cX8_tellOf 122 = .ok (.goto (-24), 3) := by decide +kernel
theorem dX8_tellOf_125 : decode cX8_tellOf 125 = .ok (.return_, 1) := by decide +kernel
theorem dX9_init_0 : decode cX9_init 0 = .ok (.aload_n 0, 1) := by decide +kernel
theorem dX9_init_1 : decode cX9_init 1 = .ok (.invokespecial 3, 3) := by decide +kernel
theorem dX9_init_4 : decode cX9_init 4 = .ok (.aload_n 0, 1) := by decide +kernel
theorem dX9_init_5 : decode cX9_init 5 = .ok (.new 9, 3) := by decide +kernel
theorem dX9_init_8 : decode cX9_init 8 = .ok (.dup, 1) := by decide +kernel
theorem dX9_init_9 : decode cX9_init 9 = .ok (.invokespecial 11, 3) := by decide +kernel
theorem dX9_init_12 : decode cX9_init 12 = .ok (.putfield 12, 3) := by decide +kernel
theorem dX9_init_15 : decode cX9_init 15 = .ok (.aload_n 0, 1) := by decide +kernel
theorem dX9_init_16 : decode cX9_init 16 = .ok (.new 16, 3) := by decide +kernel
theorem dX9_init_19 : decode cX9_init 19 = .ok (.dup, 1) := by decide +kernel
theorem dX9_init_20 : decode cX9_init 20 = .ok (.invokespecial 18, 3) := by decide +kernel
theorem dX9_init_23 : decode cX9_init 23 = .ok (.putfield 19, 3) := by decide +kernel
theorem dX9_init_26 : decode cX9_init 26 = .ok (.aload_n 0, 1) := by decide +kernel
theorem dX9_init_27 : decode cX9_init 27 = .ok (.new 23, 3) := by decide +kernel
theorem dX9_init_30 : decode cX9_init 30 = .ok (.dup, 1) := by decide +kernel
theorem dX9_init_31 : decode cX9_init 31 = .ok (.invokespecial 25, 3) := by decide +kernel
theorem dX9_init_34 : decode cX9_init 34 = .ok (.putfield 26, 3) := by decide +kernel
theorem dX9_init_37 : decode cX9_init 37 = .ok (.aload_n 0, 1) := by decide +kernel
theorem dX9_init_38 : decode cX9_init 38 = .ok (.new 23, 3) := by decide +kernel
theorem dX9_init_41 : decode cX9_init 41 = .ok (.dup, 1) := by decide +kernel
theorem dX9_init_42 : decode cX9_init 42 = .ok (.invokespecial 25, 3) := by decide +kernel
theorem dX9_init_45 : decode cX9_init 45 = .ok (.putfield 30, 3) := by decide +kernel
theorem dX9_init_48 : decode cX9_init 48 = .ok (.aload_n 0, 1) := by decide +kernel
theorem dX9_init_49 : decode cX9_init 49 = .ok (.new 33, 3) := by decide +kernel
theorem dX9_init_52 : decode cX9_init 52 = .ok (.dup, 1) := by decide +kernel
theorem dX9_init_53 : decode cX9_init 53 = .ok (.invokespecial 35, 3) := by decide +kernel
theorem dX9_init_56 : decode cX9_init 56 = .ok (.putfield 36, 3) := by decide +kernel
theorem dX9_init_59 : decode cX9_init 59 = .ok (.aload_n 0, 1) := by decide +kernel
theorem dX9_init_60 : decode cX9_init 60 = .ok (.new 40, 3) := by decide +kernel
theorem dX9_init_63 : decode cX9_init 63 = .ok (.dup, 1) := by decide +kernel
theorem dX9_init_64 : decode cX9_init 64 = .ok (.invokespecial 42, 3) := by decide +kernel
theorem dX9_init_67 : decode cX9_init 67 = .ok (.putfield 43, 3) := by decide +kernel
theorem dX9_init_70 : decode cX9_init 70 = .ok (.aload_n 0, 1) := by decide +kernel
theorem dX9_init_71 : decode cX9_init 71 = .ok (.new 47, 3) := by decide +kernel
theorem dX9_init_74 : decode cX9_init 74 = .ok (.dup, 1) := by decide +kernel
theorem dX9_init_75 : decode cX9_init 75 = .ok (.invokespecial 49, 3) := by decide +kernel
theorem dX9_init_78 : decode cX9_init 78 = .ok (.putfield 50, 3) := by decide +kernel
theorem dX9_init_81 : decode cX9_init 81 = .ok (.aload_n 0, 1) := by decide +kernel
theorem dX9_init_82 : decode cX9_init 82 = .ok (.iconst 0, 1) := by decide +kernel
theorem dX9_init_83 : decode cX9_init 83 = .ok (.putfield 54, 3) := by decide +kernel
theorem dX9_init_86 : decode cX9_init 86 = .ok (.aload_n 0, 1) := by decide +kernel
theorem dX9_init_87 : decode cX9_init 87 = .ok (.iconst 0, 1) := by decide +kernel
theorem dX9_init_88 : decode cX9_init 88 = .ok (.putfield 58, 3) := by decide +kernel
theorem dX9_init_91 : decode cX9_init 91 = .ok (.return_, 1) := by decide +kernel
theorem dX9_letter_0 : decode cX9_letter 0 = .ok (.iload_n 1, 1) := by decide +kernel
theorem dX9_letter_1 : decode cX9_letter 1 = .ok (.bipush 32, 2) := by decide +kernel
theorem dX9_letter_3 : decode cX9_letter 3 = .ok (.bipush 126, 2) := by decide +kernel
theorem dX9_letter_5 : decode cX9_letter 5 = .ok (.invokestatic 62, 3) := by decide +kernel
theorem dX9_letter_8 : decode cX9_letter 8 = .ok (.ifCond .ne 6, 3) := by decide +kernel
theorem dX9_letter_11 : decode cX9_letter 11 = .ok (.bipush (-102), 2) := by decide +kernel
theorem dX9_letter_13 : decode cX9_letter 13 = .ok (.ireturn, 1) := by decide +kernel
theorem dX9_letter_14 : decode cX9_letter 14 = .ok (.aload_n 0, 1) := by decide +kernel
theorem dX9_letter_15 : decode cX9_letter 15 = .ok (.getfield 12, 3) := by decide +kernel
theorem dX9_letter_18 : decode cX9_letter 18 = .ok (.getfield 66, 3) := by decide +kernel
theorem dX9_letter_21 : decode cX9_letter 21 = .ok (.bipush 54, 2) := by decide +kernel
theorem dX9_letter_23 : decode cX9_letter 23 = .ok (.if_icmp .lt 6, 3) := by decide +kernel
theorem dX9_letter_26 : decode cX9_letter 26 = .ok (.bipush (-104), 2) := by decide +kernel
theorem dX9_letter_28 : decode cX9_letter 28 = .ok (.ireturn, 1) := by decide +kernel
theorem dX9_letter_29 : decode cX9_letter 29 = .ok (.aload_n 0, 1) := by decide +kernel
theorem dX9_letter_30 : decode cX9_letter 30 = .ok (.getfield 12, 3) := by decide +kernel
theorem dX9_letter_33 : decode cX9_letter 33 = .ok (.iload_n 1, 1) := by decide +kernel
theorem dX9_letter_34 : decode cX9_letter 34 = .ok (.invokevirtual 69, 3) := by decide +kernel
theorem dX9_letter_37 : decode cX9_letter 37 = .ok (.aload_n 0, 1) := by decide +kernel
theorem dX9_letter_38 : decode cX9_letter 38 = .ok (.getfield 12, 3) := by decide +kernel
theorem dX9_letter_41 : decode cX9_letter 41 = .ok (.getfield 66, 3) := by decide +kernel
theorem dX9_letter_44 : decode cX9_letter 44 = .ok (.ireturn, 1) := by decide +kernel
theorem dX9_blank_0 : decode cX9_blank 0 = .ok (.aload_n 0, 1) := by decide +kernel
theorem dX9_blank_1 : decode cX9_blank 1 = .ok (.getfield 12, 3) := by decide +kernel
theorem dX9_blank_4 : decode cX9_blank 4 = .ok (.getfield 66, 3) := by decide +kernel
theorem dX9_blank_7 : decode cX9_blank 7 = .ok (.istore_n 1, 1) := by decide +kernel
theorem dX9_blank_8 : decode cX9_blank 8 = .ok (.aload_n 0, 1) := by decide +kernel
theorem dX9_blank_9 : decode cX9_blank 9 = .ok (.getfield 12, 3) := by decide +kernel
theorem dX9_blank_12 : decode cX9_blank 12 = .ok (.iconst 0, 1) := by decide +kernel
theorem dX9_blank_13 : decode cX9_blank 13 = .ok (.putfield 66, 3) := by decide +kernel
theorem dX9_blank_16 : decode cX9_blank 16 = .ok (.iload_n 1, 1) := by decide +kernel
theorem dX9_blank_17 : decode cX9_blank 17 = .ok (.ireturn, 1) := by decide +kernel
theorem dX9_fault_0 : decode cX9_fault 0 = .ok (.aload_n 0, 1) := by decide +kernel
theorem dX9_fault_1 : decode cX9_fault 1 = .ok (.getfield 12, 3) := by decide +kernel
theorem dX9_fault_4 : decode cX9_fault 4 = .ok (.invokevirtual 73, 3) := by decide +kernel
theorem dX9_fault_7 : decode cX9_fault 7 = .ok (.ireturn, 1) := by decide +kernel
theorem dX9_wall_0 : decode cX9_wall 0 = .ok (.aload_n 0, 1) := by decide +kernel
theorem dX9_wall_1 : decode cX9_wall 1 = .ok (.getfield 12, 3) := by decide +kernel
theorem dX9_wall_4 : decode cX9_wall 4 = .ok (.invokevirtual 73, 3) := by decide +kernel
theorem dX9_wall_7 : decode cX9_wall 7 = .ok (.aload_n 0, 1) := by decide +kernel
theorem dX9_wall_8 : decode cX9_wall 8 = .ok (.getfield 12, 3) := by decide +kernel
theorem dX9_wall_11 : decode cX9_wall 11 = .ok (.getfield 66, 3) := by decide +kernel
theorem dX9_wall_14 : decode cX9_wall 14 = .ok (.if_icmp .lt 13, 3) := by decide +kernel
theorem dX9_wall_17 : decode cX9_wall 17 = .ok (.aload_n 0, 1) := by decide +kernel
theorem dX9_wall_18 : decode cX9_wall 18 = .ok (.getfield 12, 3) := by decide +kernel
theorem dX9_wall_21 : decode cX9_wall 21 = .ok (.invokevirtual 77, 3) := by decide +kernel
theorem dX9_wall_24 : decode cX9_wall 24 = .ok (.ifCond .ne 6, 3) := by decide +kernel
theorem dX9_wall_27 : decode cX9_wall 27 = .ok (.bipush (-103), 2) := by decide +kernel
theorem dX9_wall_29 : decode cX9_wall 29 = .ok (.ireturn, 1) := by decide +kernel
theorem dX9_wall_30 : decode cX9_wall 30 = .ok (.aload_n 0, 1) := by decide +kernel
theorem dX9_wall_31 : decode cX9_wall 31 = .ok (.getfield 26, 3) := by decide +kernel
theorem dX9_wall_34 : decode cX9_wall 34 = .ok (.aload_n 0, 1) := by decide +kernel
theorem dX9_wall_35 : decode cX9_wall 35 = .ok (.getfield 12, 3) := by decide +kernel
theorem dX9_wall_38 : decode cX9_wall 38 = .ok (.getfield 81, 3) := by decide +kernel
theorem dX9_wall_41 : decode cX9_wall 41 = .ok (.invokevirtual 84, 3) := by decide +kernel
theorem dX9_wall_44 : decode cX9_wall 44 = .ok (.aload_n 0, 1) := by decide +kernel
theorem dX9_wall_45 : decode cX9_wall 45 = .ok (.getfield 19, 3) := by decide +kernel
theorem dX9_wall_48 : decode cX9_wall 48 = .ok (.aload_n 0, 1) := by decide +kernel
theorem dX9_wall_49 : decode cX9_wall 49 = .ok (.getfield 12, 3) := by decide +kernel
theorem dX9_wall_52 : decode cX9_wall 52 = .ok (.getfield 88, 3) := by decide +kernel
theorem dX9_wall_55 : decode cX9_wall 55 = .ok (.invokevirtual 89, 3) := by decide +kernel
theorem dX9_wall_58 : decode cX9_wall 58 = .ok (.aload_n 0, 1) := by decide +kernel
theorem dX9_wall_59 : decode cX9_wall 59 = .ok (.iconst 0, 1) := by decide +kernel
theorem dX9_wall_60 : decode cX9_wall 60 = .ok (.putfield 54, 3) := by decide +kernel
theorem dX9_wall_63 : decode cX9_wall 63 = .ok (.aload_n 0, 1) := by decide +kernel
theorem dX9_wall_64 : decode cX9_wall 64 = .ok (.dup, 1) := by decide +kernel
theorem dX9_wall_65 : decode cX9_wall 65 = .ok (.getfield 58, 3) := by decide +kernel
theorem dX9_wall_68 : decode cX9_wall 68 = .ok (.iconst 1, 1) := by decide +kernel
theorem dX9_wall_69 : decode cX9_wall 69 = .ok (.iadd, 1) := by decide +kernel
theorem dX9_wall_70 : decode cX9_wall 70 = .ok (.putfield 58, 3) := by decide +kernel
theorem dX9_wall_73 : decode cX9_wall 73 = .ok (.aload_n 0, 1) := by decide +kernel
theorem dX9_wall_74 : decode cX9_wall 74 = .ok (.getfield 12, 3) := by decide +kernel
theorem dX9_wall_77 : decode cX9_wall 77 = .ok (.iconst 0, 1) := by decide +kernel
theorem dX9_wall_78 : decode cX9_wall 78 = .ok (.putfield 66, 3) := by decide +kernel
theorem dX9_wall_81 : decode cX9_wall 81 = .ok (.aload_n 0, 1) := by decide +kernel
theorem dX9_wall_82 : decode cX9_wall 82 = .ok (.getfield 26, 3) := by decide +kernel
theorem dX9_wall_85 : decode cX9_wall 85 = .ok (.getfield 93, 3) := by decide +kernel
theorem dX9_wall_88 : decode cX9_wall 88 = .ok (.getfield 94, 3) := by decide +kernel
theorem dX9_wall_91 : decode cX9_wall 91 = .ok (.ireturn, 1) := by decide +kernel
theorem dX9_witness_0 : decode cX9_witness 0 = .ok (.aload_n 0, 1) := by decide +kernel
theorem dX9_witness_1 : decode cX9_witness 1 = .ok (.iload_n 1, 1) := by decide +kernel
theorem dX9_witness_2 : decode cX9_witness 2 = .ok (.invokevirtual 95, 3) := by decide +kernel
theorem dX9_witness_5 : decode cX9_witness 5 = .ok (.ifCond .ne 6, 3) := by decide +kernel
theorem dX9_witness_8 : decode cX9_witness 8 = .ok (.bipush (-101), 2) := by decide +kernel
theorem dX9_witness_10 : decode cX9_witness 10 = .ok (.ireturn, 1) := by decide +kernel
theorem dX9_witness_11 : decode cX9_witness 11 = .ok (.aload_n 0, 1) := by decide +kernel
theorem dX9_witness_12 : decode cX9_witness 12 = .ok (.getfield 26, 3) := by decide +kernel
theorem dX9_witness_15 : decode cX9_witness 15 = .ok (.getfield 93, 3) := by decide +kernel
theorem dX9_witness_18 : decode cX9_witness 18 = .ok (.getfield 99, 3) := by decide +kernel
theorem dX9_witness_21 : decode cX9_witness 21 = .ok (.iload_n 1, 1) := by decide +kernel
theorem dX9_witness_22 : decode cX9_witness 22 = .ok (.aaload, 1) := by decide +kernel
theorem dX9_witness_23 : decode cX9_witness 23 = .ok (.astore_n 3, 1) := by decide +kernel
theorem dX9_witness_24 : decode cX9_witness 24 = .ok (.iload_n 2, 1) := by decide +kernel
theorem dX9_witness_25 : decode cX9_witness 25 = .ok (.tableswitch 101 0 7 #[47, 52, 57, 57, 57, 65, 77, 89], 47) := by decide +kernel
theorem dX9_witness_72 : decode cX9_witness 72 = .ok (.aload_n 3, 1) := by decide +kernel
theorem dX9_witness_73 : decode cX9_witness 73 = .ok (.getfield 103, 3) := by decide +kernel
theorem dX9_witness_76 : decode cX9_witness 76 = .ok (.ireturn, 1) := by decide +kernel
theorem dX9_witness_77 : decode cX9_witness 77 = .ok (.aload_n 3, 1) := by decide +kernel
theorem dX9_witness_78 : decode cX9_witness 78 = .ok (.getfield 108, 3) := by decide +kernel
theorem dX9_witness_81 : decode cX9_witness 81 = .ok (.ireturn, 1) := by decide +kernel
theorem dX9_witness_82 : decode cX9_witness 82 = .ok (.aload_n 3, 1) := by decide +kernel
theorem dX9_witness_83 : decode cX9_witness 83 = .ok (.iload_n 2, 1) := by decide +kernel
theorem dX9_witness_84 : decode cX9_witness 84 = .ok (.iconst 2, 1) := by decide +kernel
theorem dX9_witness_85 : decode cX9_witness 85 = .ok (.isub, 1) := by decide +kernel
theorem dX9_witness_86 : decode cX9_witness 86 = .ok (.invokevirtual 109, 3) := by decide +kernel
theorem dX9_witness_89 : decode cX9_witness 89 = .ok (.ireturn, 1) := by decide +kernel
theorem dX9_witness_90 : decode cX9_witness 90 = .ok (.aload_n 0, 1) := by decide +kernel
theorem dX9_witness_91 : decode cX9_witness 91 = .ok (.getfield 26, 3) := by decide +kernel
theorem dX9_witness_94 : decode cX9_witness 94 = .ok (.getfield 113, 3) := by decide +kernel
theorem dX9_witness_97 : decode cX9_witness 97 = .ok (.iload_n 1, 1) := by decide +kernel
theorem dX9_witness_98 : decode cX9_witness 98 = .ok (.invokevirtual 117, 3) := by decide +kernel
theorem dX9_witness_101 : decode cX9_witness 101 = .ok (.ireturn, 1) := by decide +kernel
theorem dX9_witness_102 : decode cX9_witness 102 = .ok (.aload_n 0, 1) := by decide +kernel
theorem dX9_witness_103 : decode cX9_witness 103 = .ok (.getfield 26, 3) := by decide +kernel
theorem dX9_witness_106 : decode cX9_witness 106 = .ok (.getfield 113, 3) := by decide +kernel
theorem dX9_witness_109 : decode cX9_witness 109 = .ok (.iload_n 1, 1) := by decide +kernel
theorem dX9_witness_110 : decode cX9_witness 110 = .ok (.invokevirtual 122, 3) := by decide +kernel
theorem dX9_witness_113 : decode cX9_witness 113 = .ok (.ireturn, 1) := by decide +kernel
theorem dX9_witness_114 : decode cX9_witness 114 = .ok (.aload_n 0, 1) := by decide +kernel
theorem dX9_witness_115 : decode cX9_witness 115 = .ok (.getfield 26, 3) := by decide +kernel
theorem dX9_witness_118 : decode cX9_witness 118 = .ok (.getfield 93, 3) := by decide +kernel
theorem dX9_witness_121 : decode cX9_witness 121 = .ok (.iload_n 1, 1) := by decide +kernel
theorem dX9_witness_122 : decode cX9_witness 122 = .ok (.invokevirtual 125, 3) := by decide +kernel
theorem dX9_witness_125 : decode cX9_witness 125 = .ok (.ireturn, 1) := by decide +kernel
theorem dX9_witness_126 : decode cX9_witness 126 = .ok (.bipush (-102), 2) := by decide +kernel
theorem dX9_witness_128 : decode cX9_witness 128 = .ok (.ireturn, 1) := by decide +kernel
theorem dX9_as_0 : decode cX9_as 0 = .ok (.aload_n 0, 1) := by decide +kernel
theorem dX9_as_1 : decode cX9_as 1 = .ok (.iload_n 1, 1) := by decide +kernel
theorem dX9_as_2 : decode cX9_as 2 = .ok (.invokevirtual 95, 3) := by decide +kernel
theorem dX9_as_5 : decode cX9_as 5 = .ok (.ifCond .ne 6, 3) := by decide +kernel
theorem dX9_as_8 : decode cX9_as 8 = .ok (.bipush (-101), 2) := by decide +kernel
theorem dX9_as_10 : decode cX9_as 10 = .ok (.ireturn, 1) := by decide +kernel
theorem dX9_as_11 : decode cX9_as 11 = .ok (.iload_n 2, 1) := by decide +kernel
theorem dX9_as_12 : decode cX9_as 12 = .ok (.iconst 0, 1) := by decide +kernel
theorem dX9_as_13 : decode cX9_as 13 = .ok (.iconst 4, 1) := by decide +kernel
theorem dX9_as_14 : decode cX9_as 14 = .ok (.invokestatic 62, 3) := by decide +kernel
theorem dX9_as_17 : decode cX9_as 17 = .ok (.ifCond .ne 6, 3) := by decide +kernel
theorem dX9_as_20 : decode cX9_as 20 = .ok (.bipush (-102), 2) := by decide +kernel
theorem dX9_as_22 : decode cX9_as 22 = .ok (.ireturn, 1) := by decide +kernel
theorem dX9_as_23 : decode cX9_as 23 = .ok (.aload_n 0, 1) := by decide +kernel
theorem dX9_as_24 : decode cX9_as 24 = .ok (.getfield 26, 3) := by decide +kernel
theorem dX9_as_27 : decode cX9_as 27 = .ok (.getfield 93, 3) := by decide +kernel
theorem dX9_as_30 : decode cX9_as 30 = .ok (.getfield 99, 3) := by decide +kernel
theorem dX9_as_33 : decode cX9_as 33 = .ok (.iload_n 1, 1) := by decide +kernel
theorem dX9_as_34 : decode cX9_as 34 = .ok (.aaload, 1) := by decide +kernel
theorem dX9_as_35 : decode cX9_as 35 = .ok (.iload_n 2, 1) := by decide +kernel
theorem dX9_as_36 : decode cX9_as 36 = .ok (.invokevirtual 128, 3) := by decide +kernel
theorem dX9_as_39 : decode cX9_as 39 = .ok (.ifCond .eq 7, 3) := by decide +kernel
theorem dX9_as_42 : decode cX9_as 42 = .ok (.iload_n 1, 1) := by decide +kernel
theorem dX9_as_43 : decode cX9_as 43 = .ok (.goto 4, 3) := by decide +kernel
theorem dX9_as_46 : decode cX9_as 46 = .ok (.iconst (-1), 1) := by decide +kernel
theorem dX9_as_47 : decode cX9_as 47 = .ok (.ireturn, 1) := by decide +kernel
theorem dX9_tells_0 : decode cX9_tells 0 = .ok (.aload_n 0, 1) := by decide +kernel
theorem dX9_tells_1 : decode cX9_tells 1 = .ok (.iload_n 1, 1) := by decide +kernel
theorem dX9_tells_2 : decode cX9_tells 2 = .ok (.invokevirtual 95, 3) := by decide +kernel
theorem dX9_tells_5 : decode cX9_tells 5 = .ok (.ifCond .ne 6, 3) := by decide +kernel
theorem dX9_tells_8 : decode cX9_tells 8 = .ok (.bipush (-101), 2) := by decide +kernel
theorem dX9_tells_10 : decode cX9_tells 10 = .ok (.ireturn, 1) := by decide +kernel
theorem dX9_tells_11 : decode cX9_tells 11 = .ok (.iload_n 2, 1) := by decide +kernel
theorem dX9_tells_12 : decode cX9_tells 12 = .ok (.invokestatic 131, 3) := by decide +kernel
theorem dX9_tells_15 : decode cX9_tells 15 = .ok (.ifCond .ne 6, 3) := by decide +kernel
theorem dX9_tells_18 : decode cX9_tells 18 = .ok (.bipush (-102), 2) := by decide +kernel
theorem dX9_tells_20 : decode cX9_tells 20 = .ok (.ireturn, 1) := by decide +kernel
theorem dX9_tells_21 : decode cX9_tells 21 = .ok (.aload_n 0, 1) := by decide +kernel
theorem dX9_tells_22 : decode cX9_tells 22 = .ok (.getfield 26, 3) := by decide +kernel
theorem dX9_tells_25 : decode cX9_tells 25 = .ok (.getfield 93, 3) := by decide +kernel
theorem dX9_tells_28 : decode cX9_tells 28 = .ok (.getfield 99, 3) := by decide +kernel
theorem dX9_tells_31 : decode cX9_tells 31 = .ok (.iload_n 1, 1) := by decide +kernel
theorem dX9_tells_32 : decode cX9_tells 32 = .ok (.aaload, 1) := by decide +kernel
theorem dX9_tells_33 : decode cX9_tells 33 = .ok (.iload_n 2, 1) := by decide +kernel
theorem dX9_tells_34 : decode cX9_tells 34 = .ok (.invokevirtual 134, 3) := by decide +kernel
theorem dX9_tells_37 : decode cX9_tells 37 = .ok (.ireturn, 1) := by decide +kernel
theorem dX9_said_0 : decode cX9_said 0 = .ok (.iload_n 1, 1) := by decide +kernel
theorem dX9_said_1 : decode cX9_said 1 = .ok (.invokestatic 131, 3) := by decide +kernel
theorem dX9_said_4 : decode cX9_said 4 = .ok (.ifCond .ne 6, 3) := by decide +kernel
theorem dX9_said_7 : decode cX9_said 7 = .ok (.bipush (-102), 2) := by decide +kernel
theorem dX9_said_9 : decode cX9_said 9 = .ok (.ireturn, 1) := by decide +kernel
theorem dX9_said_10 : decode cX9_said 10 = .ok (.aload_n 0, 1) := by decide +kernel
theorem dX9_said_11 : decode cX9_said 11 = .ok (.invokevirtual 137, 3) := by decide +kernel
theorem dX9_said_14 : decode cX9_said 14 = .ok (.ifCond .ne 6, 3) := by decide +kernel
theorem dX9_said_17 : decode cX9_said 17 = .ok (.bipush (-103), 2) := by decide +kernel
theorem dX9_said_19 : decode cX9_said 19 = .ok (.ireturn, 1) := by decide +kernel
theorem dX9_said_20 : decode cX9_said 20 = .ok (.aload_n 0, 1) := by decide +kernel
theorem dX9_said_21 : decode cX9_said 21 = .ok (.getfield 26, 3) := by decide +kernel
theorem dX9_said_24 : decode cX9_said 24 = .ok (.getfield 93, 3) := by decide +kernel
theorem dX9_said_27 : decode cX9_said 27 = .ok (.aload_n 0, 1) := by decide +kernel
theorem dX9_said_28 : decode cX9_said 28 = .ok (.getfield 26, 3) := by decide +kernel
theorem dX9_said_31 : decode cX9_said 31 = .ok (.getfield 93, 3) := by decide +kernel
theorem dX9_said_34 : decode cX9_said 34 = .ok (.invokevirtual 140, 3) := by decide +kernel
theorem dX9_said_37 : decode cX9_said 37 = .ok (.iload_n 1, 1) := by decide +kernel
theorem dX9_said_38 : decode cX9_said 38 = .ok (.invokevirtual 143, 3) := by decide +kernel
theorem dX9_said_41 : decode cX9_said 41 = .ok (.ireturn, 1) := by decide +kernel
theorem dX9_having_0 : decode cX9_having 0 = .ok (.iload_n 1, 1) := by decide +kernel
theorem dX9_having_1 : decode cX9_having 1 = .ok (.invokestatic 131, 3) := by decide +kernel
theorem dX9_having_4 : decode cX9_having 4 = .ok (.ifCond .eq 10, 3) := by decide +kernel
theorem dX9_having_7 : decode cX9_having 7 = .ok (.iload_n 2, 1) := by decide +kernel
theorem dX9_having_8 : decode cX9_having 8 = .ok (.invokestatic 147, 3) := by decide +kernel
theorem dX9_having_11 : decode cX9_having 11 = .ok (.ifCond .ne 6, 3) := by decide +kernel
theorem dX9_having_14 : decode cX9_having 14 = .ok (.bipush (-102), 2) := by decide +kernel
theorem dX9_having_16 : decode cX9_having 16 = .ok (.ireturn, 1) := by decide +kernel
theorem dX9_having_17 : decode cX9_having 17 = .ok (.aload_n 0, 1) := by decide +kernel
theorem dX9_having_18 : decode cX9_having 18 = .ok (.invokevirtual 137, 3) := by decide +kernel
theorem dX9_having_21 : decode cX9_having 21 = .ok (.ifCond .ne 6, 3) := by decide +kernel
theorem dX9_having_24 : decode cX9_having 24 = .ok (.bipush (-103), 2) := by decide +kernel
theorem dX9_having_26 : decode cX9_having 26 = .ok (.ireturn, 1) := by decide +kernel
theorem dX9_having_27 : decode cX9_having 27 = .ok (.aload_n 0, 1) := by decide +kernel
theorem dX9_having_28 : decode cX9_having 28 = .ok (.getfield 26, 3) := by decide +kernel
theorem dX9_having_31 : decode cX9_having 31 = .ok (.getfield 93, 3) := by decide +kernel
theorem dX9_having_34 : decode cX9_having 34 = .ok (.iload_n 1, 1) := by decide +kernel
theorem dX9_having_35 : decode cX9_having 35 = .ok (.iconst 4, 1) := by decide +kernel
theorem dX9_having_36 : decode cX9_having 36 = .ok (.imul, 1) := by decide +kernel
theorem dX9_having_37 : decode cX9_having 37 = .ok (.iload_n 2, 1) := by decide +kernel
theorem dX9_having_38 : decode cX9_having 38 = .ok (.iadd, 1) := by decide +kernel
theorem dX9_having_39 : decode cX9_having 39 = .ok (.invokevirtual 150, 3) := by decide +kernel
theorem dX9_having_42 : decode cX9_having 42 = .ok (.ireturn, 1) := by decide +kernel
theorem dX9_show_0 : decode cX9_show 0 = .ok (.aload_n 0, 1) := by decide +kernel
theorem dX9_show_1 : decode cX9_show 1 = .ok (.iload_n 1, 1) := by decide +kernel
theorem dX9_show_2 : decode cX9_show 2 = .ok (.invokevirtual 95, 3) := by decide +kernel
theorem dX9_show_5 : decode cX9_show 5 = .ok (.ifCond .ne 6, 3) := by decide +kernel
theorem dX9_show_8 : decode cX9_show 8 = .ok (.bipush (-101), 2) := by decide +kernel
theorem dX9_show_10 : decode cX9_show 10 = .ok (.ireturn, 1) := by decide +kernel
theorem dX9_show_11 : decode cX9_show 11 = .ok (.iload_n 2, 1) := by decide +kernel
theorem dX9_show_12 : decode cX9_show 12 = .ok (.invokestatic 131, 3) := by decide +kernel
theorem dX9_show_15 : decode cX9_show 15 = .ok (.ifCond .eq 10, 3) := by decide +kernel
theorem dX9_show_18 : decode cX9_show 18 = .ok (.iload_n 3, 1) := by decide +kernel
theorem dX9_show_19 : decode cX9_show 19 = .ok (.invokestatic 147, 3) := by decide +kernel
theorem dX9_show_22 : decode cX9_show 22 = .ok (.ifCond .ne 6, 3) := by decide +kernel
theorem dX9_show_25 : decode cX9_show 25 = .ok (.bipush (-102), 2) := by decide +kernel
theorem dX9_show_27 : decode cX9_show 27 = .ok (.ireturn, 1) := by decide +kernel
theorem dX9_show_28 : decode cX9_show 28 = .ok (.aload_n 0, 1) := by decide +kernel
theorem dX9_show_29 : decode cX9_show 29 = .ok (.getfield 26, 3) := by decide +kernel
theorem dX9_show_32 : decode cX9_show 32 = .ok (.getfield 153, 3) := by decide +kernel
theorem dX9_show_35 : decode cX9_show 35 = .ok (.sipush 9999, 3) := by decide +kernel
theorem dX9_show_38 : decode cX9_show 38 = .ok (.if_icmp .lt 6, 3) := by decide +kernel
theorem dX9_show_41 : decode cX9_show 41 = .ok (.bipush (-104), 2) := by decide +kernel
theorem dX9_show_43 : decode cX9_show 43 = .ok (.ireturn, 1) := by decide +kernel
theorem dX9_show_44 : decode cX9_show 44 = .ok (.aload_n 0, 1) := by decide +kernel
theorem dX9_show_45 : decode cX9_show 45 = .ok (.getfield 26, 3) := by decide +kernel
theorem dX9_show_48 : decode cX9_show 48 = .ok (.dup, 1) := by decide +kernel
theorem dX9_show_49 : decode cX9_show 49 = .ok (.getfield 153, 3) := by decide +kernel
theorem dX9_show_52 : decode cX9_show 52 = .ok (.iconst 1, 1) := by decide +kernel
theorem dX9_show_53 : decode cX9_show 53 = .ok (.iadd, 1) := by decide +kernel
theorem dX9_show_54 : decode cX9_show 54 = .ok (.putfield 153, 3) := by decide +kernel
theorem dX9_show_57 : decode cX9_show 57 = .ok (.aload_n 0, 1) := by decide +kernel
theorem dX9_show_58 : decode cX9_show 58 = .ok (.getfield 26, 3) := by decide +kernel
theorem dX9_show_61 : decode cX9_show 61 = .ok (.getfield 93, 3) := by decide +kernel
theorem dX9_show_64 : decode cX9_show 64 = .ok (.getfield 99, 3) := by decide +kernel
theorem dX9_show_67 : decode cX9_show 67 = .ok (.iload_n 1, 1) := by decide +kernel
theorem dX9_show_68 : decode cX9_show 68 = .ok (.aaload, 1) := by decide +kernel
theorem dX9_show_69 : decode cX9_show 69 = .ok (.iload_n 2, 1) := by decide +kernel
theorem dX9_show_70 : decode cX9_show 70 = .ok (.iconst 4, 1) := by decide +kernel
theorem dX9_show_71 : decode cX9_show 71 = .ok (.imul, 1) := by decide +kernel
theorem dX9_show_72 : decode cX9_show 72 = .ok (.iload_n 3, 1) := by decide +kernel
theorem dX9_show_73 : decode cX9_show 73 = .ok (.iadd, 1) := by decide +kernel
theorem dX9_show_74 : decode cX9_show 74 = .ok (.invokevirtual 156, 3) := by decide +kernel
theorem dX9_show_77 : decode cX9_show 77 = .ok (.ifCond .eq 7, 3) := by decide +kernel
theorem dX9_show_80 : decode cX9_show 80 = .ok (.iconst 1, 1) := by decide +kernel
theorem dX9_show_81 : decode cX9_show 81 = .ok (.goto 4, 3) := by decide +kernel
theorem dX9_show_84 : decode cX9_show 84 = .ok (.iconst 0, 1) := by decide +kernel
theorem dX9_show_85 : decode cX9_show 85 = .ok (.ireturn, 1) := by decide +kernel
theorem dX9_be_0 : decode cX9_be 0 = .ok (.aload_n 0, 1) := by decide +kernel
theorem dX9_be_1 : decode cX9_be 1 = .ok (.iload_n 1, 1) := by decide +kernel
theorem dX9_be_2 : decode cX9_be 2 = .ok (.invokevirtual 95, 3) := by decide +kernel
theorem dX9_be_5 : decode cX9_be 5 = .ok (.ifCond .ne 6, 3) := by decide +kernel
theorem dX9_be_8 : decode cX9_be 8 = .ok (.bipush (-101), 2) := by decide +kernel
theorem dX9_be_10 : decode cX9_be 10 = .ok (.ireturn, 1) := by decide +kernel
theorem dX9_be_11 : decode cX9_be 11 = .ok (.iload_n 2, 1) := by decide +kernel
theorem dX9_be_12 : decode cX9_be 12 = .ok (.iconst 0, 1) := by decide +kernel
theorem dX9_be_13 : decode cX9_be 13 = .ok (.iconst 4, 1) := by decide +kernel
theorem dX9_be_14 : decode cX9_be 14 = .ok (.invokestatic 62, 3) := by decide +kernel
theorem dX9_be_17 : decode cX9_be 17 = .ok (.ifCond .ne 6, 3) := by decide +kernel
theorem dX9_be_20 : decode cX9_be 20 = .ok (.bipush (-102), 2) := by decide +kernel
theorem dX9_be_22 : decode cX9_be 22 = .ok (.ireturn, 1) := by decide +kernel
theorem dX9_be_23 : decode cX9_be 23 = .ok (.aload_n 0, 1) := by decide +kernel
theorem dX9_be_24 : decode cX9_be 24 = .ok (.getfield 26, 3) := by decide +kernel
theorem dX9_be_27 : decode cX9_be 27 = .ok (.getfield 93, 3) := by decide +kernel
theorem dX9_be_30 : decode cX9_be 30 = .ok (.getfield 99, 3) := by decide +kernel
theorem dX9_be_33 : decode cX9_be 33 = .ok (.iload_n 1, 1) := by decide +kernel
theorem dX9_be_34 : decode cX9_be 34 = .ok (.aaload, 1) := by decide +kernel
theorem dX9_be_35 : decode cX9_be 35 = .ok (.astore_n 3, 1) := by decide +kernel
theorem dX9_be_36 : decode cX9_be 36 = .ok (.aload_n 3, 1) := by decide +kernel
theorem dX9_be_37 : decode cX9_be 37 = .ok (.getfield 103, 3) := by decide +kernel
theorem dX9_be_40 : decode cX9_be 40 = .ok (.istore 4, 2) := by decide +kernel
theorem dX9_be_42 : decode cX9_be 42 = .ok (.aload_n 3, 1) := by decide +kernel
theorem dX9_be_43 : decode cX9_be 43 = .ok (.iload_n 2, 1) := by decide +kernel
theorem dX9_be_44 : decode cX9_be 44 = .ok (.putfield 103, 3) := by decide +kernel
theorem dX9_be_47 : decode cX9_be 47 = .ok (.iload 4, 2) := by decide +kernel
theorem dX9_be_49 : decode cX9_be 49 = .ok (.ireturn, 1) := by decide +kernel
theorem dX9_slip_0 : decode cX9_slip 0 = .ok (.iload_n 1, 1) := by decide +kernel
theorem dX9_slip_1 : decode cX9_slip 1 = .ok (.iconst 1, 1) := by decide +kernel
theorem dX9_slip_2 : decode cX9_slip 2 = .ok (.bipush 6, 2) := by decide +kernel
theorem dX9_slip_4 : decode cX9_slip 4 = .ok (.invokestatic 62, 3) := by decide +kernel
theorem dX9_slip_7 : decode cX9_slip 7 = .ok (.ifCond .ne 6, 3) := by decide +kernel
theorem dX9_slip_10 : decode cX9_slip 10 = .ok (.bipush (-102), 2) := by decide +kernel
theorem dX9_slip_12 : decode cX9_slip 12 = .ok (.ireturn, 1) := by decide +kernel
theorem dX9_slip_13 : decode cX9_slip 13 = .ok (.aload_n 0, 1) := by decide +kernel
theorem dX9_slip_14 : decode cX9_slip 14 = .ok (.iload_n 2, 1) := by decide +kernel
theorem dX9_slip_15 : decode cX9_slip 15 = .ok (.invokevirtual 95, 3) := by decide +kernel
theorem dX9_slip_18 : decode cX9_slip 18 = .ok (.ifCond .ne 6, 3) := by decide +kernel
theorem dX9_slip_21 : decode cX9_slip 21 = .ok (.bipush (-101), 2) := by decide +kernel
theorem dX9_slip_23 : decode cX9_slip 23 = .ok (.ireturn, 1) := by decide +kernel
theorem dX9_slip_24 : decode cX9_slip 24 = .ok (.iload_n 3, 1) := by decide +kernel
theorem dX9_slip_25 : decode cX9_slip 25 = .ok (.invokestatic 131, 3) := by decide +kernel
theorem dX9_slip_28 : decode cX9_slip 28 = .ok (.ifCond .eq 11, 3) := by decide +kernel
theorem dX9_slip_31 : decode cX9_slip 31 = .ok (.iload 4, 2) := by decide +kernel
theorem dX9_slip_33 : decode cX9_slip 33 = .ok (.invokestatic 147, 3) := by decide +kernel
theorem dX9_slip_36 : decode cX9_slip 36 = .ok (.ifCond .ne 6, 3) := by decide +kernel
theorem dX9_slip_39 : decode cX9_slip 39 = .ok (.bipush (-102), 2) := by decide +kernel
theorem dX9_slip_41 : decode cX9_slip 41 = .ok (.ireturn, 1) := by decide +kernel
theorem dX9_slip_42 : decode cX9_slip 42 = .ok (.aload_n 0, 1) := by decide +kernel
theorem dX9_slip_43 : decode cX9_slip 43 = .ok (.getfield 26, 3) := by decide +kernel
theorem dX9_slip_46 : decode cX9_slip 46 = .ok (.getfield 159, 3) := by decide +kernel
theorem dX9_slip_49 : decode cX9_slip 49 = .ok (.getfield 163, 3) := by decide +kernel
theorem dX9_slip_52 : decode cX9_slip 52 = .ok (.bipush 6, 2) := by decide +kernel
theorem dX9_slip_54 : decode cX9_slip 54 = .ok (.if_icmp .lt 6, 3) := by decide +kernel
theorem dX9_slip_57 : decode cX9_slip 57 = .ok (.bipush (-104), 2) := by decide +kernel
theorem dX9_slip_59 : decode cX9_slip 59 = .ok (.ireturn, 1) := by decide +kernel
theorem dX9_slip_60 : decode cX9_slip 60 = .ok (.aload_n 0, 1) := by decide +kernel
theorem dX9_slip_61 : decode cX9_slip 61 = .ok (.getfield 26, 3) := by decide +kernel
theorem dX9_slip_64 : decode cX9_slip 64 = .ok (.getfield 159, 3) := by decide +kernel
theorem dX9_slip_67 : decode cX9_slip 67 = .ok (.iload_n 1, 1) := by decide +kernel
theorem dX9_slip_68 : decode cX9_slip 68 = .ok (.iload_n 2, 1) := by decide +kernel
theorem dX9_slip_69 : decode cX9_slip 69 = .ok (.iload_n 3, 1) := by decide +kernel
theorem dX9_slip_70 : decode cX9_slip 70 = .ok (.iconst 4, 1) := by decide +kernel
theorem dX9_slip_71 : decode cX9_slip 71 = .ok (.imul, 1) := by decide +kernel
theorem dX9_slip_72 : decode cX9_slip 72 = .ok (.iload 4, 2) := by decide +kernel
theorem dX9_slip_74 : decode cX9_slip 74 = .ok (.iadd, 1) := by decide +kernel
theorem dX9_slip_75 : decode cX9_slip 75 = .ok (.invokevirtual 166, 3) := by decide +kernel
theorem dX9_slip_78 : decode cX9_slip 78 = .ok (.aload_n 0, 1) := by decide +kernel
theorem dX9_slip_79 : decode cX9_slip 79 = .ok (.getfield 26, 3) := by decide +kernel
theorem dX9_slip_82 : decode cX9_slip 82 = .ok (.getfield 159, 3) := by decide +kernel
theorem dX9_slip_85 : decode cX9_slip 85 = .ok (.getfield 163, 3) := by decide +kernel
theorem dX9_slip_88 : decode cX9_slip 88 = .ok (.ireturn, 1) := by decide +kernel
theorem dX9_tear_0 : decode cX9_tear 0 = .ok (.aload_n 0, 1) := by decide +kernel
theorem dX9_tear_1 : decode cX9_tear 1 = .ok (.getfield 26, 3) := by decide +kernel
theorem dX9_tear_4 : decode cX9_tear 4 = .ok (.getfield 159, 3) := by decide +kernel
theorem dX9_tear_7 : decode cX9_tear 7 = .ok (.getfield 163, 3) := by decide +kernel
theorem dX9_tear_10 : decode cX9_tear 10 = .ok (.istore_n 1, 1) := by decide +kernel
theorem dX9_tear_11 : decode cX9_tear 11 = .ok (.aload_n 0, 1) := by decide +kernel
theorem dX9_tear_12 : decode cX9_tear 12 = .ok (.getfield 26, 3) := by decide +kernel
theorem dX9_tear_15 : decode cX9_tear 15 = .ok (.getfield 159, 3) := by decide +kernel
theorem dX9_tear_18 : decode cX9_tear 18 = .ok (.iconst 0, 1) := by decide +kernel
theorem dX9_tear_19 : decode cX9_tear 19 = .ok (.putfield 163, 3) := by decide +kernel
theorem dX9_tear_22 : decode cX9_tear 22 = .ok (.iload_n 1, 1) := by decide +kernel
theorem dX9_tear_23 : decode cX9_tear 23 = .ok (.ireturn, 1) := by decide +kernel
theorem dX9_term_0 : decode cX9_term 0 = .ok (.iload_n 1, 1) := by decide +kernel
theorem dX9_term_1 : decode cX9_term 1 = .ok (.iconst 0, 1) := by decide +kernel
theorem dX9_term_2 : decode cX9_term 2 = .ok (.iconst 1, 1) := by decide +kernel
theorem dX9_term_3 : decode cX9_term 3 = .ok (.invokestatic 62, 3) := by decide +kernel
theorem dX9_term_6 : decode cX9_term 6 = .ok (.ifCond .ne 6, 3) := by decide +kernel
theorem dX9_term_9 : decode cX9_term 9 = .ok (.bipush (-102), 2) := by decide +kernel
theorem dX9_term_11 : decode cX9_term 11 = .ok (.ireturn, 1) := by decide +kernel
theorem dX9_term_12 : decode cX9_term 12 = .ok (.aload_n 0, 1) := by decide +kernel
theorem dX9_term_13 : decode cX9_term 13 = .ok (.invokevirtual 137, 3) := by decide +kernel
theorem dX9_term_16 : decode cX9_term 16 = .ok (.ifCond .ne 6, 3) := by decide +kernel
theorem dX9_term_19 : decode cX9_term 19 = .ok (.bipush (-103), 2) := by decide +kernel
theorem dX9_term_21 : decode cX9_term 21 = .ok (.ireturn, 1) := by decide +kernel
theorem dX9_term_22 : decode cX9_term 22 = .ok (.aload_n 0, 1) := by decide +kernel
theorem dX9_term_23 : decode cX9_term 23 = .ok (.getfield 36, 3) := by decide +kernel
theorem dX9_term_26 : decode cX9_term 26 = .ok (.aload_n 0, 1) := by decide +kernel
theorem dX9_term_27 : decode cX9_term 27 = .ok (.getfield 26, 3) := by decide +kernel
theorem dX9_term_30 : decode cX9_term 30 = .ok (.getfield 93, 3) := by decide +kernel
theorem dX9_term_33 : decode cX9_term 33 = .ok (.invokevirtual 170, 3) := by decide +kernel
theorem dX9_term_36 : decode cX9_term 36 = .ok (.aload_n 0, 1) := by decide +kernel
theorem dX9_term_37 : decode cX9_term 37 = .ok (.getfield 43, 3) := by decide +kernel
theorem dX9_term_40 : decode cX9_term 40 = .ok (.aload_n 0, 1) := by decide +kernel
theorem dX9_term_41 : decode cX9_term 41 = .ok (.getfield 19, 3) := by decide +kernel
theorem dX9_term_44 : decode cX9_term 44 = .ok (.aload_n 0, 1) := by decide +kernel
theorem dX9_term_45 : decode cX9_term 45 = .ok (.getfield 36, 3) := by decide +kernel
theorem dX9_term_48 : decode cX9_term 48 = .ok (.aload_n 0, 1) := by decide +kernel
theorem dX9_term_49 : decode cX9_term 49 = .ok (.getfield 26, 3) := by decide +kernel
theorem dX9_term_52 : decode cX9_term 52 = .ok (.getfield 159, 3) := by decide +kernel
theorem dX9_term_55 : decode cX9_term 55 = .ok (.invokevirtual 172, 3) := by decide +kernel
theorem dX9_term_58 : decode cX9_term 58 = .ok (.iload_n 1, 1) := by decide +kernel
theorem dX9_term_59 : decode cX9_term 59 = .ok (.ifCond .ne 13, 3) := by decide +kernel
theorem dX9_term_62 : decode cX9_term 62 = .ok (.aload_n 0, 1) := by decide +kernel
theorem dX9_term_63 : decode cX9_term 63 = .ok (.getfield 43, 3) := by decide +kernel
theorem dX9_term_66 : decode cX9_term 66 = .ok (.invokevirtual 176, 3) := by decide +kernel
theorem dX9_term_69 : decode cX9_term 69 = .ok (.goto 10, 3) := by decide +kernel
theorem dX9_term_72 : decode cX9_term 72 = .ok (.aload_n 0, 1) := by decide +kernel
theorem dX9_term_73 : decode cX9_term 73 = .ok (.getfield 43, 3) := by decide +kernel
theorem dX9_term_76 : decode cX9_term 76 = .ok (.invokevirtual 179, 3) := by decide +kernel
theorem dX9_term_79 : decode cX9_term 79 = .ok (.ireturn, 1) := by decide +kernel
theorem dX9_keep_0 : decode cX9_keep 0 = .ok (.iload_n 1, 1) := by decide +kernel
theorem dX9_keep_1 : decode cX9_keep 1 = .ok (.iconst 0, 1) := by decide +kernel
theorem dX9_keep_2 : decode cX9_keep 2 = .ok (.iconst 1, 1) := by decide +kernel
theorem dX9_keep_3 : decode cX9_keep 3 = .ok (.invokestatic 62, 3) := by decide +kernel
theorem dX9_keep_6 : decode cX9_keep 6 = .ok (.ifCond .ne 6, 3) := by decide +kernel
theorem dX9_keep_9 : decode cX9_keep 9 = .ok (.bipush (-102), 2) := by decide +kernel
theorem dX9_keep_11 : decode cX9_keep 11 = .ok (.ireturn, 1) := by decide +kernel
theorem dX9_keep_12 : decode cX9_keep 12 = .ok (.aload_n 0, 1) := by decide +kernel
theorem dX9_keep_13 : decode cX9_keep 13 = .ok (.invokevirtual 137, 3) := by decide +kernel
theorem dX9_keep_16 : decode cX9_keep 16 = .ok (.ifCond .ne 6, 3) := by decide +kernel
theorem dX9_keep_19 : decode cX9_keep 19 = .ok (.bipush (-103), 2) := by decide +kernel
theorem dX9_keep_21 : decode cX9_keep 21 = .ok (.ireturn, 1) := by decide +kernel
theorem dX9_keep_22 : decode cX9_keep 22 = .ok (.aload_n 0, 1) := by decide +kernel
theorem dX9_keep_23 : decode cX9_keep 23 = .ok (.getfield 26, 3) := by decide +kernel
theorem dX9_keep_26 : decode cX9_keep 26 = .ok (.getfield 93, 3) := by decide +kernel
theorem dX9_keep_29 : decode cX9_keep 29 = .ok (.invokevirtual 182, 3) := by decide +kernel
theorem dX9_keep_32 : decode cX9_keep 32 = .ok (.istore_n 2, 1) := by decide +kernel
theorem dX9_keep_33 : decode cX9_keep 33 = .ok (.iload_n 1, 1) := by decide +kernel
theorem dX9_keep_34 : decode cX9_keep 34 = .ok (.ifCond .ne 10, 3) := by decide +kernel
theorem dX9_keep_37 : decode cX9_keep 37 = .ok (.iload_n 2, 1) := by decide +kernel
theorem dX9_keep_38 : decode cX9_keep 38 = .ok (.invokestatic 185, 3) := by decide +kernel
theorem dX9_keep_41 : decode cX9_keep 41 = .ok (.goto 4, 3) := by decide +kernel
