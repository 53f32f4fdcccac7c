theorem dX10_isIn_13 : decode cX10_isIn 13 = .ok (.iconst 0, 1) := by decide +kernel
theorem dX10_isIn_14 : decode cX10_isIn 14 = .ok (.ireturn, 1) := by decide +kernel
theorem dX10_size_0 : decode cX10_size 0 = .ok (.iconst 0, 1) := by decide +kernel
theorem dX10_size_1 : decode cX10_size 1 = .ok (.istore_n 1, 1) := by decide +kernel
theorem dX10_size_2 : decode cX10_size 2 = .ok (.iconst 0, 1) := by decide +kernel
theorem dX10_size_3 : decode cX10_size 3 = .ok (.istore_n 2, 1) := by decide +kernel
theorem dX10_size_4 : decode cX10_size 4 = .ok (.iload_n 2, 1) := by decide +kernel
theorem dX10_size_5 : decode cX10_size 5 = .ok (.bipush 24, 2) := by decide +kernel
theorem dX10_size_7 : decode cX10_size 7 = .ok (.if_icmp .ge 17, 3) := by decide +kernel
theorem dX10_size_10 : decode cX10_size 10 = .ok (.iload_n 1, 1) := by decide +kernel
theorem dX10_size_11 : decode cX10_size 11 = .ok (.iload_n 0, 1) := by decide +kernel
theorem dX10_size_12 : decode cX10_size 12 = .ok (.iload_n 2, 1) := by decide +kernel
theorem dX10_size_13 : decode cX10_size 13 = .ok (.ishr, 1) := by decide +kernel
theorem dX10_size_14 : decode cX10_size 14 = .ok (.iconst 1, 1) := by decide +kernel
theorem dX10_size_15 : decode cX10_size 15 = .ok (.iand, 1) := by decide +kernel
theorem dX10_size_16 : decode cX10_size 16 = .ok (.iadd, 1) := by decide +kernel
theorem dX10_size_17 : decode cX10_size 17 = .ok (.istore_n 1, 1) := by decide +kernel
theorem dX10_size_18 : decode cX10_size 18 = .ok (.iinc 2 1, 3) := by decide +kernel
theorem dX10_size_21 : decode cX10_size 21 = .ok (.goto (-17), 3) := by decide +kernel
theorem dX10_size_24 : decode cX10_size 24 = .ok (.iload_n 1, 1) := by decide +kernel
theorem dX10_size_25 : decode cX10_size 25 = .ok (.ireturn, 1) := by decide +kernel
theorem dX10_divisor_0 : decode cX10_divisor 0 = .ok (.iload_n 0, 1) := by decide +kernel
theorem dX10_divisor_1 : decode cX10_divisor 1 = .ok (.istore_n 2, 1) := by decide +kernel
theorem dX10_divisor_2 : decode cX10_divisor 2 = .ok (.iload_n 1, 1) := by decide +kernel
theorem dX10_divisor_3 : decode cX10_divisor 3 = .ok (.istore_n 3, 1) := by decide +kernel
theorem dX10_divisor_4 : decode cX10_divisor 4 = .ok (.iload_n 3, 1) := by decide +kernel
theorem dX10_divisor_5 : decode cX10_divisor 5 = .ok (.ifCond .eq 16, 3) := by decide +kernel
theorem dX10_divisor_8 : decode cX10_divisor 8 = .ok (.iload_n 2, 1) := by decide +kernel
theorem dX10_divisor_9 : decode cX10_divisor 9 = .ok (.iload_n 3, 1) := by decide +kernel
theorem dX10_divisor_10 : decode cX10_divisor 10 = .ok (.irem, 1) := by decide +kernel
theorem dX10_divisor_11 : decode cX10_divisor 11 = .ok (.istore 4, 2) := by decide +kernel
theorem dX10_divisor_13 : decode cX10_divisor 13 = .ok (.iload_n 3, 1) := by decide +kernel
theorem dX10_divisor_14 : decode cX10_divisor 14 = .ok (.istore_n 2, 1) := by decide +kernel
theorem dX10_divisor_15 : decode cX10_divisor 15 = .ok (.iload 4, 2) := by decide +kernel
theorem dX10_divisor_17 : decode cX10_divisor 17 = .ok (.istore_n 3, 1) := by decide +kernel
theorem dX10_divisor_18 : decode cX10_divisor 18 = .ok (.goto (-14), 3) := by decide +kernel
theorem dX10_divisor_21 : decode cX10_divisor 21 = .ok (.iload_n 2, 1) := by decide +kernel
theorem dX10_divisor_22 : decode cX10_divisor 22 = .ok (.ireturn, 1) := by decide +kernel
theorem dX10_letter_0 : decode cX10_letter 0 = .ok (.iload_n 1, 1) := by decide +kernel
theorem dX10_letter_1 : decode cX10_letter 1 = .ok (.bipush 32, 2) := by decide +kernel
theorem dX10_letter_3 : decode cX10_letter 3 = .ok (.bipush 126, 2) := by decide +kernel
theorem dX10_letter_5 : decode cX10_letter 5 = .ok (.invokestatic 101, 3) := by decide +kernel
theorem dX10_letter_8 : decode cX10_letter 8 = .ok (.ifCond .ne 6, 3) := by decide +kernel
theorem dX10_letter_11 : decode cX10_letter 11 = .ok (.bipush (-102), 2) := by decide +kernel
theorem dX10_letter_13 : decode cX10_letter 13 = .ok (.ireturn, 1) := by decide +kernel
theorem dX10_letter_14 : decode cX10_letter 14 = .ok (.aload_n 0, 1) := by decide +kernel
theorem dX10_letter_15 : decode cX10_letter 15 = .ok (.getfield 105, 3) := by decide +kernel
theorem dX10_letter_18 : decode cX10_letter 18 = .ok (.bipush 54, 2) := by decide +kernel
theorem dX10_letter_20 : decode cX10_letter 20 = .ok (.if_icmp .ne 6, 3) := by decide +kernel
theorem dX10_letter_23 : decode cX10_letter 23 = .ok (.bipush (-104), 2) := by decide +kernel
theorem dX10_letter_25 : decode cX10_letter 25 = .ok (.ireturn, 1) := by decide +kernel
theorem dX10_letter_26 : decode cX10_letter 26 = .ok (.aload_n 0, 1) := by decide +kernel
theorem dX10_letter_27 : decode cX10_letter 27 = .ok (.getfield 43, 3) := by decide +kernel
theorem dX10_letter_30 : decode cX10_letter 30 = .ok (.aload_n 0, 1) := by decide +kernel
theorem dX10_letter_31 : decode cX10_letter 31 = .ok (.getfield 105, 3) := by decide +kernel
theorem dX10_letter_34 : decode cX10_letter 34 = .ok (.iload_n 1, 1) := by decide +kernel
theorem dX10_letter_35 : decode cX10_letter 35 = .ok (.i2b, 1) := by decide +kernel
theorem dX10_letter_36 : decode cX10_letter 36 = .ok (.bastore, 1) := by decide +kernel
theorem dX10_letter_37 : decode cX10_letter 37 = .ok (.aload_n 0, 1) := by decide +kernel
theorem dX10_letter_38 : decode cX10_letter 38 = .ok (.dup, 1) := by decide +kernel
theorem dX10_letter_39 : decode cX10_letter 39 = .ok (.getfield 105, 3) := by decide +kernel
theorem dX10_letter_42 : decode cX10_letter 42 = .ok (.iconst 1, 1) := by decide +kernel
theorem dX10_letter_43 : decode cX10_letter 43 = .ok (.iadd, 1) := by decide +kernel
theorem dX10_letter_44 : decode cX10_letter 44 = .ok (.putfield 105, 3) := by decide +kernel
theorem dX10_letter_47 : decode cX10_letter 47 = .ok (.aload_n 0, 1) := by decide +kernel
theorem dX10_letter_48 : decode cX10_letter 48 = .ok (.getfield 105, 3) := by decide +kernel
theorem dX10_letter_51 : decode cX10_letter 51 = .ok (.ireturn, 1) := by decide +kernel
theorem dX10_blank_0 : decode cX10_blank 0 = .ok (.aload_n 0, 1) := by decide +kernel
theorem dX10_blank_1 : decode cX10_blank 1 = .ok (.getfield 105, 3) := by decide +kernel
theorem dX10_blank_4 : decode cX10_blank 4 = .ok (.istore_n 1, 1) := by decide +kernel
theorem dX10_blank_5 : decode cX10_blank 5 = .ok (.aload_n 0, 1) := by decide +kernel
theorem dX10_blank_6 : decode cX10_blank 6 = .ok (.iconst 0, 1) := by decide +kernel
theorem dX10_blank_7 : decode cX10_blank 7 = .ok (.putfield 105, 3) := by decide +kernel
theorem dX10_blank_10 : decode cX10_blank 10 = .ok (.iload_n 1, 1) := by decide +kernel
theorem dX10_blank_11 : decode cX10_blank 11 = .ok (.ireturn, 1) := by decide +kernel
theorem dX10_kindBy_0 : decode cX10_kindBy 0 = .ok (.iload_n 0, 1) := by decide +kernel
theorem dX10_kindBy_1 : decode cX10_kindBy 1 = .ok (.lookupswitch 61 #[(98, 55), (102, 53), (109, 57), (115, 59), (119, 51)], 51) := by decide +kernel
theorem dX10_kindBy_52 : decode cX10_kindBy 52 = .ok (.iconst 0, 1) := by decide +kernel
theorem dX10_kindBy_53 : decode cX10_kindBy 53 = .ok (.ireturn, 1) := by decide +kernel
theorem dX10_kindBy_54 : decode cX10_kindBy 54 = .ok (.iconst 1, 1) := by decide +kernel
theorem dX10_kindBy_55 : decode cX10_kindBy 55 = .ok (.ireturn, 1) := by decide +kernel
theorem dX10_kindBy_56 : decode cX10_kindBy 56 = .ok (.iconst 2, 1) := by decide +kernel
theorem dX10_kindBy_57 : decode cX10_kindBy 57 = .ok (.ireturn, 1) := by decide +kernel
theorem dX10_kindBy_58 : decode cX10_kindBy 58 = .ok (.iconst 3, 1) := by decide +kernel
theorem dX10_kindBy_59 : decode cX10_kindBy 59 = .ok (.ireturn, 1) := by decide +kernel
theorem dX10_kindBy_60 : decode cX10_kindBy 60 = .ok (.iconst 4, 1) := by decide +kernel
theorem dX10_kindBy_61 : decode cX10_kindBy 61 = .ok (.ireturn, 1) := by decide +kernel
theorem dX10_kindBy_62 : decode cX10_kindBy 62 = .ok (.iconst (-1), 1) := by decide +kernel
theorem dX10_kindBy_63 : decode cX10_kindBy 63 = .ok (.ireturn, 1) := by decide +kernel
theorem dX10_at_0 : decode cX10_at 0 = .ok (.iload_n 1, 1) := by decide +kernel
theorem dX10_at_1 : decode cX10_at 1 = .ok (.aload_n 0, 1) := by decide +kernel
theorem dX10_at_2 : decode cX10_at 2 = .ok (.getfield 105, 3) := by decide +kernel
theorem dX10_at_5 : decode cX10_at 5 = .ok (.if_icmp .ge 12, 3) := by decide +kernel
theorem dX10_at_8 : decode cX10_at 8 = .ok (.aload_n 0, 1) := by decide +kernel
theorem dX10_at_9 : decode cX10_at 9 = .ok (.getfield 43, 3) := by decide +kernel
theorem dX10_at_12 : decode cX10_at 12 = .ok (.iload_n 1, 1) := by decide +kernel
theorem dX10_at_13 : decode cX10_at 13 = .ok (.baload, 1) := by decide +kernel
theorem dX10_at_14 : decode cX10_at 14 = .ok (.goto 4, 3) := by decide +kernel
theorem dX10_at_17 : decode cX10_at 17 = .ok (.iconst 0, 1) := by decide +kernel
theorem dX10_at_18 : decode cX10_at 18 = .ok (.ireturn, 1) := by decide +kernel
theorem dX10_isThing_0 : decode cX10_isThing 0 = .ok (.aload_n 0, 1) := by decide +kernel
theorem dX10_isThing_1 : decode cX10_isThing 1 = .ok (.iload_n 1, 1) := by decide +kernel
theorem dX10_isThing_2 : decode cX10_isThing 2 = .ok (.invokevirtual 109, 3) := by decide +kernel
theorem dX10_isThing_5 : decode cX10_isThing 5 = .ok (.bipush 97, 2) := by decide +kernel
theorem dX10_isThing_7 : decode cX10_isThing 7 = .ok (.isub, 1) := by decide +kernel
theorem dX10_isThing_8 : decode cX10_isThing 8 = .ok (.iconst 0, 1) := by decide +kernel
theorem dX10_isThing_9 : decode cX10_isThing 9 = .ok (.iconst 5, 1) := by decide +kernel
theorem dX10_isThing_10 : decode cX10_isThing 10 = .ok (.invokestatic 101, 3) := by decide +kernel
theorem dX10_isThing_13 : decode cX10_isThing 13 = .ok (.ireturn, 1) := by decide +kernel
theorem dX10_isDigit_0 : decode cX10_isDigit 0 = .ok (.aload_n 0, 1) := by decide +kernel
theorem dX10_isDigit_1 : decode cX10_isDigit 1 = .ok (.iload_n 1, 1) := by decide +kernel
theorem dX10_isDigit_2 : decode cX10_isDigit 2 = .ok (.invokevirtual 109, 3) := by decide +kernel
theorem dX10_isDigit_5 : decode cX10_isDigit 5 = .ok (.bipush 48, 2) := by decide +kernel
theorem dX10_isDigit_7 : decode cX10_isDigit 7 = .ok (.isub, 1) := by decide +kernel
theorem dX10_isDigit_8 : decode cX10_isDigit 8 = .ok (.iload_n 2, 1) := by decide +kernel
theorem dX10_isDigit_9 : decode cX10_isDigit 9 = .ok (.iload_n 3, 1) := by decide +kernel
theorem dX10_isDigit_10 : decode cX10_isDigit 10 = .ok (.invokestatic 101, 3) := by decide +kernel
theorem dX10_isDigit_13 : decode cX10_isDigit 13 = .ok (.ireturn, 1) := by decide +kernel
theorem dX10_sightAt_0 : decode cX10_sightAt 0 = .ok (.iconst 4, 1) := by decide +kernel
theorem dX10_sightAt_1 : decode cX10_sightAt 1 = .ok (.aload_n 0, 1) := by decide +kernel
theorem dX10_sightAt_2 : decode cX10_sightAt 2 = .ok (.iload_n 1, 1) := by decide +kernel
theorem dX10_sightAt_3 : decode cX10_sightAt 3 = .ok (.invokevirtual 109, 3) := by decide +kernel
theorem dX10_sightAt_6 : decode cX10_sightAt 6 = .ok (.bipush 97, 2) := by decide +kernel
theorem dX10_sightAt_8 : decode cX10_sightAt 8 = .ok (.isub, 1) := by decide +kernel
theorem dX10_sightAt_9 : decode cX10_sightAt 9 = .ok (.imul, 1) := by decide +kernel
theorem dX10_sightAt_10 : decode cX10_sightAt 10 = .ok (.aload_n 0, 1) := by decide +kernel
theorem dX10_sightAt_11 : decode cX10_sightAt 11 = .ok (.iload_n 1, 1) := by decide +kernel
theorem dX10_sightAt_12 : decode cX10_sightAt 12 = .ok (.iconst 1, 1) := by decide +kernel
theorem dX10_sightAt_13 : decode cX10_sightAt 13 = .ok (.iadd, 1) := by decide +kernel
theorem dX10_sightAt_14 : decode cX10_sightAt 14 = .ok (.invokevirtual 109, 3) := by decide +kernel
theorem dX10_sightAt_17 : decode cX10_sightAt 17 = .ok (.iadd, 1) := by decide +kernel
theorem dX10_sightAt_18 : decode cX10_sightAt 18 = .ok (.bipush 48, 2) := by decide +kernel
theorem dX10_sightAt_20 : decode cX10_sightAt 20 = .ok (.isub, 1) := by decide +kernel
theorem dX10_sightAt_21 : decode cX10_sightAt 21 = .ok (.ireturn, 1) := by decide +kernel
theorem dX10_isTold_0 : decode cX10_isTold 0 = .ok (.iconst 0, 1) := by decide +kernel
theorem dX10_isTold_1 : decode cX10_isTold 1 = .ok (.istore_n 3, 1) := by decide +kernel
theorem dX10_isTold_2 : decode cX10_isTold 2 = .ok (.iconst 0, 1) := by decide +kernel
theorem dX10_isTold_3 : decode cX10_isTold 3 = .ok (.istore 4, 2) := by decide +kernel
theorem dX10_isTold_5 : decode cX10_isTold 5 = .ok (.iload 4, 2) := by decide +kernel
theorem dX10_isTold_7 : decode cX10_isTold 7 = .ok (.aload_n 0, 1) := by decide +kernel
theorem dX10_isTold_8 : decode cX10_isTold 8 = .ok (.getfield 53, 3) := by decide +kernel
theorem dX10_isTold_11 : decode cX10_isTold 11 = .ok (.iload_n 1, 1) := by decide +kernel
theorem dX10_isTold_12 : decode cX10_isTold 12 = .ok (.iaload, 1) := by decide +kernel
theorem dX10_isTold_13 : decode cX10_isTold 13 = .ok (.if_icmp .ge 34, 3) := by decide +kernel
theorem dX10_isTold_16 : decode cX10_isTold 16 = .ok (.iload_n 3, 1) := by decide +kernel
theorem dX10_isTold_17 : decode cX10_isTold 17 = .ok (.ifCond .ne 18, 3) := by decide +kernel
theorem dX10_isTold_20 : decode cX10_isTold 20 = .ok (.aload_n 0, 1) := by decide +kernel
theorem dX10_isTold_21 : decode cX10_isTold 21 = .ok (.getfield 50, 3) := by decide +kernel
theorem dX10_isTold_24 : decode cX10_isTold 24 = .ok (.iconst 3, 1) := by decide +kernel
theorem dX10_isTold_25 : decode cX10_isTold 25 = .ok (.iload_n 1, 1) := by decide +kernel
theorem dX10_isTold_26 : decode cX10_isTold 26 = .ok (.imul, 1) := by decide +kernel
theorem dX10_isTold_27 : decode cX10_isTold 27 = .ok (.iload 4, 2) := by decide +kernel
theorem dX10_isTold_29 : decode cX10_isTold 29 = .ok (.iadd, 1) := by decide +kernel
theorem dX10_isTold_30 : decode cX10_isTold 30 = .ok (.iaload, 1) := by decide +kernel
theorem dX10_isTold_31 : decode cX10_isTold 31 = .ok (.iload_n 2, 1) := by decide +kernel
theorem dX10_isTold_32 : decode cX10_isTold 32 = .ok (.if_icmp .ne 7, 3) := by decide +kernel
theorem dX10_isTold_35 : decode cX10_isTold 35 = .ok (.iconst 1, 1) := by decide +kernel
theorem dX10_isTold_36 : decode cX10_isTold 36 = .ok (.goto 4, 3) := by decide +kernel
theorem dX10_isTold_39 : decode cX10_isTold 39 = .ok (.iconst 0, 1) := by decide +kernel
theorem dX10_isTold_40 : decode cX10_isTold 40 = .ok (.istore_n 3, 1) := by decide +kernel
theorem dX10_isTold_41 : decode cX10_isTold 41 = .ok (.iinc 4 1, 3) := by decide +kernel
theorem dX10_isTold_44 : decode cX10_isTold 44 = .ok (.goto (-39), 3) := by decide +kernel
theorem dX10_isTold_47 : decode cX10_isTold 47 = .ok (.iload_n 3, 1) := by decide +kernel
theorem dX10_isTold_48 : decode cX10_isTold 48 = .ok (.ireturn, 1) := by decide +kernel
theorem dX10_readSights_0 : decode cX10_readSights 0 = .ok (.iload_n 1, 1) := by decide +kernel
theorem dX10_readSights_1 : decode cX10_readSights 1 = .ok (.istore_n 3, 1) := by decide +kernel
theorem dX10_readSights_2 : decode cX10_readSights 2 = .ok (.aload_n 0, 1) := by decide +kernel
theorem dX10_readSights_3 : decode cX10_readSights 3 = .ok (.getfield 53, 3) := by decide +kernel
theorem dX10_readSights_6 : decode cX10_readSights 6 = .ok (.iload_n 2, 1) := by decide +kernel
theorem dX10_readSights_7 : decode cX10_readSights 7 = .ok (.iconst 0, 1) := by decide +kernel
theorem dX10_readSights_8 : decode cX10_readSights 8 = .ok (.iastore, 1) := by decide +kernel
theorem dX10_readSights_9 : decode cX10_readSights 9 = .ok (.aload_n 0, 1) := by decide +kernel
theorem dX10_readSights_10 : decode cX10_readSights 10 = .ok (.getfield 53, 3) := by decide +kernel
theorem dX10_readSights_13 : decode cX10_readSights 13 = .ok (.iload_n 2, 1) := by decide +kernel
theorem dX10_readSights_14 : decode cX10_readSights 14 = .ok (.iaload, 1) := by decide +kernel
theorem dX10_readSights_15 : decode cX10_readSights 15 = .ok (.iconst 3, 1) := by decide +kernel
theorem dX10_readSights_16 : decode cX10_readSights 16 = .ok (.if_icmp .ge 81, 3) := by decide +kernel
theorem dX10_readSights_19 : decode cX10_readSights 19 = .ok (.aload_n 0, 1) := by decide +kernel
theorem dX10_readSights_20 : decode cX10_readSights 20 = .ok (.iload_n 3, 1) := by decide +kernel
theorem dX10_readSights_21 : decode cX10_readSights 21 = .ok (.invokevirtual 113, 3) := by decide +kernel
theorem dX10_readSights_24 : decode cX10_readSights 24 = .ok (.ifCond .eq 73, 3) := by decide +kernel
theorem dX10_readSights_27 : decode cX10_readSights 27 = .ok (.aload_n 0, 1) := by decide +kernel
theorem dX10_readSights_28 : decode cX10_readSights 28 = .ok (.iload_n 3, 1) := by decide +kernel
theorem dX10_readSights_29 : decode cX10_readSights 29 = .ok (.iconst 1, 1) := by decide +kernel
theorem dX10_readSights_30 : decode cX10_readSights 30 = .ok (.iadd, 1) := by decide +kernel
theorem dX10_readSights_31 : decode cX10_readSights 31 = .ok (.iconst 0, 1) := by decide +kernel
theorem dX10_readSights_32 : decode cX10_readSights 32 = .ok (.iconst 3, 1) := by decide +kernel
theorem dX10_readSights_33 : decode cX10_readSights 33 = .ok (.invokevirtual 117, 3) := by decide +kernel
theorem dX10_readSights_36 : decode cX10_readSights 36 = .ok (.ifCond .eq 16, 3) := by decide +kernel
theorem dX10_readSights_39 : decode cX10_readSights 39 = .ok (.aload_n 0, 1) := by decide +kernel
theorem dX10_readSights_40 : decode cX10_readSights 40 = .ok (.iload_n 2, 1) := by decide +kernel
theorem dX10_readSights_41 : decode cX10_readSights 41 = .ok (.aload_n 0, 1) := by decide +kernel
theorem dX10_readSights_42 : decode cX10_readSights 42 = .ok (.iload_n 3, 1) := by decide +kernel
theorem dX10_readSights_43 : decode cX10_readSights 43 = .ok (.invokevirtual 120, 3) := by decide +kernel
theorem dX10_readSights_46 : decode cX10_readSights 46 = .ok (.invokevirtual 123, 3) := by decide +kernel
theorem dX10_readSights_49 : decode cX10_readSights 49 = .ok (.ifCond .eq 12, 3) := by decide +kernel
theorem dX10_readSights_52 : decode cX10_readSights 52 = .ok (.aload_n 0, 1) := by decide +kernel
theorem dX10_readSights_53 : decode cX10_readSights 53 = .ok (.iconst 1, 1) := by decide +kernel
theorem dX10_readSights_54 : decode cX10_readSights 54 = .ok (.putfield 127, 3) := by decide +kernel
theorem dX10_readSights_57 : decode cX10_readSights 57 = .ok (.iload_n 3, 1) := by decide +kernel
theorem dX10_readSights_58 : decode cX10_readSights 58 = .ok (.iconst 1, 1) := by decide +kernel
theorem dX10_readSights_59 : decode cX10_readSights 59 = .ok (.iadd, 1) := by decide +kernel
theorem dX10_readSights_60 : decode cX10_readSights 60 = .ok (.ireturn, 1) := by decide +kernel
theorem dX10_readSights_61 : decode cX10_readSights 61 = .ok (.aload_n 0, 1) := by decide +kernel
theorem dX10_readSights_62 : decode cX10_readSights 62 = .ok (.getfield 50, 3) := by decide +kernel
theorem dX10_readSights_65 : decode cX10_readSights 65 = .ok (.iconst 3, 1) := by decide +kernel
theorem dX10_readSights_66 : decode cX10_readSights 66 = .ok (.iload_n 2, 1) := by decide +kernel
theorem dX10_readSights_67 : decode cX10_readSights 67 = .ok (.imul, 1) := by decide +kernel
theorem dX10_readSights_68 : decode cX10_readSights 68 = .ok (.aload_n 0, 1) := by decide +kernel
theorem dX10_readSights_69 : decode cX10_readSights 69 = .ok (.getfield 53, 3) := by decide +kernel
theorem dX10_readSights_72 : decode cX10_readSights 72 = .ok (.iload_n 2, 1) := by decide +kernel
theorem dX10_readSights_73 : decode cX10_readSights 73 = .ok (.iaload, 1) := by decide +kernel
theorem dX10_readSights_74 : decode cX10_readSights 74 = .ok (.iadd, 1) := by decide +kernel
theorem dX10_readSights_75 : decode cX10_readSights 75 = .ok (.aload_n 0, 1) := by decide +kernel
theorem dX10_readSights_76 : decode cX10_readSights 76 = .ok (.iload_n 3, 1) := by decide +kernel
theorem dX10_readSights_77 : decode cX10_readSights 77 = .ok (.invokevirtual 120, 3) := by decide +kernel
theorem dX10_readSights_80 : decode cX10_readSights 80 = .ok (.iastore, 1) := by decide +kernel
theorem dX10_readSights_81 : decode cX10_readSights 81 = .ok (.aload_n 0, 1) := by decide +kernel
theorem dX10_readSights_82 : decode cX10_readSights 82 = .ok (.getfield 53, 3) := by decide +kernel
theorem dX10_readSights_85 : decode cX10_readSights 85 = .ok (.iload_n 2, 1) := by decide +kernel
theorem dX10_readSights_86 : decode cX10_readSights 86 = .ok (.dup2, 1) := by decide +kernel
theorem dX10_readSights_87 : decode cX10_readSights 87 = .ok (.iaload, 1) := by decide +kernel
theorem dX10_readSights_88 : decode cX10_readSights 88 = .ok (.iconst 1, 1) := by decide +kernel
theorem dX10_readSights_89 : decode cX10_readSights 89 = .ok (.iadd, 1) := by decide +kernel
theorem dX10_readSights_90 : decode cX10_readSights 90 = .ok (.iastore, 1) := by decide +kernel
theorem dX10_readSights_91 : decode cX10_readSights 91 = .ok (.iinc 3 2, 3) := by decide +kernel
theorem dX10_readSights_94 : decode cX10_readSights 94 = .ok (.goto (-85), 3) := by decide +kernel
theorem dX10_readSights_97 : decode cX10_readSights 97 = .ok (.iload_n 3, 1) := by decide +kernel
theorem dX10_readSights_98 : decode cX10_readSights 98 = .ok (.ireturn, 1) := by decide +kernel
theorem dX10_readWitnesses_0 : decode cX10_readWitnesses 0 = .ok (.iconst 0, 1) := by decide +kernel
theorem dX10_readWitnesses_1 : decode cX10_readWitnesses 1 = .ok (.istore_n 1, 1) := by decide +kernel
theorem dX10_readWitnesses_2 : decode cX10_readWitnesses 2 = .ok (.aload_n 0, 1) := by decide +kernel
theorem dX10_readWitnesses_3 : decode cX10_readWitnesses 3 = .ok (.getfield 47, 3) := by decide +kernel
theorem dX10_readWitnesses_6 : decode cX10_readWitnesses 6 = .ok (.aload_n 0, 1) := by decide +kernel
theorem dX10_readWitnesses_7 : decode cX10_readWitnesses 7 = .ok (.getfield 131, 3) := by decide +kernel
theorem dX10_readWitnesses_10 : decode cX10_readWitnesses 10 = .ok (.aload_n 0, 1) := by decide +kernel
theorem dX10_readWitnesses_11 : decode cX10_readWitnesses 11 = .ok (.iload_n 1, 1) := by decide +kernel
theorem dX10_readWitnesses_12 : decode cX10_readWitnesses 12 = .ok (.invokevirtual 109, 3) := by decide +kernel
theorem dX10_readWitnesses_15 : decode cX10_readWitnesses 15 = .ok (.invokestatic 134, 3) := by decide +kernel
theorem dX10_readWitnesses_18 : decode cX10_readWitnesses 18 = .ok (.iastore, 1) := by decide +kernel
theorem dX10_readWitnesses_19 : decode cX10_readWitnesses 19 = .ok (.aload_n 0, 1) := by decide +kernel
theorem dX10_readWitnesses_20 : decode cX10_readWitnesses 20 = .ok (.getfield 47, 3) := by decide +kernel
theorem dX10_readWitnesses_23 : decode cX10_readWitnesses 23 = .ok (.aload_n 0, 1) := by decide +kernel
theorem dX10_readWitnesses_24 : decode cX10_readWitnesses 24 = .ok (.getfield 131, 3) := by decide +kernel
theorem dX10_readWitnesses_27 : decode cX10_readWitnesses 27 = .ok (.iaload, 1) := by decide +kernel
theorem dX10_readWitnesses_28 : decode cX10_readWitnesses 28 = .ok (.iconst (-1), 1) := by decide +kernel
theorem dX10_readWitnesses_29 : decode cX10_readWitnesses 29 = .ok (.if_icmp .ne 10, 3) := by decide +kernel
theorem dX10_readWitnesses_32 : decode cX10_readWitnesses 32 = .ok (.aload_n 0, 1) := by decide +kernel
theorem dX10_readWitnesses_33 : decode cX10_readWitnesses 33 = .ok (.iconst 1, 1) := by decide +kernel
theorem dX10_readWitnesses_34 : decode cX10_readWitnesses 34 = .ok (.putfield 127, 3) := by decide +kernel
theorem dX10_readWitnesses_37 : decode cX10_readWitnesses 37 = .ok (.iload_n 1, 1) := by decide +kernel
theorem dX10_readWitnesses_38 : decode cX10_readWitnesses 38 = .ok (.ireturn, 1) := by decide +kernel
theorem dX10_readWitnesses_39 : decode cX10_readWitnesses 39 = .ok (.aload_n 0, 1) := by decide +kernel
theorem dX10_readWitnesses_40 : decode cX10_readWitnesses 40 = .ok (.iload_n 1, 1) := by decide +kernel
theorem dX10_readWitnesses_41 : decode cX10_readWitnesses 41 = .ok (.iconst 1, 1) := by decide +kernel
theorem dX10_readWitnesses_42 : decode cX10_readWitnesses 42 = .ok (.iadd, 1) := by decide +kernel
theorem dX10_readWitnesses_43 : decode cX10_readWitnesses 43 = .ok (.aload_n 0, 1) := by decide +kernel
theorem dX10_readWitnesses_44 : decode cX10_readWitnesses 44 = .ok (.getfield 131, 3) := by decide +kernel
theorem dX10_readWitnesses_47 : decode cX10_readWitnesses 47 = .ok (.invokevirtual 137, 3) := by decide +kernel
theorem dX10_readWitnesses_50 : decode cX10_readWitnesses 50 = .ok (.istore_n 1, 1) := by decide +kernel
theorem dX10_readWitnesses_51 : decode cX10_readWitnesses 51 = .ok (.aload_n 0, 1) := by decide +kernel
theorem dX10_readWitnesses_52 : decode cX10_readWitnesses 52 = .ok (.getfield 127, 3) := by decide +kernel
theorem dX10_readWitnesses_55 : decode cX10_readWitnesses 55 = .ok (.ifCond .eq 5, 3) := by decide +kernel
theorem dX10_readWitnesses_58 : decode cX10_readWitnesses 58 = .ok (.iload_n 1, 1) := by decide +kernel
theorem dX10_readWitnesses_59 : decode cX10_readWitnesses 59 = .ok (.ireturn, 1) := by decide +kernel
theorem dX10_readWitnesses_60 : decode cX10_readWitnesses 60 = .ok (.aload_n 0, 1) := by decide +kernel
theorem dX10_readWitnesses_61 : decode cX10_readWitnesses 61 = .ok (.dup, 1) := by decide +kernel
theorem dX10_readWitnesses_62 : decode cX10_readWitnesses 62 = .ok (.getfield 131, 3) := by decide +kernel
theorem dX10_readWitnesses_65 : decode cX10_readWitnesses 65 = .ok (.iconst 1, 1) := by decide +kernel
theorem dX10_readWitnesses_66 : decode cX10_readWitnesses 66 = .ok (.iadd, 1) := by decide +kernel
theorem dX10_readWitnesses_67 : decode cX10_readWitnesses 67 = .ok (.putfield 131, 3) := by decide +kernel
theorem dX10_readWitnesses_70 : decode cX10_readWitnesses 70 = .ok (.aload_n 0, 1) := by decide +kernel
theorem dX10_readWitnesses_71 : decode cX10_readWitnesses 71 = .ok (.getfield 131, 3) := by decide +kernel
theorem dX10_readWitnesses_74 : decode cX10_readWitnesses 74 = .ok (.iconst 5, 1) := by decide +kernel
theorem dX10_readWitnesses_75 : decode cX10_readWitnesses 75 = .ok (.if_icmp .eq 13, 3) := by decide +kernel
theorem dX10_readWitnesses_78 : decode cX10_readWitnesses 78 = .ok (.aload_n 0, 1) := by decide +kernel
theorem dX10_readWitnesses_79 : decode cX10_readWitnesses 79 = .ok (.iload_n 1, 1) := by decide +kernel
theorem dX10_readWitnesses_80 : decode cX10_readWitnesses 80 = .ok (.invokevirtual 109, 3) := by decide +kernel
theorem dX10_readWitnesses_83 : decode cX10_readWitnesses 83 = .ok (.bipush 44, 2) := by decide +kernel
theorem dX10_readWitnesses_85 : decode cX10_readWitnesses 85 = .ok (.if_icmp .eq 5, 3) := by decide +kernel
theorem dX10_readWitnesses_88 : decode cX10_readWitnesses 88 = .ok (.iload_n 1, 1) := by decide +kernel
theorem dX10_readWitnesses_89 : decode cX10_readWitnesses 89 = .ok (.ireturn, 1) := by decide +kernel
theorem dX10_readWitnesses_90 : decode cX10_readWitnesses 90 = .ok (.iinc 1 1, 3) := by decide +kernel
theorem dX10_readWitnesses_93 : decode cX10_readWitnesses 93 = .ok (.goto (-91), 3) := by decide +kernel
theorem dX10_readCases_0 : decode cX10_readCases 0 = .ok (.iload_n 1, 1) := by decide +kernel
theorem dX10_readCases_1 : decode cX10_readCases 1 = .ok (.istore_n 2, 1) := by decide +kernel
theorem dX10_readCases_2 : decode cX10_readCases 2 = .ok (.aload_n 0, 1) := by decide +kernel
theorem dX10_readCases_3 : decode cX10_readCases 3 = .ok (.iload_n 2, 1) := by decide +kernel
theorem dX10_readCases_4 : decode cX10_readCases 4 = .ok (.aload_n 0, 1) := by decide +kernel
theorem dX10_readCases_5 : decode cX10_readCases 5 = .ok (.getfield 105, 3) := by decide +kernel
theorem dX10_readCases_8 : decode cX10_readCases 8 = .ok (.if_icmp .ne 7, 3) := by decide +kernel
theorem dX10_readCases_11 : decode cX10_readCases 11 = .ok (.iconst 1, 1) := by decide +kernel
theorem dX10_readCases_12 : decode cX10_readCases 12 = .ok (.goto 4, 3) := by decide +kernel
theorem dX10_readCases_15 : decode cX10_readCases 15 = .ok (.iconst 0, 1) := by decide +kernel
theorem dX10_readCases_16 : decode cX10_readCases 16 = .ok (.putfield 141, 3) := by decide +kernel
theorem dX10_readCases_19 : decode cX10_readCases 19 = .ok (.aload_n 0, 1) := by decide +kernel
theorem dX10_readCases_20 : decode cX10_readCases 20 = .ok (.getfield 144, 3) := by decide +kernel
theorem dX10_readCases_23 : decode cX10_readCases 23 = .ok (.iconst 4, 1) := by decide +kernel
theorem dX10_readCases_24 : decode cX10_readCases 24 = .ok (.if_icmp .ge 136, 3) := by decide +kernel
theorem dX10_readCases_27 : decode cX10_readCases 27 = .ok (.aload_n 0, 1) := by decide +kernel
theorem dX10_readCases_28 : decode cX10_readCases 28 = .ok (.getfield 144, 3) := by decide +kernel
theorem dX10_readCases_31 : decode cX10_readCases 31 = .ok (.ifCond .gt 10, 3) := by decide +kernel
theorem dX10_readCases_34 : decode cX10_readCases 34 = .ok (.aload_n 0, 1) := by decide +kernel
theorem dX10_readCases_35 : decode cX10_readCases 35 = .ok (.getfield 141, 3) := by decide +kernel
theorem dX10_readCases_38 : decode cX10_readCases 38 = .ok (.ifCond .ne 122, 3) := by decide +kernel
theorem dX10_readCases_41 : decode cX10_readCases 41 = .ok (.aload_n 0, 1) := by decide +kernel
theorem dX10_readCases_42 : decode cX10_readCases 42 = .ok (.iload_n 2, 1) := by decide +kernel
theorem dX10_readCases_43 : decode cX10_readCases 43 = .ok (.invokevirtual 113, 3) := by decide +kernel
theorem dX10_readCases_46 : decode cX10_readCases 46 = .ok (.ifCond .ne 5, 3) := by decide +kernel
theorem dX10_readCases_49 : decode cX10_readCases 49 = .ok (.iload_n 2, 1) := by decide +kernel
theorem dX10_readCases_50 : decode cX10_readCases 50 = .ok (.ireturn, 1) := by decide +kernel
theorem dX10_readCases_51 : decode cX10_readCases 51 = .ok (.aload_n 0, 1) := by decide +kernel
theorem dX10_readCases_52 : decode cX10_readCases 52 = .ok (.iload_n 2, 1) := by decide +kernel
theorem dX10_readCases_53 : decode cX10_readCases 53 = .ok (.iconst 1, 1) := by decide +kernel
theorem dX10_readCases_54 : decode cX10_readCases 54 = .ok (.iadd, 1) := by decide +kernel
theorem dX10_readCases_55 : decode cX10_readCases 55 = .ok (.iconst 1, 1) := by decide +kernel
theorem dX10_readCases_56 : decode cX10_readCases 56 = .ok (.bipush 6, 2) := by decide +kernel
theorem dX10_readCases_58 : decode cX10_readCases 58 = .ok (.invokevirtual 117, 3) := by decide +kernel
theorem dX10_readCases_61 : decode cX10_readCases 61 = .ok (.ifCond .ne 7, 3) := by decide +kernel
theorem dX10_readCases_64 : decode cX10_readCases 64 = .ok (.iload_n 2, 1) := by decide +kernel
theorem dX10_readCases_65 : decode cX10_readCases 65 = .ok (.iconst 1, 1) := by decide +kernel
theorem dX10_readCases_66 : decode cX10_readCases 66 = .ok (.iadd, 1) := by decide +kernel
theorem dX10_readCases_67 : decode cX10_readCases 67 = .ok (.ireturn, 1) := by decide +kernel
theorem dX10_readCases_68 : decode cX10_readCases 68 = .ok (.aload_n 0, 1) := by decide +kernel
theorem dX10_readCases_69 : decode cX10_readCases 69 = .ok (.getfield 56, 3) := by decide +kernel
theorem dX10_readCases_72 : decode cX10_readCases 72 = .ok (.aload_n 0, 1) := by decide +kernel
theorem dX10_readCases_73 : decode cX10_readCases 73 = .ok (.getfield 144, 3) := by decide +kernel
theorem dX10_readCases_76 : decode cX10_readCases 76 = .ok (.aload_n 0, 1) := by decide +kernel
theorem dX10_readCases_77 : decode cX10_readCases 77 = .ok (.iload_n 2, 1) := by decide +kernel
theorem dX10_readCases_78 : decode cX10_readCases 78 = .ok (.invokevirtual 109, 3) := by decide +kernel
theorem dX10_readCases_81 : decode cX10_readCases 81 = .ok (.bipush 97, 2) := by decide +kernel
theorem dX10_readCases_83 : decode cX10_readCases 83 = .ok (.isub, 1) := by decide +kernel
theorem dX10_readCases_84 : decode cX10_readCases 84 = .ok (.iastore, 1) := by decide +kernel
theorem dX10_readCases_85 : decode cX10_readCases 85 = .ok (.aload_n 0, 1) := by decide +kernel
theorem dX10_readCases_86 : decode cX10_readCases 86 = .ok (.getfield 59, 3) := by decide +kernel
theorem dX10_readCases_89 : decode cX10_readCases 89 = .ok (.aload_n 0, 1) := by decide +kernel
theorem dX10_readCases_90 : decode cX10_readCases 90 = .ok (.getfield 144, 3) := by decide +kernel
theorem dX10_readCases_93 : decode cX10_readCases 93 = .ok (.aload_n 0, 1) := by decide +kernel
theorem dX10_readCases_94 : decode cX10_readCases 94 = .ok (.iload_n 2, 1) := by decide +kernel
theorem dX10_readCases_95 : decode cX10_readCases 95 = .ok (.iconst 1, 1) := by decide +kernel
theorem dX10_readCases_96 : decode cX10_readCases 96 = .ok (.iadd, 1) := by decide +kernel
theorem dX10_readCases_97 : decode cX10_readCases 97 = .ok (.invokevirtual 109, 3) := by decide +kernel
theorem dX10_readCases_100 : decode cX10_readCases 100 = .ok (.bipush 48, 2) := by decide +kernel
theorem dX10_readCases_102 : decode cX10_readCases 102 = .ok (.isub, 1) := by decide +kernel
theorem dX10_readCases_103 : decode cX10_readCases 103 = .ok (.iastore, 1) := by decide +kernel
theorem dX10_readCases_104 : decode cX10_readCases 104 = .ok (.aload_n 0, 1) := by decide +kernel
theorem dX10_readCases_105 : decode cX10_readCases 105 = .ok (.dup, 1) := by decide +kernel
theorem dX10_readCases_106 : decode cX10_readCases 106 = .ok (.getfield 144, 3) := by decide +kernel
theorem dX10_readCases_109 : decode cX10_readCases 109 = .ok (.iconst 1, 1) := by decide +kernel
theorem dX10_readCases_110 : decode cX10_readCases 110 = .ok (.iadd, 1) := by decide +kernel
theorem dX10_readCases_111 : decode cX10_readCases 111 = .ok (.putfield 144, 3) := by decide +kernel
theorem dX10_readCases_114 : decode cX10_readCases 114 = .ok (.iinc 2 2, 3) := by decide +kernel
theorem dX10_readCases_117 : decode cX10_readCases 117 = .ok (.aload_n 0, 1) := by decide +kernel
theorem dX10_readCases_118 : decode cX10_readCases 118 = .ok (.iload_n 2, 1) := by decide +kernel
theorem dX10_readCases_119 : decode cX10_readCases 119 = .ok (.aload_n 0, 1) := by decide +kernel
theorem dX10_readCases_120 : decode cX10_readCases 120 = .ok (.getfield 105, 3) := by decide +kernel
theorem dX10_readCases_123 : decode cX10_readCases 123 = .ok (.if_icmp .ne 7, 3) := by decide +kernel
theorem dX10_readCases_126 : decode cX10_readCases 126 = .ok (.iconst 1, 1) := by decide +kernel
theorem dX10_readCases_127 : decode cX10_readCases 127 = .ok (.goto 4, 3) := by decide +kernel
theorem dX10_readCases_130 : decode cX10_readCases 130 = .ok (.iconst 0, 1) := by decide +kernel
theorem dX10_readCases_131 : decode cX10_readCases 131 = .ok (.putfield 141, 3) := by decide +kernel
theorem dX10_readCases_134 : decode cX10_readCases 134 = .ok (.aload_n 0, 1) := by decide +kernel
theorem dX10_readCases_135 : decode cX10_readCases 135 = .ok (.getfield 144, 3) := by decide +kernel
theorem dX10_readCases_138 : decode cX10_readCases 138 = .ok (.iconst 4, 1) := by decide +kernel
theorem dX10_readCases_139 : decode cX10_readCases 139 = .ok (.if_icmp .eq 13, 3) := by decide +kernel
theorem dX10_readCases_142 : decode cX10_readCases 142 = .ok (.aload_n 0, 1) := by decide +kernel
theorem dX10_readCases_143 : decode cX10_readCases 143 = .ok (.iload_n 2, 1) := by decide +kernel
theorem dX10_readCases_144 : decode cX10_readCases 144 = .ok (.invokevirtual 109, 3) := by decide +kernel
theorem dX10_readCases_147 : decode cX10_readCases 147 = .ok (.bipush 44, 2) := by decide +kernel
theorem dX10_readCases_149 : decode cX10_readCases 149 = .ok (.if_icmp .eq 5, 3) := by decide +kernel
theorem dX10_readCases_152 : decode cX10_readCases 152 = .ok (.iload_n 2, 1) := by decide +kernel
theorem dX10_readCases_153 : decode cX10_readCases 153 = .ok (.ireturn, 1) := by decide +kernel
theorem dX10_readCases_154 : decode cX10_readCases 154 = .ok (.iinc 2 1, 3) := by decide +kernel
theorem dX10_readCases_157 : decode cX10_readCases 157 = .ok (.goto (-138), 3) := by decide +kernel
theorem dX10_readCases_160 : decode cX10_readCases 160 = .ok (.iload_n 2, 1) := by decide +kernel
theorem dX10_readCases_161 : decode cX10_readCases 161 = .ok (.ireturn, 1) := by decide +kernel
theorem dX10_read_0 : decode cX10_read 0 = .ok (.aload_n 0, 1) := by decide +kernel
theorem dX10_read_1 : decode cX10_read 1 = .ok (.iconst 0, 1) := by decide +kernel
theorem dX10_read_2 : decode cX10_read 2 = .ok (.putfield 141, 3) := by decide +kernel
theorem dX10_read_5 : decode cX10_read 5 = .ok (.aload_n 0, 1) := by decide +kernel
theorem dX10_read_6 : decode cX10_read 6 = .ok (.iconst 0, 1) := by decide +kernel
theorem dX10_read_7 : decode cX10_read 7 = .ok (.putfield 127, 3) := by decide +kernel
theorem dX10_read_10 : decode cX10_read 10 = .ok (.aload_n 0, 1) := by decide +kernel
theorem dX10_read_11 : decode cX10_read 11 = .ok (.iconst 0, 1) := by decide +kernel
theorem dX10_read_12 : decode cX10_read 12 = .ok (.putfield 131, 3) := by decide +kernel
theorem dX10_read_15 : decode cX10_read 15 = .ok (.aload_n 0, 1) := by decide +kernel
theorem dX10_read_16 : decode cX10_read 16 = .ok (.iconst 0, 1) := by decide +kernel
theorem dX10_read_17 : decode cX10_read 17 = .ok (.putfield 144, 3) := by decide +kernel
theorem dX10_read_20 : decode cX10_read 20 = .ok (.aload_n 0, 1) := by decide +kernel
theorem dX10_read_21 : decode cX10_read 21 = .ok (.invokevirtual 147, 3) := by decide +kernel
theorem dX10_read_24 : decode cX10_read 24 = .ok (.istore_n 1, 1) := by decide +kernel
theorem dX10_read_25 : decode cX10_read 25 = .ok (.aload_n 0, 1) := by decide +kernel
theorem dX10_read_26 : decode cX10_read 26 = .ok (.getfield 127, 3) := by decide +kernel
theorem dX10_read_29 : decode cX10_read 29 = .ok (.ifCond .ne 13, 3) := by decide +kernel
theorem dX10_read_32 : decode cX10_read 32 = .ok (.aload_n 0, 1) := by decide +kernel
theorem dX10_read_33 : decode cX10_read 33 = .ok (.iload_n 1, 1) := by decide +kernel
theorem dX10_read_34 : decode cX10_read 34 = .ok (.invokevirtual 109, 3) := by decide +kernel
theorem dX10_read_37 : decode cX10_read 37 = .ok (.bipush 59, 2) := by decide +kernel
theorem dX10_read_39 : decode cX10_read 39 = .ok (.if_icmp .eq 5, 3) := by decide +kernel
theorem dX10_read_42 : decode cX10_read 42 = .ok (.iload_n 1, 1) := by decide +kernel
theorem dX10_read_43 : decode cX10_read 43 = .ok (.ireturn, 1) := by decide +kernel
theorem dX10_read_44 : decode cX10_read 44 = .ok (.aload_n 0, 1) := by decide +kernel
theorem dX10_read_45 : decode cX10_read 45 = .ok (.iload_n 1, 1) := by decide +kernel
theorem dX10_read_46 : decode cX10_read 46 = .ok (.iconst 1, 1) := by decide +kernel
theorem dX10_read_47 : decode cX10_read 47 = .ok (.iadd, 1) := by decide +kernel
theorem dX10_read_48 : decode cX10_read 48 = .ok (.invokevirtual 151, 3) := by decide +kernel
theorem dX10_read_51 : decode cX10_read 51 = .ok (.ireturn, 1) := by decide +kernel
theorem dX10_fault_0 : decode cX10_fault 0 = .ok (.aload_n 0, 1) := by decide +kernel
theorem dX10_fault_1 : decode cX10_fault 1 = .ok (.invokevirtual 154, 3) := by decide +kernel
theorem dX10_fault_4 : decode cX10_fault 4 = .ok (.ireturn, 1) := by decide +kernel
theorem dX10_wall_0 : decode cX10_wall 0 = .ok (.aload_n 0, 1) := by decide +kernel
theorem dX10_wall_1 : decode cX10_wall 1 = .ok (.invokevirtual 154, 3) := by decide +kernel
theorem dX10_wall_4 : decode cX10_wall 4 = .ok (.pop, 1) := by decide +kernel
theorem dX10_wall_5 : decode cX10_wall 5 = .ok (.aload_n 0, 1) := by decide +kernel
theorem dX10_wall_6 : decode cX10_wall 6 = .ok (.getfield 141, 3) := by decide +kernel
theorem dX10_wall_9 : decode cX10_wall 9 = .ok (.ifCond .ne 6, 3) := by decide +kernel
theorem dX10_wall_12 : decode cX10_wall 12 = .ok (.bipush (-103), 2) := by decide +kernel
theorem dX10_wall_14 : decode cX10_wall 14 = .ok (.ireturn, 1) := by decide +kernel
theorem dX10_wall_15 : decode cX10_wall 15 = .ok (.aload_n 0, 1) := by decide +kernel
theorem dX10_wall_16 : decode cX10_wall 16 = .ok (.aload_n 0, 1) := by decide +kernel
theorem dX10_wall_17 : decode cX10_wall 17 = .ok (.getfield 131, 3) := by decide +kernel
theorem dX10_wall_20 : decode cX10_wall 20 = .ok (.putfield 157, 3) := by decide +kernel
theorem dX10_wall_23 : decode cX10_wall 23 = .ok (.iconst 0, 1) := by decide +kernel
theorem dX10_wall_24 : decode cX10_wall 24 = .ok (.istore_n 1, 1) := by decide +kernel
theorem dX10_wall_25 : decode cX10_wall 25 = .ok (.iload_n 1, 1) := by decide +kernel
theorem dX10_wall_26 : decode cX10_wall 26 = .ok (.aload_n 0, 1) := by decide +kernel
theorem dX10_wall_27 : decode cX10_wall 27 = .ok (.getfield 157, 3) := by decide +kernel
theorem dX10_wall_30 : decode cX10_wall 30 = .ok (.if_icmp .ge 66, 3) := by decide +kernel
theorem dX10_wall_33 : decode cX10_wall 33 = .ok (.aload_n 0, 1) := by decide +kernel
theorem dX10_wall_34 : decode cX10_wall 34 = .ok (.getfield 7, 3) := by decide +kernel
theorem dX10_wall_37 : decode cX10_wall 37 = .ok (.iload_n 1, 1) := by decide +kernel
theorem dX10_wall_38 : decode cX10_wall 38 = .ok (.aload_n 0, 1) := by decide +kernel
theorem dX10_wall_39 : decode cX10_wall 39 = .ok (.getfield 47, 3) := by decide +kernel
theorem dX10_wall_42 : decode cX10_wall 42 = .ok (.iload_n 1, 1) := by decide +kernel
theorem dX10_wall_43 : decode cX10_wall 43 = .ok (.iaload, 1) := by decide +kernel
theorem dX10_wall_44 : decode cX10_wall 44 = .ok (.iastore, 1) := by decide +kernel
theorem dX10_wall_45 : decode cX10_wall 45 = .ok (.aload_n 0, 1) := by decide +kernel
theorem dX10_wall_46 : decode cX10_wall 46 = .ok (.getfield 16, 3) := by decide +kernel
theorem dX10_wall_49 : decode cX10_wall 49 = .ok (.iload_n 1, 1) := by decide +kernel
theorem dX10_wall_50 : decode cX10_wall 50 = .ok (.aload_n 0, 1) := by decide +kernel
theorem dX10_wall_51 : decode cX10_wall 51 = .ok (.getfield 53, 3) := by decide +kernel
theorem dX10_wall_54 : decode cX10_wall 54 = .ok (.iload_n 1, 1) := by decide +kernel
theorem dX10_wall_55 : decode cX10_wall 55 = .ok (.iaload, 1) := by decide +kernel
theorem dX10_wall_56 : decode cX10_wall 56 = .ok (.iastore, 1) := by decide +kernel
theorem dX10_wall_57 : decode cX10_wall 57 = .ok (.iconst 0, 1) := by decide +kernel
theorem dX10_wall_58 : decode cX10_wall 58 = .ok (.istore_n 2, 1) := by decide +kernel
theorem dX10_wall_59 : decode cX10_wall 59 = .ok (.iload_n 2, 1) := by decide +kernel
theorem dX10_wall_60 : decode cX10_wall 60 = .ok (.iconst 3, 1) := by decide +kernel
theorem dX10_wall_61 : decode cX10_wall 61 = .ok (.if_icmp .ge 29, 3) := by decide +kernel
theorem dX10_wall_64 : decode cX10_wall 64 = .ok (.aload_n 0, 1) := by decide +kernel
theorem dX10_wall_65 : decode cX10_wall 65 = .ok (.getfield 13, 3) := by decide +kernel
theorem dX10_wall_68 : decode cX10_wall 68 = .ok (.iconst 4, 1) := by decide +kernel
theorem dX10_wall_69 : decode cX10_wall 69 = .ok (.iload_n 1, 1) := by decide +kernel
theorem dX10_wall_70 : decode cX10_wall 70 = .ok (.imul, 1) := by decide +kernel
theorem dX10_wall_71 : decode cX10_wall 71 = .ok (.iload_n 2, 1) := by decide +kernel
theorem dX10_wall_72 : decode cX10_wall 72 = .ok (.iadd, 1) := by decide +kernel
theorem dX10_wall_73 : decode cX10_wall 73 = .ok (.aload_n 0, 1) := by decide +kernel
theorem dX10_wall_74 : decode cX10_wall 74 = .ok (.getfield 50, 3) := by decide +kernel
theorem dX10_wall_77 : decode cX10_wall 77 = .ok (.iconst 3, 1) := by decide +kernel
theorem dX10_wall_78 : decode cX10_wall 78 = .ok (.iload_n 1, 1) := by decide +kernel
theorem dX10_wall_79 : decode cX10_wall 79 = .ok (.imul, 1) := by decide +kernel
theorem dX10_wall_80 : decode cX10_wall 80 = .ok (.iload_n 2, 1) := by decide +kernel
theorem dX10_wall_81 : decode cX10_wall 81 = .ok (.iadd, 1) := by decide +kernel
theorem dX10_wall_82 : decode cX10_wall 82 = .ok (.iaload, 1) := by decide +kernel
theorem dX10_wall_83 : decode cX10_wall 83 = .ok (.iastore, 1) := by decide +kernel
theorem dX10_wall_84 : decode cX10_wall 84 = .ok (.iinc 2 1, 3) := by decide +kernel
theorem dX10_wall_87 : decode cX10_wall 87 = .ok (.goto (-28), 3) := by decide +kernel
theorem dX10_wall_90 : decode cX10_wall 90 = .ok (.iinc 1 1, 3) := by decide +kernel
theorem dX10_wall_93 : decode cX10_wall 93 = .ok (.goto (-68), 3) := by decide +kernel
theorem dX10_wall_96 : decode cX10_wall 96 = .ok (.aload_n 0, 1) := by decide +kernel
theorem dX10_wall_97 : decode cX10_wall 97 = .ok (.aload_n 0, 1) := by decide +kernel
theorem dX10_wall_98 : decode cX10_wall 98 = .ok (.getfield 144, 3) := by decide +kernel
theorem dX10_wall_101 : decode cX10_wall 101 = .ok (.putfield 160, 3) := by decide +kernel
theorem dX10_wall_104 : decode cX10_wall 104 = .ok (.iconst 0, 1) := by decide +kernel
theorem dX10_wall_105 : decode cX10_wall 105 = .ok (.istore_n 1, 1) := by decide +kernel
theorem dX10_wall_106 : decode cX10_wall 106 = .ok (.iload_n 1, 1) := by decide +kernel
theorem dX10_wall_107 : decode cX10_wall 107 = .ok (.aload_n 0, 1) := by decide +kernel
theorem dX10_wall_108 : decode cX10_wall 108 = .ok (.getfield 160, 3) := by decide +kernel
theorem dX10_wall_111 : decode cX10_wall 111 = .ok (.if_icmp .ge 33, 3) := by decide +kernel
theorem dX10_wall_114 : decode cX10_wall 114 = .ok (.aload_n 0, 1) := by decide +kernel
theorem dX10_wall_115 : decode cX10_wall 115 = .ok (.getfield 19, 3) := by decide +kernel
theorem dX10_wall_118 : decode cX10_wall 118 = .ok (.iload_n 1, 1) := by decide +kernel
theorem dX10_wall_119 : decode cX10_wall 119 = .ok (.aload_n 0, 1) := by decide +kernel
theorem dX10_wall_120 : decode cX10_wall 120 = .ok (.getfield 56, 3) := by decide +kernel
theorem dX10_wall_123 : decode cX10_wall 123 = .ok (.iload_n 1, 1) := by decide +kernel
theorem dX10_wall_124 : decode cX10_wall 124 = .ok (.iaload, 1) := by decide +kernel
theorem dX10_wall_125 : decode cX10_wall 125 = .ok (.iastore, 1) := by decide +kernel
theorem dX10_wall_126 : decode cX10_wall 126 = .ok (.aload_n 0, 1) := by decide +kernel
theorem dX10_wall_127 : decode cX10_wall 127 = .ok (.getfield 22, 3) := by decide +kernel
theorem dX10_wall_130 : decode cX10_wall 130 = .ok (.iload_n 1, 1) := by decide +kernel
theorem dX10_wall_131 : decode cX10_wall 131 = .ok (.aload_n 0, 1) := by decide +kernel
theorem dX10_wall_132 : decode cX10_wall 132 = .ok (.getfield 59, 3) := by decide +kernel
theorem dX10_wall_135 : decode cX10_wall 135 = .ok (.iload_n 1, 1) := by decide +kernel
theorem dX10_wall_136 : decode cX10_wall 136 = .ok (.iaload, 1) := by decide +kernel
theorem dX10_wall_137 : decode cX10_wall 137 = .ok (.iastore, 1) := by decide +kernel
theorem dX10_wall_138 : decode cX10_wall 138 = .ok (.iinc 1 1, 3) := by decide +kernel
theorem dX10_wall_141 : decode cX10_wall 141 = .ok (.goto (-35), 3) := by decide +kernel
theorem dX10_wall_144 : decode cX10_wall 144 = .ok (.aload_n 0, 1) := by decide +kernel
theorem dX10_wall_145 : decode cX10_wall 145 = .ok (.iconst 0, 1) := by decide +kernel
theorem dX10_wall_146 : decode cX10_wall 146 = .ok (.putfield 163, 3) := by decide +kernel
theorem dX10_wall_149 : decode cX10_wall 149 = .ok (.aload_n 0, 1) := by decide +kernel
theorem dX10_wall_150 : decode cX10_wall 150 = .ok (.iconst 0, 1) := by decide +kernel
theorem dX10_wall_151 : decode cX10_wall 151 = .ok (.putfield 166, 3) := by decide +kernel
theorem dX10_wall_154 : decode cX10_wall 154 = .ok (.aload_n 0, 1) := by decide +kernel
theorem dX10_wall_155 : decode cX10_wall 155 = .ok (.dup, 1) := by decide +kernel
theorem dX10_wall_156 : decode cX10_wall 156 = .ok (.getfield 169, 3) := by decide +kernel
theorem dX10_wall_159 : decode cX10_wall 159 = .ok (.iconst 1, 1) := by decide +kernel
theorem dX10_wall_160 : decode cX10_wall 160 = .ok (.iadd, 1) := by decide +kernel
theorem dX10_wall_161 : decode cX10_wall 161 = .ok (.putfield 169, 3) := by decide +kernel
theorem dX10_wall_164 : decode cX10_wall 164 = .ok (.aload_n 0, 1) := by decide +kernel
theorem dX10_wall_165 : decode cX10_wall 165 = .ok (.iconst 0, 1) := by decide +kernel
theorem dX10_wall_166 : decode cX10_wall 166 = .ok (.putfield 172, 3) := by decide +kernel
theorem dX10_wall_169 : decode cX10_wall 169 = .ok (.aload_n 0, 1) := by decide +kernel
theorem dX10_wall_170 : decode cX10_wall 170 = .ok (.iconst 0, 1) := by decide +kernel
theorem dX10_wall_171 : decode cX10_wall 171 = .ok (.putfield 105, 3) := by decide +kernel
theorem dX10_wall_174 : decode cX10_wall 174 = .ok (.aload_n 0, 1) := by decide +kernel
theorem dX10_wall_175 : decode cX10_wall 175 = .ok (.getfield 157, 3) := by decide +kernel
theorem dX10_wall_178 : decode cX10_wall 178 = .ok (.ireturn, 1) := by decide +kernel
theorem dX10_isWitness_0 : decode cX10_isWitness 0 = .ok (.iload_n 1, 1) := by decide +kernel
theorem dX10_isWitness_1 : decode cX10_isWitness 1 = .ok (.iconst 0, 1) := by decide +kernel
theorem dX10_isWitness_2 : decode cX10_isWitness 2 = .ok (.aload_n 0, 1) := by decide +kernel
theorem dX10_isWitness_3 : decode cX10_isWitness 3 = .ok (.getfield 157, 3) := by decide +kernel
theorem dX10_isWitness_6 : decode cX10_isWitness 6 = .ok (.iconst 1, 1) := by decide +kernel
theorem dX10_isWitness_7 : decode cX10_isWitness 7 = .ok (.isub, 1) := by decide +kernel
theorem dX10_isWitness_8 : decode cX10_isWitness 8 = .ok (.invokestatic 101, 3) := by decide +kernel
theorem dX10_isWitness_11 : decode cX10_isWitness 11 = .ok (.ireturn, 1) := by decide +kernel
theorem dX10_isSight_0 : decode cX10_isSight 0 = .ok (.iload_n 0, 1) := by decide +kernel
theorem dX10_isSight_1 : decode cX10_isSight 1 = .ok (.iconst 0, 1) := by decide +kernel
theorem dX10_isSight_2 : decode cX10_isSight 2 = .ok (.iconst 5, 1) := by decide +kernel
theorem dX10_isSight_3 : decode cX10_isSight 3 = .ok (.invokestatic 101, 3) := by decide +kernel
theorem dX10_isSight_6 : decode cX10_isSight 6 = .ok (.ifCond .eq 16, 3) := by decide +kernel
theorem dX10_isSight_9 : decode cX10_isSight 9 = .ok (.iload_n 1, 1) := by decide +kernel
theorem dX10_isSight_10 : decode cX10_isSight 10 = .ok (.iconst 0, 1) := by decide +kernel
theorem dX10_isSight_11 : decode cX10_isSight 11 = .ok (.iconst 3, 1) := by decide +kernel
theorem dX10_isSight_12 : decode cX10_isSight 12 = .ok (.invokestatic 101, 3) := by decide +kernel
theorem dX10_isSight_15 : decode cX10_isSight 15 = .ok (.ifCond .eq 7, 3) := by decide +kernel
theorem dX10_isSight_18 : decode cX10_isSight 18 = .ok (.iconst 1, 1) := by decide +kernel
theorem dX10_isSight_19 : decode cX10_isSight 19 = .ok (.goto 4, 3) := by decide +kernel
theorem dX10_isSight_22 : decode cX10_isSight 22 = .ok (.iconst 0, 1) := by decide +kernel
theorem dX10_isSight_23 : decode cX10_isSight 23 = .ok (.ireturn, 1) := by decide +kernel
theorem dX10_tellsNow_0 : decode cX10_tellsNow 0 = .ok (.iconst (-1), 1) := by decide +kernel
theorem dX10_tellsNow_1 : decode cX10_tellsNow 1 = .ok (.istore_n 3, 1) := by decide +kernel
theorem dX10_tellsNow_2 : decode cX10_tellsNow 2 = .ok (.iconst 0, 1) := by decide +kernel
theorem dX10_tellsNow_3 : decode cX10_tellsNow 3 = .ok (.istore 4, 2) := by decide +kernel
theorem dX10_tellsNow_5 : decode cX10_tellsNow 5 = .ok (.iload 4, 2) := by decide +kernel
theorem dX10_tellsNow_7 : decode cX10_tellsNow 7 = .ok (.aload_n 0, 1) := by decide +kernel
theorem dX10_tellsNow_8 : decode cX10_tellsNow 8 = .ok (.getfield 16, 3) := by decide +kernel
theorem dX10_tellsNow_11 : decode cX10_tellsNow 11 = .ok (.iload_n 1, 1) := by decide +kernel
theorem dX10_tellsNow_12 : decode cX10_tellsNow 12 = .ok (.iaload, 1) := by decide +kernel
theorem dX10_tellsNow_13 : decode cX10_tellsNow 13 = .ok (.if_icmp .ge 44, 3) := by decide +kernel
theorem dX10_tellsNow_16 : decode cX10_tellsNow 16 = .ok (.aload_n 0, 1) := by decide +kernel
theorem dX10_tellsNow_17 : decode cX10_tellsNow 17 = .ok (.getfield 13, 3) := by decide +kernel
theorem dX10_tellsNow_20 : decode cX10_tellsNow 20 = .ok (.iconst 4, 1) := by decide +kernel
theorem dX10_tellsNow_21 : decode cX10_tellsNow 21 = .ok (.iload_n 1, 1) := by decide +kernel
theorem dX10_tellsNow_22 : decode cX10_tellsNow 22 = .ok (.imul, 1) := by decide +kernel
theorem dX10_tellsNow_23 : decode cX10_tellsNow 23 = .ok (.iload 4, 2) := by decide +kernel
theorem dX10_tellsNow_25 : decode cX10_tellsNow 25 = .ok (.iadd, 1) := by decide +kernel
theorem dX10_tellsNow_26 : decode cX10_tellsNow 26 = .ok (.iaload, 1) := by decide +kernel
theorem dX10_tellsNow_27 : decode cX10_tellsNow 27 = .ok (.iconst 4, 1) := by decide +kernel
theorem dX10_tellsNow_28 : decode cX10_tellsNow 28 = .ok (.idiv, 1) := by decide +kernel
theorem dX10_tellsNow_29 : decode cX10_tellsNow 29 = .ok (.iload_n 2, 1) := by decide +kernel
theorem dX10_tellsNow_30 : decode cX10_tellsNow 30 = .ok (.if_icmp .ne 19, 3) := by decide +kernel
theorem dX10_tellsNow_33 : decode cX10_tellsNow 33 = .ok (.aload_n 0, 1) := by decide +kernel
theorem dX10_tellsNow_34 : decode cX10_tellsNow 34 = .ok (.getfield 13, 3) := by decide +kernel
theorem dX10_tellsNow_37 : decode cX10_tellsNow 37 = .ok (.iconst 4, 1) := by decide +kernel
theorem dX10_tellsNow_38 : decode cX10_tellsNow 38 = .ok (.iload_n 1, 1) := by decide +kernel
theorem dX10_tellsNow_39 : decode cX10_tellsNow 39 = .ok (.imul, 1) := by decide +kernel
theorem dX10_tellsNow_40 : decode cX10_tellsNow 40 = .ok (.iload 4, 2) := by decide +kernel
theorem dX10_tellsNow_42 : decode cX10_tellsNow 42 = .ok (.iadd, 1) := by decide +kernel
theorem dX10_tellsNow_43 : decode cX10_tellsNow 43 = .ok (.iaload, 1) := by decide +kernel
theorem dX10_tellsNow_44 : decode cX10_tellsNow 44 = .ok (.iconst 4, 1) := by decide +kernel
theorem dX10_tellsNow_45 : decode cX10_tellsNow 45 = .ok (.irem, 1) := by decide +kernel
theorem dX10_tellsNow_46 : decode cX10_tellsNow 46 = .ok (.goto 4, 3) := by decide +kernel
theorem dX10_tellsNow_49 : decode cX10_tellsNow 49 = .ok (.iload_n 3, 1) := by decide +kernel
theorem dX10_tellsNow_50 : decode cX10_tellsNow 50 = .ok (.istore_n 3, 1) := by decide +kernel
theorem dX10_tellsNow_51 : decode cX10_tellsNow 51 = .ok (.iinc 4 1, 3) := by decide +kernel
theorem dX10_tellsNow_54 : decode cX10_tellsNow 54 = .ok (.goto (-49), 3) := by decide +kernel
theorem dX10_tellsNow_57 : decode cX10_tellsNow 57 = .ok (.iload_n 3, 1) := by decide +kernel
theorem dX10_tellsNow_58 : decode cX10_tellsNow 58 = .ok (.ireturn, 1) := by decide +kernel
theorem dX10_hasThing_0 : decode cX10_hasThing 0 = .ok (.aload_n 0, 1) := by decide +kernel
theorem dX10_hasThing_1 : decode cX10_hasThing 1 = .ok (.iload_n 1, 1) := by decide +kernel
theorem dX10_hasThing_2 : decode cX10_hasThing 2 = .ok (.iload_n 2, 1) := by decide +kernel
theorem dX10_hasThing_3 : decode cX10_hasThing 3 = .ok (.invokevirtual 175, 3) := by decide +kernel
theorem dX10_hasThing_6 : decode cX10_hasThing 6 = .ok (.iconst (-1), 1) := by decide +kernel
theorem dX10_hasThing_7 : decode cX10_hasThing 7 = .ok (.if_icmp .eq 7, 3) := by decide +kernel
theorem dX10_hasThing_10 : decode cX10_hasThing 10 = .ok (.iconst 1, 1) := by decide +kernel
theorem dX10_hasThing_11 : decode cX10_hasThing 11 = .ok (.goto 4, 3) := by decide +kernel
theorem dX10_hasThing_14 : decode cX10_hasThing 14 = .ok (.iconst 0, 1) := by decide +kernel
theorem dX10_hasThing_15 : decode cX10_hasThing 15 = .ok (.ireturn, 1) := by decide +kernel
theorem dX10_clashesOfTwo_0 : decode cX10_clashesOfTwo 0 = .ok (.iconst 0, 1) := by decide +kernel
theorem dX10_clashesOfTwo_1 : decode cX10_clashesOfTwo 1 = .ok (.istore_n 3, 1) := by decide +kernel
theorem dX10_clashesOfTwo_2 : decode cX10_clashesOfTwo 2 = .ok (.iconst 0, 1) := by decide +kernel
theorem dX10_clashesOfTwo_3 : decode cX10_clashesOfTwo 3 = .ok (.istore 4, 2) := by decide +kernel
theorem dX10_clashesOfTwo_5 : decode cX10_clashesOfTwo 5 = .ok (.iload 4, 2) := by decide +kernel
theorem dX10_clashesOfTwo_7 : decode cX10_clashesOfTwo 7 = .ok (.bipush 6, 2) := by decide +kernel
theorem dX10_clashesOfTwo_9 : decode cX10_clashesOfTwo 9 = .ok (.if_icmp .ge 66, 3) := by decide +kernel
theorem dX10_clashesOfTwo_12 : decode cX10_clashesOfTwo 12 = .ok (.aload_n 0, 1) := by decide +kernel
theorem dX10_clashesOfTwo_13 : decode cX10_clashesOfTwo 13 = .ok (.iload_n 1, 1) := by decide +kernel
theorem dX10_clashesOfTwo_14 : decode cX10_clashesOfTwo 14 = .ok (.iload 4, 2) := by decide +kernel
theorem dX10_clashesOfTwo_16 : decode cX10_clashesOfTwo 16 = .ok (.invokevirtual 178, 3) := by decide +kernel
theorem dX10_clashesOfTwo_19 : decode cX10_clashesOfTwo 19 = .ok (.ifCond .eq 17, 3) := by decide +kernel
theorem dX10_clashesOfTwo_22 : decode cX10_clashesOfTwo 22 = .ok (.aload_n 0, 1) := by decide +kernel
theorem dX10_clashesOfTwo_23 : decode cX10_clashesOfTwo 23 = .ok (.iload_n 2, 1) := by decide +kernel
theorem dX10_clashesOfTwo_24 : decode cX10_clashesOfTwo 24 = .ok (.iload 4, 2) := by decide +kernel
theorem dX10_clashesOfTwo_26 : decode cX10_clashesOfTwo 26 = .ok (.invokevirtual 178, 3) := by decide +kernel
theorem dX10_clashesOfTwo_29 : decode cX10_clashesOfTwo 29 = .ok (.ifCond .eq 7, 3) := by decide +kernel
theorem dX10_clashesOfTwo_32 : decode cX10_clashesOfTwo 32 = .ok (.iconst 1, 1) := by decide +kernel
theorem dX10_clashesOfTwo_33 : decode cX10_clashesOfTwo 33 = .ok (.goto 4, 3) := by decide +kernel
theorem dX10_clashesOfTwo_36 : decode cX10_clashesOfTwo 36 = .ok (.iconst 0, 1) := by decide +kernel
theorem dX10_clashesOfTwo_37 : decode cX10_clashesOfTwo 37 = .ok (.istore 5, 2) := by decide +kernel
theorem dX10_clashesOfTwo_39 : decode cX10_clashesOfTwo 39 = .ok (.iload_n 3, 1) := by decide +kernel
theorem dX10_clashesOfTwo_40 : decode cX10_clashesOfTwo 40 = .ok (.iload 5, 2) := by decide +kernel
theorem dX10_clashesOfTwo_42 : decode cX10_clashesOfTwo 42 = .ok (.ifCond .eq 24, 3) := by decide +kernel
theorem dX10_clashesOfTwo_45 : decode cX10_clashesOfTwo 45 = .ok (.aload_n 0, 1) := by decide +kernel
theorem dX10_clashesOfTwo_46 : decode cX10_clashesOfTwo 46 = .ok (.iload_n 1, 1) := by decide +kernel
theorem dX10_clashesOfTwo_47 : decode cX10_clashesOfTwo 47 = .ok (.iload 4, 2) := by decide +kernel
theorem dX10_clashesOfTwo_49 : decode cX10_clashesOfTwo 49 = .ok (.invokevirtual 175, 3) := by decide +kernel
theorem dX10_clashesOfTwo_52 : decode cX10_clashesOfTwo 52 = .ok (.aload_n 0, 1) := by decide +kernel
theorem dX10_clashesOfTwo_53 : decode cX10_clashesOfTwo 53 = .ok (.iload_n 2, 1) := by decide +kernel
theorem dX10_clashesOfTwo_54 : decode cX10_clashesOfTwo 54 = .ok (.iload 4, 2) := by decide +kernel
theorem dX10_clashesOfTwo_56 : decode cX10_clashesOfTwo 56 = .ok (.invokevirtual 175, 3) := by decide +kernel
theorem dX10_clashesOfTwo_59 : decode cX10_clashesOfTwo 59 = .ok (.if_icmp .eq 7, 3) := by decide +kernel
theorem dX10_clashesOfTwo_62 : decode cX10_clashesOfTwo 62 = .ok (.iconst 1, 1) := by decide +kernel
theorem dX10_clashesOfTwo_63 : decode cX10_clashesOfTwo 63 = .ok (.goto 4, 3) := by decide +kernel
theorem dX10_clashesOfTwo_66 : decode cX10_clashesOfTwo 66 = .ok (.iconst 0, 1) := by decide +kernel
theorem dX10_clashesOfTwo_67 : decode cX10_clashesOfTwo 67 = .ok (.iadd, 1) := by decide +kernel
theorem dX10_clashesOfTwo_68 : decode cX10_clashesOfTwo 68 = .ok (.istore_n 3, 1) := by decide +kernel
theorem dX10_clashesOfTwo_69 : decode cX10_clashesOfTwo 69 = .ok (.iinc 4 1, 3) := by decide +kernel
theorem dX10_clashesOfTwo_72 : decode cX10_clashesOfTwo 72 = .ok (.goto (-67), 3) := by decide +kernel
theorem dX10_clashesOfTwo_75 : decode cX10_clashesOfTwo 75 = .ok (.iload_n 3, 1) := by decide +kernel
theorem dX10_clashesOfTwo_76 : decode cX10_clashesOfTwo 76 = .ok (.ireturn, 1) := by decide +kernel
theorem dX10_clashesOf_0 : decode cX10_clashesOf 0 = .ok (.iconst 0, 1) := by decide +kernel
theorem dX10_clashesOf_1 : decode cX10_clashesOf 1 = .ok (.istore_n 2, 1) := by decide +kernel
theorem dX10_clashesOf_2 : decode cX10_clashesOf 2 = .ok (.iconst 0, 1) := by decide +kernel
theorem dX10_clashesOf_3 : decode cX10_clashesOf 3 = .ok (.istore_n 3, 1) := by decide +kernel
theorem dX10_clashesOf_4 : decode cX10_clashesOf 4 = .ok (.iload_n 3, 1) := by decide +kernel
theorem dX10_clashesOf_5 : decode cX10_clashesOf 5 = .ok (.aload_n 0, 1) := by decide +kernel
theorem dX10_clashesOf_6 : decode cX10_clashesOf 6 = .ok (.getfield 157, 3) := by decide +kernel
theorem dX10_clashesOf_9 : decode cX10_clashesOf 9 = .ok (.if_icmp .ge 27, 3) := by decide +kernel
theorem dX10_clashesOf_12 : decode cX10_clashesOf 12 = .ok (.iload_n 2, 1) := by decide +kernel
theorem dX10_clashesOf_13 : decode cX10_clashesOf 13 = .ok (.iload_n 3, 1) := by decide +kernel
theorem dX10_clashesOf_14 : decode cX10_clashesOf 14 = .ok (.iload_n 1, 1) := by decide +kernel
theorem dX10_clashesOf_15 : decode cX10_clashesOf 15 = .ok (.if_icmp .ne 7, 3) := by decide +kernel
theorem dX10_clashesOf_18 : decode cX10_clashesOf 18 = .ok (.iconst 0, 1) := by decide +kernel
theorem dX10_clashesOf_19 : decode cX10_clashesOf 19 = .ok (.goto 9, 3) := by decide +kernel
theorem dX10_clashesOf_22 : decode cX10_clashesOf 22 = .ok (.aload_n 0, 1) := by decide +kernel
theorem dX10_clashesOf_23 : decode cX10_clashesOf 23 = .ok (.iload_n 1, 1) := by decide +kernel
theorem dX10_clashesOf_24 : decode cX10_clashesOf 24 = .ok (.iload_n 3, 1) := by decide +kernel
theorem dX10_clashesOf_25 : decode cX10_clashesOf 25 = .ok (.invokevirtual 181, 3) := by decide +kernel
theorem dX10_clashesOf_28 : decode cX10_clashesOf 28 = .ok (.iadd, 1) := by decide +kernel
theorem dX10_clashesOf_29 : decode cX10_clashesOf 29 = .ok (.istore_n 2, 1) := by decide +kernel
theorem dX10_clashesOf_30 : decode cX10_clashesOf 30 = .ok (.iinc 3 1, 3) := by decide +kernel
theorem dX10_clashesOf_33 : decode cX10_clashesOf 33 = .ok (.goto (-29), 3) := by decide +kernel
theorem dX10_clashesOf_36 : decode cX10_clashesOf 36 = .ok (.iload_n 2, 1) := by decide +kernel
theorem dX10_clashesOf_37 : decode cX10_clashesOf 37 = .ok (.ireturn, 1) := by decide +kernel
theorem dX10_clashesAmong_0 : decode cX10_clashesAmong 0 = .ok (.iconst 0, 1) := by decide +kernel
theorem dX10_clashesAmong_1 : decode cX10_clashesAmong 1 = .ok (.istore_n 2, 1) := by decide +kernel
theorem dX10_clashesAmong_2 : decode cX10_clashesAmong 2 = .ok (.iconst 0, 1) := by decide +kernel
theorem dX10_clashesAmong_3 : decode cX10_clashesAmong 3 = .ok (.istore_n 3, 1) := by decide +kernel
theorem dX10_clashesAmong_4 : decode cX10_clashesAmong 4 = .ok (.iload_n 3, 1) := by decide +kernel
theorem dX10_clashesAmong_5 : decode cX10_clashesAmong 5 = .ok (.aload_n 0, 1) := by decide +kernel
theorem dX10_clashesAmong_6 : decode cX10_clashesAmong 6 = .ok (.getfield 157, 3) := by decide +kernel
theorem dX10_clashesAmong_9 : decode cX10_clashesAmong 9 = .ok (.if_icmp .ge 55, 3) := by decide +kernel
theorem dX10_clashesAmong_12 : decode cX10_clashesAmong 12 = .ok (.iconst 0, 1) := by decide +kernel
theorem dX10_clashesAmong_13 : decode cX10_clashesAmong 13 = .ok (.istore 4, 2) := by decide +kernel
theorem dX10_clashesAmong_15 : decode cX10_clashesAmong 15 = .ok (.iload 4, 2) := by decide +kernel
theorem dX10_clashesAmong_17 : decode cX10_clashesAmong 17 = .ok (.iload_n 3, 1) := by decide +kernel
theorem dX10_clashesAmong_18 : decode cX10_clashesAmong 18 = .ok (.if_icmp .ge 40, 3) := by decide +kernel
theorem dX10_clashesAmong_21 : decode cX10_clashesAmong 21 = .ok (.iload_n 2, 1) := by decide +kernel
theorem dX10_clashesAmong_22 : decode cX10_clashesAmong 22 = .ok (.iload_n 1, 1) := by decide +kernel
theorem dX10_clashesAmong_23 : decode cX10_clashesAmong 23 = .ok (.iload_n 3, 1) := by decide +kernel
theorem dX10_clashesAmong_24 : decode cX10_clashesAmong 24 = .ok (.invokestatic 184, 3) := by decide +kernel
theorem dX10_clashesAmong_27 : decode cX10_clashesAmong 27 = .ok (.ifCond .eq 22, 3) := by decide +kernel
theorem dX10_clashesAmong_30 : decode cX10_clashesAmong 30 = .ok (.iload_n 1, 1) := by decide +kernel
theorem dX10_clashesAmong_31 : decode cX10_clashesAmong 31 = .ok (.iload 4, 2) := by decide +kernel
theorem dX10_clashesAmong_33 : decode cX10_clashesAmong 33 = .ok (.invokestatic 184, 3) := by decide +kernel
theorem dX10_clashesAmong_36 : decode cX10_clashesAmong 36 = .ok (.ifCond .eq 13, 3) := by decide +kernel
theorem dX10_clashesAmong_39 : decode cX10_clashesAmong 39 = .ok (.aload_n 0, 1) := by decide +kernel
theorem dX10_clashesAmong_40 : decode cX10_clashesAmong 40 = .ok (.iload_n 3, 1) := by decide +kernel
theorem dX10_clashesAmong_41 : decode cX10_clashesAmong 41 = .ok (.iload 4, 2) := by decide +kernel
theorem dX10_clashesAmong_43 : decode cX10_clashesAmong 43 = .ok (.invokevirtual 181, 3) := by decide +kernel
theorem dX10_clashesAmong_46 : decode cX10_clashesAmong 46 = .ok (.goto 4, 3) := by decide +kernel
theorem dX10_clashesAmong_49 : decode cX10_clashesAmong 49 = .ok (.iconst 0, 1) := by decide +kernel
theorem dX10_clashesAmong_50 : decode cX10_clashesAmong 50 = .ok (.iadd, 1) := by decide +kernel
theorem dX10_clashesAmong_51 : decode cX10_clashesAmong 51 = .ok (.istore_n 2, 1) := by decide +kernel
theorem dX10_clashesAmong_52 : decode cX10_clashesAmong 52 = .ok (.iinc 4 1, 3) := by decide +kernel
theorem dX10_clashesAmong_55 : decode cX10_clashesAmong 55 = .ok (.goto (-40), 3) := by decide +kernel
theorem dX10_clashesAmong_58 : decode cX10_clashesAmong 58 = .ok (.iinc 3 1, 3) := by decide +kernel
theorem dX10_clashesAmong_61 : decode cX10_clashesAmong 61 = .ok (.goto (-57), 3) := by decide +kernel
theorem dX10_clashesAmong_64 : decode cX10_clashesAmong 64 = .ok (.iload_n 2, 1) := by decide +kernel
theorem dX10_clashesAmong_65 : decode cX10_clashesAmong 65 = .ok (.ireturn, 1) := by decide +kernel
theorem dX10_everybody_0 : decode cX10_everybody 0 = .ok (.iconst 1, 1) := by decide +kernel
theorem dX10_everybody_1 : decode cX10_everybody 1 = .ok (.aload_n 0, 1) := by decide +kernel
theorem dX10_everybody_2 : decode cX10_everybody 2 = .ok (.getfield 157, 3) := by decide +kernel
theorem dX10_everybody_5 : decode cX10_everybody 5 = .ok (.ishl, 1) := by decide +kernel
theorem dX10_everybody_6 : decode cX10_everybody 6 = .ok (.iconst 1, 1) := by decide +kernel
theorem dX10_everybody_7 : decode cX10_everybody 7 = .ok (.isub, 1) := by decide +kernel
theorem dX10_everybody_8 : decode cX10_everybody 8 = .ok (.ireturn, 1) := by decide +kernel
theorem dX10_saidBy_0 : decode cX10_saidBy 0 = .ok (.iconst (-1), 1) := by decide +kernel
theorem dX10_saidBy_1 : decode cX10_saidBy 1 = .ok (.istore_n 3, 1) := by decide +kernel
