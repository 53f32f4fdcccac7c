theorem dX10_saidBy_2 : decode cX10_saidBy 2 = .ok (.iconst 0, 1) := by decide +kernel
theorem dX10_saidBy_3 : decode cX10_saidBy 3 = .ok (.istore 4, 2) := by decide +kernel
theorem dX10_saidBy_5 : decode cX10_saidBy 5 = .ok (.iconst 0, 1) := by decide +kernel
theorem dX10_saidBy_6 : decode cX10_saidBy 6 = .ok (.istore 5, 2) := by decide +kernel
theorem dX10_saidBy_8 : decode cX10_saidBy 8 = .ok (.iconst 0, 1) := by decide +kernel
theorem dX10_saidBy_9 : decode cX10_saidBy 9 = .ok (.istore 6, 2) := by decide +kernel
theorem dX10_saidBy_11 : decode cX10_saidBy 11 = .ok (.iload 6, 2) := by decide +kernel
theorem dX10_saidBy_13 : decode cX10_saidBy 13 = .ok (.iconst 4, 1) := by decide +kernel
theorem dX10_saidBy_14 : decode cX10_saidBy 14 = .ok (.if_icmp .ge 119, 3) := by decide +kernel
theorem dX10_saidBy_17 : decode cX10_saidBy 17 = .ok (.iconst 0, 1) := by decide +kernel
theorem dX10_saidBy_18 : decode cX10_saidBy 18 = .ok (.istore 7, 2) := by decide +kernel
theorem dX10_saidBy_20 : decode cX10_saidBy 20 = .ok (.iconst 0, 1) := by decide +kernel
theorem dX10_saidBy_21 : decode cX10_saidBy 21 = .ok (.istore 8, 2) := by decide +kernel
theorem dX10_saidBy_23 : decode cX10_saidBy 23 = .ok (.iload 8, 2) := by decide +kernel
theorem dX10_saidBy_25 : decode cX10_saidBy 25 = .ok (.aload_n 0, 1) := by decide +kernel
theorem dX10_saidBy_26 : decode cX10_saidBy 26 = .ok (.getfield 157, 3) := by decide +kernel
theorem dX10_saidBy_29 : decode cX10_saidBy 29 = .ok (.if_icmp .ge 40, 3) := by decide +kernel
theorem dX10_saidBy_32 : decode cX10_saidBy 32 = .ok (.iload 7, 2) := by decide +kernel
theorem dX10_saidBy_34 : decode cX10_saidBy 34 = .ok (.iload_n 1, 1) := by decide +kernel
theorem dX10_saidBy_35 : decode cX10_saidBy 35 = .ok (.iload 8, 2) := by decide +kernel
theorem dX10_saidBy_37 : decode cX10_saidBy 37 = .ok (.invokestatic 184, 3) := by decide +kernel
theorem dX10_saidBy_40 : decode cX10_saidBy 40 = .ok (.ifCond .eq 19, 3) := by decide +kernel
theorem dX10_saidBy_43 : decode cX10_saidBy 43 = .ok (.aload_n 0, 1) := by decide +kernel
theorem dX10_saidBy_44 : decode cX10_saidBy 44 = .ok (.iload 8, 2) := by decide +kernel
theorem dX10_saidBy_46 : decode cX10_saidBy 46 = .ok (.iload_n 2, 1) := by decide +kernel
theorem dX10_saidBy_47 : decode cX10_saidBy 47 = .ok (.invokevirtual 175, 3) := by decide +kernel
theorem dX10_saidBy_50 : decode cX10_saidBy 50 = .ok (.iload 6, 2) := by decide +kernel
theorem dX10_saidBy_52 : decode cX10_saidBy 52 = .ok (.if_icmp .ne 7, 3) := by decide +kernel
theorem dX10_saidBy_55 : decode cX10_saidBy 55 = .ok (.iconst 1, 1) := by decide +kernel
theorem dX10_saidBy_56 : decode cX10_saidBy 56 = .ok (.goto 4, 3) := by decide +kernel
theorem dX10_saidBy_59 : decode cX10_saidBy 59 = .ok (.iconst 0, 1) := by decide +kernel
theorem dX10_saidBy_60 : decode cX10_saidBy 60 = .ok (.iadd, 1) := by decide +kernel
theorem dX10_saidBy_61 : decode cX10_saidBy 61 = .ok (.istore 7, 2) := by decide +kernel
theorem dX10_saidBy_63 : decode cX10_saidBy 63 = .ok (.iinc 8 1, 3) := by decide +kernel
theorem dX10_saidBy_66 : decode cX10_saidBy 66 = .ok (.goto (-43), 3) := by decide +kernel
theorem dX10_saidBy_69 : decode cX10_saidBy 69 = .ok (.iload 7, 2) := by decide +kernel
theorem dX10_saidBy_71 : decode cX10_saidBy 71 = .ok (.iload 4, 2) := by decide +kernel
theorem dX10_saidBy_73 : decode cX10_saidBy 73 = .ok (.if_icmp .le 8, 3) := by decide +kernel
theorem dX10_saidBy_76 : decode cX10_saidBy 76 = .ok (.iload 4, 2) := by decide +kernel
theorem dX10_saidBy_78 : decode cX10_saidBy 78 = .ok (.goto 17, 3) := by decide +kernel
theorem dX10_saidBy_81 : decode cX10_saidBy 81 = .ok (.iload 7, 2) := by decide +kernel
theorem dX10_saidBy_83 : decode cX10_saidBy 83 = .ok (.iload 5, 2) := by decide +kernel
theorem dX10_saidBy_85 : decode cX10_saidBy 85 = .ok (.if_icmp .le 8, 3) := by decide +kernel
theorem dX10_saidBy_88 : decode cX10_saidBy 88 = .ok (.iload 7, 2) := by decide +kernel
theorem dX10_saidBy_90 : decode cX10_saidBy 90 = .ok (.goto 5, 3) := by decide +kernel
theorem dX10_saidBy_93 : decode cX10_saidBy 93 = .ok (.iload 5, 2) := by decide +kernel
theorem dX10_saidBy_95 : decode cX10_saidBy 95 = .ok (.istore 5, 2) := by decide +kernel
theorem dX10_saidBy_97 : decode cX10_saidBy 97 = .ok (.iload 7, 2) := by decide +kernel
theorem dX10_saidBy_99 : decode cX10_saidBy 99 = .ok (.iload 4, 2) := by decide +kernel
theorem dX10_saidBy_101 : decode cX10_saidBy 101 = .ok (.if_icmp .le 8, 3) := by decide +kernel
theorem dX10_saidBy_104 : decode cX10_saidBy 104 = .ok (.iload 6, 2) := by decide +kernel
theorem dX10_saidBy_106 : decode cX10_saidBy 106 = .ok (.goto 4, 3) := by decide +kernel
theorem dX10_saidBy_109 : decode cX10_saidBy 109 = .ok (.iload_n 3, 1) := by decide +kernel
theorem dX10_saidBy_110 : decode cX10_saidBy 110 = .ok (.istore_n 3, 1) := by decide +kernel
theorem dX10_saidBy_111 : decode cX10_saidBy 111 = .ok (.iload 7, 2) := by decide +kernel
theorem dX10_saidBy_113 : decode cX10_saidBy 113 = .ok (.iload 4, 2) := by decide +kernel
theorem dX10_saidBy_115 : decode cX10_saidBy 115 = .ok (.if_icmp .le 8, 3) := by decide +kernel
theorem dX10_saidBy_118 : decode cX10_saidBy 118 = .ok (.iload 7, 2) := by decide +kernel
theorem dX10_saidBy_120 : decode cX10_saidBy 120 = .ok (.goto 5, 3) := by decide +kernel
theorem dX10_saidBy_123 : decode cX10_saidBy 123 = .ok (.iload 4, 2) := by decide +kernel
theorem dX10_saidBy_125 : decode cX10_saidBy 125 = .ok (.istore 4, 2) := by decide +kernel
theorem dX10_saidBy_127 : decode cX10_saidBy 127 = .ok (.iinc 6 1, 3) := by decide +kernel
theorem dX10_saidBy_130 : decode cX10_saidBy 130 = .ok (.goto (-119), 3) := by decide +kernel
theorem dX10_saidBy_133 : decode cX10_saidBy 133 = .ok (.iload 4, 2) := by decide +kernel
theorem dX10_saidBy_135 : decode cX10_saidBy 135 = .ok (.iload 5, 2) := by decide +kernel
theorem dX10_saidBy_137 : decode cX10_saidBy 137 = .ok (.if_icmp .le 7, 3) := by decide +kernel
theorem dX10_saidBy_140 : decode cX10_saidBy 140 = .ok (.iload_n 3, 1) := by decide +kernel
theorem dX10_saidBy_141 : decode cX10_saidBy 141 = .ok (.goto 4, 3) := by decide +kernel
theorem dX10_saidBy_144 : decode cX10_saidBy 144 = .ok (.iconst (-1), 1) := by decide +kernel
theorem dX10_saidBy_145 : decode cX10_saidBy 145 = .ok (.ireturn, 1) := by decide +kernel
theorem dX10_witnessNow_0 : decode cX10_witnessNow 0 = .ok (.iload_n 2, 1) := by decide +kernel
theorem dX10_witnessNow_1 : decode cX10_witnessNow 1 = .ok (.tableswitch 79 0 7 #[47, 54, 79, 79, 79, 61, 67, 73], 47) := by decide +kernel
theorem dX10_witnessNow_48 : decode cX10_witnessNow 48 = .ok (.aload_n 0, 1) := by decide +kernel
theorem dX10_witnessNow_49 : decode cX10_witnessNow 49 = .ok (.getfield 7, 3) := by decide +kernel
theorem dX10_witnessNow_52 : decode cX10_witnessNow 52 = .ok (.iload_n 1, 1) := by decide +kernel
theorem dX10_witnessNow_53 : decode cX10_witnessNow 53 = .ok (.iaload, 1) := by decide +kernel
theorem dX10_witnessNow_54 : decode cX10_witnessNow 54 = .ok (.ireturn, 1) := by decide +kernel
theorem dX10_witnessNow_55 : decode cX10_witnessNow 55 = .ok (.aload_n 0, 1) := by decide +kernel
theorem dX10_witnessNow_56 : decode cX10_witnessNow 56 = .ok (.getfield 16, 3) := by decide +kernel
theorem dX10_witnessNow_59 : decode cX10_witnessNow 59 = .ok (.iload_n 1, 1) := by decide +kernel
theorem dX10_witnessNow_60 : decode cX10_witnessNow 60 = .ok (.iaload, 1) := by decide +kernel
theorem dX10_witnessNow_61 : decode cX10_witnessNow 61 = .ok (.ireturn, 1) := by decide +kernel
theorem dX10_witnessNow_62 : decode cX10_witnessNow 62 = .ok (.aload_n 0, 1) := by decide +kernel
theorem dX10_witnessNow_63 : decode cX10_witnessNow 63 = .ok (.iload_n 1, 1) := by decide +kernel
theorem dX10_witnessNow_64 : decode cX10_witnessNow 64 = .ok (.invokevirtual 187, 3) := by decide +kernel
theorem dX10_witnessNow_67 : decode cX10_witnessNow 67 = .ok (.ireturn, 1) := by decide +kernel
theorem dX10_witnessNow_68 : decode cX10_witnessNow 68 = .ok (.aload_n 0, 1) := by decide +kernel
theorem dX10_witnessNow_69 : decode cX10_witnessNow 69 = .ok (.iload_n 1, 1) := by decide +kernel
theorem dX10_witnessNow_70 : decode cX10_witnessNow 70 = .ok (.invokevirtual 190, 3) := by decide +kernel
theorem dX10_witnessNow_73 : decode cX10_witnessNow 73 = .ok (.ireturn, 1) := by decide +kernel
theorem dX10_witnessNow_74 : decode cX10_witnessNow 74 = .ok (.aload_n 0, 1) := by decide +kernel
theorem dX10_witnessNow_75 : decode cX10_witnessNow 75 = .ok (.iload_n 1, 1) := by decide +kernel
theorem dX10_witnessNow_76 : decode cX10_witnessNow 76 = .ok (.invokevirtual 193, 3) := by decide +kernel
theorem dX10_witnessNow_79 : decode cX10_witnessNow 79 = .ok (.ireturn, 1) := by decide +kernel
theorem dX10_witnessNow_80 : decode cX10_witnessNow 80 = .ok (.iload_n 2, 1) := by decide +kernel
theorem dX10_witnessNow_81 : decode cX10_witnessNow 81 = .ok (.iconst 2, 1) := by decide +kernel
theorem dX10_witnessNow_82 : decode cX10_witnessNow 82 = .ok (.isub, 1) := by decide +kernel
theorem dX10_witnessNow_83 : decode cX10_witnessNow 83 = .ok (.aload_n 0, 1) := by decide +kernel
theorem dX10_witnessNow_84 : decode cX10_witnessNow 84 = .ok (.getfield 16, 3) := by decide +kernel
theorem dX10_witnessNow_87 : decode cX10_witnessNow 87 = .ok (.iload_n 1, 1) := by decide +kernel
theorem dX10_witnessNow_88 : decode cX10_witnessNow 88 = .ok (.iaload, 1) := by decide +kernel
theorem dX10_witnessNow_89 : decode cX10_witnessNow 89 = .ok (.if_icmp .ge 18, 3) := by decide +kernel
theorem dX10_witnessNow_92 : decode cX10_witnessNow 92 = .ok (.aload_n 0, 1) := by decide +kernel
theorem dX10_witnessNow_93 : decode cX10_witnessNow 93 = .ok (.getfield 13, 3) := by decide +kernel
theorem dX10_witnessNow_96 : decode cX10_witnessNow 96 = .ok (.iconst 4, 1) := by decide +kernel
theorem dX10_witnessNow_97 : decode cX10_witnessNow 97 = .ok (.iload_n 1, 1) := by decide +kernel
theorem dX10_witnessNow_98 : decode cX10_witnessNow 98 = .ok (.imul, 1) := by decide +kernel
theorem dX10_witnessNow_99 : decode cX10_witnessNow 99 = .ok (.iload_n 2, 1) := by decide +kernel
theorem dX10_witnessNow_100 : decode cX10_witnessNow 100 = .ok (.iadd, 1) := by decide +kernel
theorem dX10_witnessNow_101 : decode cX10_witnessNow 101 = .ok (.iconst 2, 1) := by decide +kernel
theorem dX10_witnessNow_102 : decode cX10_witnessNow 102 = .ok (.isub, 1) := by decide +kernel
theorem dX10_witnessNow_103 : decode cX10_witnessNow 103 = .ok (.iaload, 1) := by decide +kernel
theorem dX10_witnessNow_104 : decode cX10_witnessNow 104 = .ok (.goto 4, 3) := by decide +kernel
theorem dX10_witnessNow_107 : decode cX10_witnessNow 107 = .ok (.iconst (-1), 1) := by decide +kernel
theorem dX10_witnessNow_108 : decode cX10_witnessNow 108 = .ok (.ireturn, 1) := by decide +kernel
theorem dX10_witness_0 : decode cX10_witness 0 = .ok (.aload_n 0, 1) := by decide +kernel
theorem dX10_witness_1 : decode cX10_witness 1 = .ok (.iload_n 1, 1) := by decide +kernel
theorem dX10_witness_2 : decode cX10_witness 2 = .ok (.invokevirtual 196, 3) := by decide +kernel
theorem dX10_witness_5 : decode cX10_witness 5 = .ok (.ifCond .ne 8, 3) := by decide +kernel
theorem dX10_witness_8 : decode cX10_witness 8 = .ok (.bipush (-101), 2) := by decide +kernel
theorem dX10_witness_10 : decode cX10_witness 10 = .ok (.goto 24, 3) := by decide +kernel
theorem dX10_witness_13 : decode cX10_witness 13 = .ok (.iload_n 2, 1) := by decide +kernel
theorem dX10_witness_14 : decode cX10_witness 14 = .ok (.iconst 0, 1) := by decide +kernel
theorem dX10_witness_15 : decode cX10_witness 15 = .ok (.bipush 7, 2) := by decide +kernel
theorem dX10_witness_17 : decode cX10_witness 17 = .ok (.invokestatic 101, 3) := by decide +kernel
theorem dX10_witness_20 : decode cX10_witness 20 = .ok (.ifCond .eq 12, 3) := by decide +kernel
theorem dX10_witness_23 : decode cX10_witness 23 = .ok (.aload_n 0, 1) := by decide +kernel
theorem dX10_witness_24 : decode cX10_witness 24 = .ok (.iload_n 1, 1) := by decide +kernel
theorem dX10_witness_25 : decode cX10_witness 25 = .ok (.iload_n 2, 1) := by decide +kernel
theorem dX10_witness_26 : decode cX10_witness 26 = .ok (.invokevirtual 199, 3) := by decide +kernel
theorem dX10_witness_29 : decode cX10_witness 29 = .ok (.goto 5, 3) := by decide +kernel
theorem dX10_witness_32 : decode cX10_witness 32 = .ok (.bipush (-102), 2) := by decide +kernel
theorem dX10_witness_34 : decode cX10_witness 34 = .ok (.ireturn, 1) := by decide +kernel
theorem dX10_as_0 : decode cX10_as 0 = .ok (.aload_n 0, 1) := by decide +kernel
theorem dX10_as_1 : decode cX10_as 1 = .ok (.iload_n 1, 1) := by decide +kernel
theorem dX10_as_2 : decode cX10_as 2 = .ok (.invokevirtual 196, 3) := by decide +kernel
theorem dX10_as_5 : decode cX10_as 5 = .ok (.ifCond .ne 6, 3) := by decide +kernel
theorem dX10_as_8 : decode cX10_as 8 = .ok (.bipush (-101), 2) := by decide +kernel
theorem dX10_as_10 : decode cX10_as 10 = .ok (.ireturn, 1) := by decide +kernel
theorem dX10_as_11 : decode cX10_as 11 = .ok (.iload_n 2, 1) := by decide +kernel
theorem dX10_as_12 : decode cX10_as 12 = .ok (.iconst 0, 1) := by decide +kernel
theorem dX10_as_13 : decode cX10_as 13 = .ok (.iconst 4, 1) := by decide +kernel
theorem dX10_as_14 : decode cX10_as 14 = .ok (.invokestatic 101, 3) := by decide +kernel
theorem dX10_as_17 : decode cX10_as 17 = .ok (.ifCond .ne 6, 3) := by decide +kernel
theorem dX10_as_20 : decode cX10_as 20 = .ok (.bipush (-102), 2) := by decide +kernel
theorem dX10_as_22 : decode cX10_as 22 = .ok (.ireturn, 1) := by decide +kernel
theorem dX10_as_23 : decode cX10_as 23 = .ok (.aload_n 0, 1) := by decide +kernel
theorem dX10_as_24 : decode cX10_as 24 = .ok (.getfield 7, 3) := by decide +kernel
theorem dX10_as_27 : decode cX10_as 27 = .ok (.iload_n 1, 1) := by decide +kernel
theorem dX10_as_28 : decode cX10_as 28 = .ok (.iaload, 1) := by decide +kernel
theorem dX10_as_29 : decode cX10_as 29 = .ok (.istore_n 3, 1) := by decide +kernel
theorem dX10_as_30 : decode cX10_as 30 = .ok (.iload_n 2, 1) := by decide +kernel
theorem dX10_as_31 : decode cX10_as 31 = .ok (.ifCond .eq 18, 3) := by decide +kernel
theorem dX10_as_34 : decode cX10_as 34 = .ok (.iload_n 3, 1) := by decide +kernel
theorem dX10_as_35 : decode cX10_as 35 = .ok (.iload_n 2, 1) := by decide +kernel
theorem dX10_as_36 : decode cX10_as 36 = .ok (.if_icmp .eq 13, 3) := by decide +kernel
theorem dX10_as_39 : decode cX10_as 39 = .ok (.iload_n 2, 1) := by decide +kernel
theorem dX10_as_40 : decode cX10_as 40 = .ok (.iconst 3, 1) := by decide +kernel
theorem dX10_as_41 : decode cX10_as 41 = .ok (.if_icmp .ne 12, 3) := by decide +kernel
theorem dX10_as_44 : decode cX10_as 44 = .ok (.iload_n 3, 1) := by decide +kernel
theorem dX10_as_45 : decode cX10_as 45 = .ok (.iconst 4, 1) := by decide +kernel
theorem dX10_as_46 : decode cX10_as 46 = .ok (.if_icmp .ne 7, 3) := by decide +kernel
theorem dX10_as_49 : decode cX10_as 49 = .ok (.iload_n 1, 1) := by decide +kernel
theorem dX10_as_50 : decode cX10_as 50 = .ok (.goto 4, 3) := by decide +kernel
theorem dX10_as_53 : decode cX10_as 53 = .ok (.iconst (-1), 1) := by decide +kernel
theorem dX10_as_54 : decode cX10_as 54 = .ok (.ireturn, 1) := by decide +kernel
theorem dX10_tells_0 : decode cX10_tells 0 = .ok (.aload_n 0, 1) := by decide +kernel
theorem dX10_tells_1 : decode cX10_tells 1 = .ok (.iload_n 1, 1) := by decide +kernel
theorem dX10_tells_2 : decode cX10_tells 2 = .ok (.invokevirtual 196, 3) := by decide +kernel
theorem dX10_tells_5 : decode cX10_tells 5 = .ok (.ifCond .ne 6, 3) := by decide +kernel
theorem dX10_tells_8 : decode cX10_tells 8 = .ok (.bipush (-101), 2) := by decide +kernel
theorem dX10_tells_10 : decode cX10_tells 10 = .ok (.ireturn, 1) := by decide +kernel
theorem dX10_tells_11 : decode cX10_tells 11 = .ok (.iload_n 2, 1) := by decide +kernel
theorem dX10_tells_12 : decode cX10_tells 12 = .ok (.iconst 0, 1) := by decide +kernel
theorem dX10_tells_13 : decode cX10_tells 13 = .ok (.iconst 5, 1) := by decide +kernel
theorem dX10_tells_14 : decode cX10_tells 14 = .ok (.invokestatic 101, 3) := by decide +kernel
theorem dX10_tells_17 : decode cX10_tells 17 = .ok (.ifCond .eq 12, 3) := by decide +kernel
theorem dX10_tells_20 : decode cX10_tells 20 = .ok (.aload_n 0, 1) := by decide +kernel
theorem dX10_tells_21 : decode cX10_tells 21 = .ok (.iload_n 1, 1) := by decide +kernel
theorem dX10_tells_22 : decode cX10_tells 22 = .ok (.iload_n 2, 1) := by decide +kernel
theorem dX10_tells_23 : decode cX10_tells 23 = .ok (.invokevirtual 175, 3) := by decide +kernel
theorem dX10_tells_26 : decode cX10_tells 26 = .ok (.goto 5, 3) := by decide +kernel
theorem dX10_tells_29 : decode cX10_tells 29 = .ok (.bipush (-102), 2) := by decide +kernel
theorem dX10_tells_31 : decode cX10_tells 31 = .ok (.ireturn, 1) := by decide +kernel
theorem dX10_said_0 : decode cX10_said 0 = .ok (.iload_n 1, 1) := by decide +kernel
theorem dX10_said_1 : decode cX10_said 1 = .ok (.iconst 0, 1) := by decide +kernel
theorem dX10_said_2 : decode cX10_said 2 = .ok (.iconst 5, 1) := by decide +kernel
theorem dX10_said_3 : decode cX10_said 3 = .ok (.invokestatic 101, 3) := by decide +kernel
theorem dX10_said_6 : decode cX10_said 6 = .ok (.ifCond .ne 6, 3) := by decide +kernel
theorem dX10_said_9 : decode cX10_said 9 = .ok (.bipush (-102), 2) := by decide +kernel
theorem dX10_said_11 : decode cX10_said 11 = .ok (.ireturn, 1) := by decide +kernel
theorem dX10_said_12 : decode cX10_said 12 = .ok (.aload_n 0, 1) := by decide +kernel
theorem dX10_said_13 : decode cX10_said 13 = .ok (.getfield 169, 3) := by decide +kernel
theorem dX10_said_16 : decode cX10_said 16 = .ok (.ifCond .ne 8, 3) := by decide +kernel
theorem dX10_said_19 : decode cX10_said 19 = .ok (.bipush (-103), 2) := by decide +kernel
theorem dX10_said_21 : decode cX10_said 21 = .ok (.goto 12, 3) := by decide +kernel
theorem dX10_said_24 : decode cX10_said 24 = .ok (.aload_n 0, 1) := by decide +kernel
theorem dX10_said_25 : decode cX10_said 25 = .ok (.aload_n 0, 1) := by decide +kernel
theorem dX10_said_26 : decode cX10_said 26 = .ok (.invokevirtual 202, 3) := by decide +kernel
theorem dX10_said_29 : decode cX10_said 29 = .ok (.iload_n 1, 1) := by decide +kernel
theorem dX10_said_30 : decode cX10_said 30 = .ok (.invokevirtual 205, 3) := by decide +kernel
theorem dX10_said_33 : decode cX10_said 33 = .ok (.ireturn, 1) := by decide +kernel
theorem dX10_has_0 : decode cX10_has 0 = .ok (.iconst 0, 1) := by decide +kernel
theorem dX10_has_1 : decode cX10_has 1 = .ok (.istore_n 3, 1) := by decide +kernel
theorem dX10_has_2 : decode cX10_has 2 = .ok (.iconst 0, 1) := by decide +kernel
theorem dX10_has_3 : decode cX10_has 3 = .ok (.istore 4, 2) := by decide +kernel
theorem dX10_has_5 : decode cX10_has 5 = .ok (.iload 4, 2) := by decide +kernel
theorem dX10_has_7 : decode cX10_has 7 = .ok (.aload_n 0, 1) := by decide +kernel
theorem dX10_has_8 : decode cX10_has 8 = .ok (.getfield 16, 3) := by decide +kernel
theorem dX10_has_11 : decode cX10_has 11 = .ok (.iload_n 1, 1) := by decide +kernel
theorem dX10_has_12 : decode cX10_has 12 = .ok (.iaload, 1) := by decide +kernel
theorem dX10_has_13 : decode cX10_has 13 = .ok (.if_icmp .ge 34, 3) := by decide +kernel
theorem dX10_has_16 : decode cX10_has 16 = .ok (.iload_n 3, 1) := by decide +kernel
theorem dX10_has_17 : decode cX10_has 17 = .ok (.ifCond .ne 18, 3) := by decide +kernel
theorem dX10_has_20 : decode cX10_has 20 = .ok (.aload_n 0, 1) := by decide +kernel
theorem dX10_has_21 : decode cX10_has 21 = .ok (.getfield 13, 3) := by decide +kernel
theorem dX10_has_24 : decode cX10_has 24 = .ok (.iconst 4, 1) := by decide +kernel
theorem dX10_has_25 : decode cX10_has 25 = .ok (.iload_n 1, 1) := by decide +kernel
theorem dX10_has_26 : decode cX10_has 26 = .ok (.imul, 1) := by decide +kernel
theorem dX10_has_27 : decode cX10_has 27 = .ok (.iload 4, 2) := by decide +kernel
theorem dX10_has_29 : decode cX10_has 29 = .ok (.iadd, 1) := by decide +kernel
theorem dX10_has_30 : decode cX10_has 30 = .ok (.iaload, 1) := by decide +kernel
theorem dX10_has_31 : decode cX10_has 31 = .ok (.iload_n 2, 1) := by decide +kernel
theorem dX10_has_32 : decode cX10_has 32 = .ok (.if_icmp .ne 7, 3) := by decide +kernel
theorem dX10_has_35 : decode cX10_has 35 = .ok (.iconst 1, 1) := by decide +kernel
theorem dX10_has_36 : decode cX10_has 36 = .ok (.goto 4, 3) := by decide +kernel
theorem dX10_has_39 : decode cX10_has 39 = .ok (.iconst 0, 1) := by decide +kernel
theorem dX10_has_40 : decode cX10_has 40 = .ok (.istore_n 3, 1) := by decide +kernel
theorem dX10_has_41 : decode cX10_has 41 = .ok (.iinc 4 1, 3) := by decide +kernel
theorem dX10_has_44 : decode cX10_has 44 = .ok (.goto (-39), 3) := by decide +kernel
theorem dX10_has_47 : decode cX10_has 47 = .ok (.iload_n 3, 1) := by decide +kernel
theorem dX10_has_48 : decode cX10_has 48 = .ok (.ireturn, 1) := by decide +kernel
theorem dX10_having_0 : decode cX10_having 0 = .ok (.iload_n 1, 1) := by decide +kernel
theorem dX10_having_1 : decode cX10_having 1 = .ok (.iload_n 2, 1) := by decide +kernel
theorem dX10_having_2 : decode cX10_having 2 = .ok (.invokestatic 208, 3) := by decide +kernel
theorem dX10_having_5 : decode cX10_having 5 = .ok (.ifCond .ne 6, 3) := by decide +kernel
theorem dX10_having_8 : decode cX10_having 8 = .ok (.bipush (-102), 2) := by decide +kernel
theorem dX10_having_10 : decode cX10_having 10 = .ok (.ireturn, 1) := by decide +kernel
theorem dX10_having_11 : decode cX10_having 11 = .ok (.aload_n 0, 1) := by decide +kernel
theorem dX10_having_12 : decode cX10_having 12 = .ok (.getfield 169, 3) := by decide +kernel
theorem dX10_having_15 : decode cX10_having 15 = .ok (.ifCond .ne 6, 3) := by decide +kernel
theorem dX10_having_18 : decode cX10_having 18 = .ok (.bipush (-103), 2) := by decide +kernel
theorem dX10_having_20 : decode cX10_having 20 = .ok (.ireturn, 1) := by decide +kernel
theorem dX10_having_21 : decode cX10_having 21 = .ok (.iconst 0, 1) := by decide +kernel
theorem dX10_having_22 : decode cX10_having 22 = .ok (.istore_n 3, 1) := by decide +kernel
theorem dX10_having_23 : decode cX10_having 23 = .ok (.iconst 0, 1) := by decide +kernel
theorem dX10_having_24 : decode cX10_having 24 = .ok (.istore 4, 2) := by decide +kernel
theorem dX10_having_26 : decode cX10_having 26 = .ok (.iload 4, 2) := by decide +kernel
theorem dX10_having_28 : decode cX10_having 28 = .ok (.aload_n 0, 1) := by decide +kernel
theorem dX10_having_29 : decode cX10_having 29 = .ok (.getfield 157, 3) := by decide +kernel
theorem dX10_having_32 : decode cX10_having 32 = .ok (.if_icmp .ge 31, 3) := by decide +kernel
theorem dX10_having_35 : decode cX10_having 35 = .ok (.iload_n 3, 1) := by decide +kernel
theorem dX10_having_36 : decode cX10_having 36 = .ok (.aload_n 0, 1) := by decide +kernel
theorem dX10_having_37 : decode cX10_having 37 = .ok (.iload 4, 2) := by decide +kernel
theorem dX10_having_39 : decode cX10_having 39 = .ok (.iconst 4, 1) := by decide +kernel
theorem dX10_having_40 : decode cX10_having 40 = .ok (.iload_n 1, 1) := by decide +kernel
theorem dX10_having_41 : decode cX10_having 41 = .ok (.imul, 1) := by decide +kernel
theorem dX10_having_42 : decode cX10_having 42 = .ok (.iload_n 2, 1) := by decide +kernel
theorem dX10_having_43 : decode cX10_having 43 = .ok (.iadd, 1) := by decide +kernel
theorem dX10_having_44 : decode cX10_having 44 = .ok (.invokevirtual 211, 3) := by decide +kernel
theorem dX10_having_47 : decode cX10_having 47 = .ok (.ifCond .eq 7, 3) := by decide +kernel
theorem dX10_having_50 : decode cX10_having 50 = .ok (.iconst 1, 1) := by decide +kernel
theorem dX10_having_51 : decode cX10_having 51 = .ok (.goto 4, 3) := by decide +kernel
theorem dX10_having_54 : decode cX10_having 54 = .ok (.iconst 0, 1) := by decide +kernel
theorem dX10_having_55 : decode cX10_having 55 = .ok (.iadd, 1) := by decide +kernel
theorem dX10_having_56 : decode cX10_having 56 = .ok (.istore_n 3, 1) := by decide +kernel
theorem dX10_having_57 : decode cX10_having 57 = .ok (.iinc 4 1, 3) := by decide +kernel
theorem dX10_having_60 : decode cX10_having 60 = .ok (.goto (-34), 3) := by decide +kernel
theorem dX10_having_63 : decode cX10_having 63 = .ok (.iload_n 3, 1) := by decide +kernel
theorem dX10_having_64 : decode cX10_having 64 = .ok (.ireturn, 1) := by decide +kernel
theorem dX10_takes_0 : decode cX10_takes 0 = .ok (.iload_n 0, 1) := by decide +kernel
theorem dX10_takes_1 : decode cX10_takes 1 = .ok (.iconst 2, 1) := by decide +kernel
theorem dX10_takes_2 : decode cX10_takes 2 = .ok (.if_icmp .eq 16, 3) := by decide +kernel
theorem dX10_takes_5 : decode cX10_takes 5 = .ok (.iload_n 0, 1) := by decide +kernel
theorem dX10_takes_6 : decode cX10_takes 6 = .ok (.iconst 4, 1) := by decide +kernel
theorem dX10_takes_7 : decode cX10_takes 7 = .ok (.if_icmp .ne 7, 3) := by decide +kernel
theorem dX10_takes_10 : decode cX10_takes 10 = .ok (.iload_n 1, 1) := by decide +kernel
theorem dX10_takes_11 : decode cX10_takes 11 = .ok (.ifCond .ne 7, 3) := by decide +kernel
theorem dX10_takes_14 : decode cX10_takes 14 = .ok (.iconst 1, 1) := by decide +kernel
theorem dX10_takes_15 : decode cX10_takes 15 = .ok (.goto 4, 3) := by decide +kernel
theorem dX10_takes_18 : decode cX10_takes 18 = .ok (.iconst 0, 1) := by decide +kernel
theorem dX10_takes_19 : decode cX10_takes 19 = .ok (.ireturn, 1) := by decide +kernel
theorem dX10_goes_0 : decode cX10_goes 0 = .ok (.iload_n 1, 1) := by decide +kernel
theorem dX10_goes_1 : decode cX10_goes 1 = .ok (.iload_n 2, 1) := by decide +kernel
theorem dX10_goes_2 : decode cX10_goes 2 = .ok (.if_icmp .eq 22, 3) := by decide +kernel
theorem dX10_goes_5 : decode cX10_goes 5 = .ok (.iload_n 0, 1) := by decide +kernel
theorem dX10_goes_6 : decode cX10_goes 6 = .ok (.iconst 1, 1) := by decide +kernel
theorem dX10_goes_7 : decode cX10_goes 7 = .ok (.if_icmp .eq 17, 3) := by decide +kernel
theorem dX10_goes_10 : decode cX10_goes 10 = .ok (.iload_n 0, 1) := by decide +kernel
theorem dX10_goes_11 : decode cX10_goes 11 = .ok (.iconst 3, 1) := by decide +kernel
theorem dX10_goes_12 : decode cX10_goes 12 = .ok (.if_icmp .ne 16, 3) := by decide +kernel
theorem dX10_goes_15 : decode cX10_goes 15 = .ok (.iload_n 1, 1) := by decide +kernel
theorem dX10_goes_16 : decode cX10_goes 16 = .ok (.iconst 4, 1) := by decide +kernel
theorem dX10_goes_17 : decode cX10_goes 17 = .ok (.idiv, 1) := by decide +kernel
theorem dX10_goes_18 : decode cX10_goes 18 = .ok (.iload_n 2, 1) := by decide +kernel
theorem dX10_goes_19 : decode cX10_goes 19 = .ok (.iconst 4, 1) := by decide +kernel
theorem dX10_goes_20 : decode cX10_goes 20 = .ok (.idiv, 1) := by decide +kernel
theorem dX10_goes_21 : decode cX10_goes 21 = .ok (.if_icmp .ne 7, 3) := by decide +kernel
theorem dX10_goes_24 : decode cX10_goes 24 = .ok (.iconst 1, 1) := by decide +kernel
theorem dX10_goes_25 : decode cX10_goes 25 = .ok (.goto 4, 3) := by decide +kernel
theorem dX10_goes_28 : decode cX10_goes 28 = .ok (.iconst 0, 1) := by decide +kernel
theorem dX10_goes_29 : decode cX10_goes 29 = .ok (.ireturn, 1) := by decide +kernel
theorem dX10_showNow_0 : decode cX10_showNow 0 = .ok (.aload_n 0, 1) := by decide +kernel
theorem dX10_showNow_1 : decode cX10_showNow 1 = .ok (.getfield 7, 3) := by decide +kernel
theorem dX10_showNow_4 : decode cX10_showNow 4 = .ok (.iload_n 1, 1) := by decide +kernel
theorem dX10_showNow_5 : decode cX10_showNow 5 = .ok (.iaload, 1) := by decide +kernel
theorem dX10_showNow_6 : decode cX10_showNow 6 = .ok (.aload_n 0, 1) := by decide +kernel
theorem dX10_showNow_7 : decode cX10_showNow 7 = .ok (.iload_n 1, 1) := by decide +kernel
theorem dX10_showNow_8 : decode cX10_showNow 8 = .ok (.iload_n 2, 1) := by decide +kernel
theorem dX10_showNow_9 : decode cX10_showNow 9 = .ok (.iconst 4, 1) := by decide +kernel
theorem dX10_showNow_10 : decode cX10_showNow 10 = .ok (.idiv, 1) := by decide +kernel
theorem dX10_showNow_11 : decode cX10_showNow 11 = .ok (.invokevirtual 178, 3) := by decide +kernel
theorem dX10_showNow_14 : decode cX10_showNow 14 = .ok (.invokestatic 214, 3) := by decide +kernel
theorem dX10_showNow_17 : decode cX10_showNow 17 = .ok (.ifCond .ne 5, 3) := by decide +kernel
theorem dX10_showNow_20 : decode cX10_showNow 20 = .ok (.iconst 0, 1) := by decide +kernel
theorem dX10_showNow_21 : decode cX10_showNow 21 = .ok (.ireturn, 1) := by decide +kernel
theorem dX10_showNow_22 : decode cX10_showNow 22 = .ok (.iconst 0, 1) := by decide +kernel
theorem dX10_showNow_23 : decode cX10_showNow 23 = .ok (.istore_n 3, 1) := by decide +kernel
theorem dX10_showNow_24 : decode cX10_showNow 24 = .ok (.iconst 0, 1) := by decide +kernel
theorem dX10_showNow_25 : decode cX10_showNow 25 = .ok (.istore 4, 2) := by decide +kernel
theorem dX10_showNow_27 : decode cX10_showNow 27 = .ok (.iload 4, 2) := by decide +kernel
theorem dX10_showNow_29 : decode cX10_showNow 29 = .ok (.aload_n 0, 1) := by decide +kernel
theorem dX10_showNow_30 : decode cX10_showNow 30 = .ok (.getfield 16, 3) := by decide +kernel
theorem dX10_showNow_33 : decode cX10_showNow 33 = .ok (.iload_n 1, 1) := by decide +kernel
theorem dX10_showNow_34 : decode cX10_showNow 34 = .ok (.iaload, 1) := by decide +kernel
theorem dX10_showNow_35 : decode cX10_showNow 35 = .ok (.if_icmp .ge 57, 3) := by decide +kernel
theorem dX10_showNow_38 : decode cX10_showNow 38 = .ok (.aload_n 0, 1) := by decide +kernel
theorem dX10_showNow_39 : decode cX10_showNow 39 = .ok (.getfield 7, 3) := by decide +kernel
theorem dX10_showNow_42 : decode cX10_showNow 42 = .ok (.iload_n 1, 1) := by decide +kernel
theorem dX10_showNow_43 : decode cX10_showNow 43 = .ok (.iaload, 1) := by decide +kernel
theorem dX10_showNow_44 : decode cX10_showNow 44 = .ok (.aload_n 0, 1) := by decide +kernel
theorem dX10_showNow_45 : decode cX10_showNow 45 = .ok (.getfield 13, 3) := by decide +kernel
theorem dX10_showNow_48 : decode cX10_showNow 48 = .ok (.iconst 4, 1) := by decide +kernel
theorem dX10_showNow_49 : decode cX10_showNow 49 = .ok (.iload_n 1, 1) := by decide +kernel
theorem dX10_showNow_50 : decode cX10_showNow 50 = .ok (.imul, 1) := by decide +kernel
theorem dX10_showNow_51 : decode cX10_showNow 51 = .ok (.iload 4, 2) := by decide +kernel
theorem dX10_showNow_53 : decode cX10_showNow 53 = .ok (.iadd, 1) := by decide +kernel
theorem dX10_showNow_54 : decode cX10_showNow 54 = .ok (.iaload, 1) := by decide +kernel
theorem dX10_showNow_55 : decode cX10_showNow 55 = .ok (.iload_n 2, 1) := by decide +kernel
theorem dX10_showNow_56 : decode cX10_showNow 56 = .ok (.invokestatic 218, 3) := by decide +kernel
theorem dX10_showNow_59 : decode cX10_showNow 59 = .ok (.ifCond .ne 27, 3) := by decide +kernel
theorem dX10_showNow_62 : decode cX10_showNow 62 = .ok (.aload_n 0, 1) := by decide +kernel
theorem dX10_showNow_63 : decode cX10_showNow 63 = .ok (.getfield 13, 3) := by decide +kernel
theorem dX10_showNow_66 : decode cX10_showNow 66 = .ok (.iconst 4, 1) := by decide +kernel
theorem dX10_showNow_67 : decode cX10_showNow 67 = .ok (.iload_n 1, 1) := by decide +kernel
theorem dX10_showNow_68 : decode cX10_showNow 68 = .ok (.imul, 1) := by decide +kernel
theorem dX10_showNow_69 : decode cX10_showNow 69 = .ok (.iload_n 3, 1) := by decide +kernel
theorem dX10_showNow_70 : decode cX10_showNow 70 = .ok (.iadd, 1) := by decide +kernel
theorem dX10_showNow_71 : decode cX10_showNow 71 = .ok (.aload_n 0, 1) := by decide +kernel
theorem dX10_showNow_72 : decode cX10_showNow 72 = .ok (.getfield 13, 3) := by decide +kernel
theorem dX10_showNow_75 : decode cX10_showNow 75 = .ok (.iconst 4, 1) := by decide +kernel
theorem dX10_showNow_76 : decode cX10_showNow 76 = .ok (.iload_n 1, 1) := by decide +kernel
theorem dX10_showNow_77 : decode cX10_showNow 77 = .ok (.imul, 1) := by decide +kernel
theorem dX10_showNow_78 : decode cX10_showNow 78 = .ok (.iload 4, 2) := by decide +kernel
theorem dX10_showNow_80 : decode cX10_showNow 80 = .ok (.iadd, 1) := by decide +kernel
theorem dX10_showNow_81 : decode cX10_showNow 81 = .ok (.iaload, 1) := by decide +kernel
theorem dX10_showNow_82 : decode cX10_showNow 82 = .ok (.iastore, 1) := by decide +kernel
theorem dX10_showNow_83 : decode cX10_showNow 83 = .ok (.iinc 3 1, 3) := by decide +kernel
theorem dX10_showNow_86 : decode cX10_showNow 86 = .ok (.iinc 4 1, 3) := by decide +kernel
theorem dX10_showNow_89 : decode cX10_showNow 89 = .ok (.goto (-62), 3) := by decide +kernel
theorem dX10_showNow_92 : decode cX10_showNow 92 = .ok (.aload_n 0, 1) := by decide +kernel
theorem dX10_showNow_93 : decode cX10_showNow 93 = .ok (.getfield 13, 3) := by decide +kernel
theorem dX10_showNow_96 : decode cX10_showNow 96 = .ok (.iconst 4, 1) := by decide +kernel
theorem dX10_showNow_97 : decode cX10_showNow 97 = .ok (.iload_n 1, 1) := by decide +kernel
theorem dX10_showNow_98 : decode cX10_showNow 98 = .ok (.imul, 1) := by decide +kernel
theorem dX10_showNow_99 : decode cX10_showNow 99 = .ok (.iload_n 3, 1) := by decide +kernel
theorem dX10_showNow_100 : decode cX10_showNow 100 = .ok (.iadd, 1) := by decide +kernel
theorem dX10_showNow_101 : decode cX10_showNow 101 = .ok (.iload_n 2, 1) := by decide +kernel
theorem dX10_showNow_102 : decode cX10_showNow 102 = .ok (.iastore, 1) := by decide +kernel
theorem dX10_showNow_103 : decode cX10_showNow 103 = .ok (.aload_n 0, 1) := by decide +kernel
theorem dX10_showNow_104 : decode cX10_showNow 104 = .ok (.getfield 16, 3) := by decide +kernel
theorem dX10_showNow_107 : decode cX10_showNow 107 = .ok (.iload_n 1, 1) := by decide +kernel
theorem dX10_showNow_108 : decode cX10_showNow 108 = .ok (.iload_n 3, 1) := by decide +kernel
theorem dX10_showNow_109 : decode cX10_showNow 109 = .ok (.iconst 1, 1) := by decide +kernel
theorem dX10_showNow_110 : decode cX10_showNow 110 = .ok (.iadd, 1) := by decide +kernel
theorem dX10_showNow_111 : decode cX10_showNow 111 = .ok (.iastore, 1) := by decide +kernel
theorem dX10_showNow_112 : decode cX10_showNow 112 = .ok (.aload_n 0, 1) := by decide +kernel
theorem dX10_showNow_113 : decode cX10_showNow 113 = .ok (.getfield 16, 3) := by decide +kernel
theorem dX10_showNow_116 : decode cX10_showNow 116 = .ok (.iload_n 1, 1) := by decide +kernel
theorem dX10_showNow_117 : decode cX10_showNow 117 = .ok (.iaload, 1) := by decide +kernel
theorem dX10_showNow_118 : decode cX10_showNow 118 = .ok (.iconst 3, 1) := by decide +kernel
theorem dX10_showNow_119 : decode cX10_showNow 119 = .ok (.if_icmp .le 49, 3) := by decide +kernel
theorem dX10_showNow_122 : decode cX10_showNow 122 = .ok (.iconst 0, 1) := by decide +kernel
theorem dX10_showNow_123 : decode cX10_showNow 123 = .ok (.istore 4, 2) := by decide +kernel
theorem dX10_showNow_125 : decode cX10_showNow 125 = .ok (.iload 4, 2) := by decide +kernel
theorem dX10_showNow_127 : decode cX10_showNow 127 = .ok (.iconst 3, 1) := by decide +kernel
theorem dX10_showNow_128 : decode cX10_showNow 128 = .ok (.if_icmp .ge 33, 3) := by decide +kernel
theorem dX10_showNow_131 : decode cX10_showNow 131 = .ok (.aload_n 0, 1) := by decide +kernel
theorem dX10_showNow_132 : decode cX10_showNow 132 = .ok (.getfield 13, 3) := by decide +kernel
theorem dX10_showNow_135 : decode cX10_showNow 135 = .ok (.iconst 4, 1) := by decide +kernel
theorem dX10_showNow_136 : decode cX10_showNow 136 = .ok (.iload_n 1, 1) := by decide +kernel
theorem dX10_showNow_137 : decode cX10_showNow 137 = .ok (.imul, 1) := by decide +kernel
theorem dX10_showNow_138 : decode cX10_showNow 138 = .ok (.iload 4, 2) := by decide +kernel
theorem dX10_showNow_140 : decode cX10_showNow 140 = .ok (.iadd, 1) := by decide +kernel
theorem dX10_showNow_141 : decode cX10_showNow 141 = .ok (.aload_n 0, 1) := by decide +kernel
theorem dX10_showNow_142 : decode cX10_showNow 142 = .ok (.getfield 13, 3) := by decide +kernel
theorem dX10_showNow_145 : decode cX10_showNow 145 = .ok (.iconst 4, 1) := by decide +kernel
theorem dX10_showNow_146 : decode cX10_showNow 146 = .ok (.iload_n 1, 1) := by decide +kernel
theorem dX10_showNow_147 : decode cX10_showNow 147 = .ok (.imul, 1) := by decide +kernel
theorem dX10_showNow_148 : decode cX10_showNow 148 = .ok (.iload 4, 2) := by decide +kernel
theorem dX10_showNow_150 : decode cX10_showNow 150 = .ok (.iadd, 1) := by decide +kernel
theorem dX10_showNow_151 : decode cX10_showNow 151 = .ok (.iconst 1, 1) := by decide +kernel
theorem dX10_showNow_152 : decode cX10_showNow 152 = .ok (.iadd, 1) := by decide +kernel
theorem dX10_showNow_153 : decode cX10_showNow 153 = .ok (.iaload, 1) := by decide +kernel
theorem dX10_showNow_154 : decode cX10_showNow 154 = .ok (.iastore, 1) := by decide +kernel
theorem dX10_showNow_155 : decode cX10_showNow 155 = .ok (.iinc 4 1, 3) := by decide +kernel
theorem dX10_showNow_158 : decode cX10_showNow 158 = .ok (.goto (-33), 3) := by decide +kernel
theorem dX10_showNow_161 : decode cX10_showNow 161 = .ok (.aload_n 0, 1) := by decide +kernel
theorem dX10_showNow_162 : decode cX10_showNow 162 = .ok (.getfield 16, 3) := by decide +kernel
theorem dX10_showNow_165 : decode cX10_showNow 165 = .ok (.iload_n 1, 1) := by decide +kernel
theorem dX10_showNow_166 : decode cX10_showNow 166 = .ok (.iconst 3, 1) := by decide +kernel
theorem dX10_showNow_167 : decode cX10_showNow 167 = .ok (.iastore, 1) := by decide +kernel
theorem dX10_showNow_168 : decode cX10_showNow 168 = .ok (.iconst 1, 1) := by decide +kernel
theorem dX10_showNow_169 : decode cX10_showNow 169 = .ok (.ireturn, 1) := by decide +kernel
theorem dX10_show_0 : decode cX10_show 0 = .ok (.aload_n 0, 1) := by decide +kernel
theorem dX10_show_1 : decode cX10_show 1 = .ok (.iload_n 1, 1) := by decide +kernel
theorem dX10_show_2 : decode cX10_show 2 = .ok (.invokevirtual 196, 3) := by decide +kernel
theorem dX10_show_5 : decode cX10_show 5 = .ok (.ifCond .ne 6, 3) := by decide +kernel
theorem dX10_show_8 : decode cX10_show 8 = .ok (.bipush (-101), 2) := by decide +kernel
theorem dX10_show_10 : decode cX10_show 10 = .ok (.ireturn, 1) := by decide +kernel
theorem dX10_show_11 : decode cX10_show 11 = .ok (.iload_n 2, 1) := by decide +kernel
theorem dX10_show_12 : decode cX10_show 12 = .ok (.iload_n 3, 1) := by decide +kernel
theorem dX10_show_13 : decode cX10_show 13 = .ok (.invokestatic 208, 3) := by decide +kernel
theorem dX10_show_16 : decode cX10_show 16 = .ok (.ifCond .ne 6, 3) := by decide +kernel
theorem dX10_show_19 : decode cX10_show 19 = .ok (.bipush (-102), 2) := by decide +kernel
theorem dX10_show_21 : decode cX10_show 21 = .ok (.ireturn, 1) := by decide +kernel
theorem dX10_show_22 : decode cX10_show 22 = .ok (.aload_n 0, 1) := by decide +kernel
theorem dX10_show_23 : decode cX10_show 23 = .ok (.getfield 166, 3) := by decide +kernel
theorem dX10_show_26 : decode cX10_show 26 = .ok (.sipush 9999, 3) := by decide +kernel
theorem dX10_show_29 : decode cX10_show 29 = .ok (.if_icmp .ne 6, 3) := by decide +kernel
theorem dX10_show_32 : decode cX10_show 32 = .ok (.bipush (-104), 2) := by decide +kernel
theorem dX10_show_34 : decode cX10_show 34 = .ok (.ireturn, 1) := by decide +kernel
theorem dX10_show_35 : decode cX10_show 35 = .ok (.aload_n 0, 1) := by decide +kernel
theorem dX10_show_36 : decode cX10_show 36 = .ok (.dup, 1) := by decide +kernel
theorem dX10_show_37 : decode cX10_show 37 = .ok (.getfield 166, 3) := by decide +kernel
theorem dX10_show_40 : decode cX10_show 40 = .ok (.iconst 1, 1) := by decide +kernel
theorem dX10_show_41 : decode cX10_show 41 = .ok (.iadd, 1) := by decide +kernel
theorem dX10_show_42 : decode cX10_show 42 = .ok (.putfield 166, 3) := by decide +kernel
theorem dX10_show_45 : decode cX10_show 45 = .ok (.aload_n 0, 1) := by decide +kernel
theorem dX10_show_46 : decode cX10_show 46 = .ok (.iload_n 1, 1) := by decide +kernel
theorem dX10_show_47 : decode cX10_show 47 = .ok (.iconst 4, 1) := by decide +kernel
theorem dX10_show_48 : decode cX10_show 48 = .ok (.iload_n 2, 1) := by decide +kernel
theorem dX10_show_49 : decode cX10_show 49 = .ok (.imul, 1) := by decide +kernel
theorem dX10_show_50 : decode cX10_show 50 = .ok (.iload_n 3, 1) := by decide +kernel
theorem dX10_show_51 : decode cX10_show 51 = .ok (.iadd, 1) := by decide +kernel
theorem dX10_show_52 : decode cX10_show 52 = .ok (.invokevirtual 221, 3) := by decide +kernel
theorem dX10_show_55 : decode cX10_show 55 = .ok (.ifCond .eq 7, 3) := by decide +kernel
theorem dX10_show_58 : decode cX10_show 58 = .ok (.iconst 1, 1) := by decide +kernel
theorem dX10_show_59 : decode cX10_show 59 = .ok (.goto 4, 3) := by decide +kernel
theorem dX10_show_62 : decode cX10_show 62 = .ok (.iconst 0, 1) := by decide +kernel
theorem dX10_show_63 : decode cX10_show 63 = .ok (.ireturn, 1) := by decide +kernel
theorem dX10_be_0 : decode cX10_be 0 = .ok (.aload_n 0, 1) := by decide +kernel
theorem dX10_be_1 : decode cX10_be 1 = .ok (.iload_n 1, 1) := by decide +kernel
theorem dX10_be_2 : decode cX10_be 2 = .ok (.invokevirtual 196, 3) := by decide +kernel
theorem dX10_be_5 : decode cX10_be 5 = .ok (.ifCond .ne 6, 3) := by decide +kernel
theorem dX10_be_8 : decode cX10_be 8 = .ok (.bipush (-101), 2) := by decide +kernel
theorem dX10_be_10 : decode cX10_be 10 = .ok (.ireturn, 1) := by decide +kernel
theorem dX10_be_11 : decode cX10_be 11 = .ok (.iload_n 2, 1) := by decide +kernel
theorem dX10_be_12 : decode cX10_be 12 = .ok (.iconst 0, 1) := by decide +kernel
theorem dX10_be_13 : decode cX10_be 13 = .ok (.iconst 4, 1) := by decide +kernel
theorem dX10_be_14 : decode cX10_be 14 = .ok (.invokestatic 101, 3) := by decide +kernel
theorem dX10_be_17 : decode cX10_be 17 = .ok (.ifCond .ne 6, 3) := by decide +kernel
theorem dX10_be_20 : decode cX10_be 20 = .ok (.bipush (-102), 2) := by decide +kernel
theorem dX10_be_22 : decode cX10_be 22 = .ok (.ireturn, 1) := by decide +kernel
theorem dX10_be_23 : decode cX10_be 23 = .ok (.aload_n 0, 1) := by decide +kernel
theorem dX10_be_24 : decode cX10_be 24 = .ok (.getfield 7, 3) := by decide +kernel
theorem dX10_be_27 : decode cX10_be 27 = .ok (.iload_n 1, 1) := by decide +kernel
theorem dX10_be_28 : decode cX10_be 28 = .ok (.iaload, 1) := by decide +kernel
theorem dX10_be_29 : decode cX10_be 29 = .ok (.istore_n 3, 1) := by decide +kernel
theorem dX10_be_30 : decode cX10_be 30 = .ok (.aload_n 0, 1) := by decide +kernel
theorem dX10_be_31 : decode cX10_be 31 = .ok (.getfield 7, 3) := by decide +kernel
theorem dX10_be_34 : decode cX10_be 34 = .ok (.iload_n 1, 1) := by decide +kernel
theorem dX10_be_35 : decode cX10_be 35 = .ok (.iload_n 2, 1) := by decide +kernel
theorem dX10_be_36 : decode cX10_be 36 = .ok (.iastore, 1) := by decide +kernel
theorem dX10_be_37 : decode cX10_be 37 = .ok (.iload_n 3, 1) := by decide +kernel
theorem dX10_be_38 : decode cX10_be 38 = .ok (.ireturn, 1) := by decide +kernel
theorem dX10_slip_0 : decode cX10_slip 0 = .ok (.iload_n 1, 1) := by decide +kernel
theorem dX10_slip_1 : decode cX10_slip 1 = .ok (.iconst 1, 1) := by decide +kernel
theorem dX10_slip_2 : decode cX10_slip 2 = .ok (.bipush 6, 2) := by decide +kernel
theorem dX10_slip_4 : decode cX10_slip 4 = .ok (.invokestatic 101, 3) := by decide +kernel
theorem dX10_slip_7 : decode cX10_slip 7 = .ok (.ifCond .ne 6, 3) := by decide +kernel
theorem dX10_slip_10 : decode cX10_slip 10 = .ok (.bipush (-102), 2) := by decide +kernel
theorem dX10_slip_12 : decode cX10_slip 12 = .ok (.ireturn, 1) := by decide +kernel
theorem dX10_slip_13 : decode cX10_slip 13 = .ok (.aload_n 0, 1) := by decide +kernel
theorem dX10_slip_14 : decode cX10_slip 14 = .ok (.iload_n 2, 1) := by decide +kernel
theorem dX10_slip_15 : decode cX10_slip 15 = .ok (.invokevirtual 196, 3) := by decide +kernel
theorem dX10_slip_18 : decode cX10_slip 18 = .ok (.ifCond .ne 6, 3) := by decide +kernel
theorem dX10_slip_21 : decode cX10_slip 21 = .ok (.bipush (-101), 2) := by decide +kernel
theorem dX10_slip_23 : decode cX10_slip 23 = .ok (.ireturn, 1) := by decide +kernel
theorem dX10_slip_24 : decode cX10_slip 24 = .ok (.iload_n 3, 1) := by decide +kernel
theorem dX10_slip_25 : decode cX10_slip 25 = .ok (.iload 4, 2) := by decide +kernel
theorem dX10_slip_27 : decode cX10_slip 27 = .ok (.invokestatic 208, 3) := by decide +kernel
theorem dX10_slip_30 : decode cX10_slip 30 = .ok (.ifCond .ne 6, 3) := by decide +kernel
theorem dX10_slip_33 : decode cX10_slip 33 = .ok (.bipush (-102), 2) := by decide +kernel
theorem dX10_slip_35 : decode cX10_slip 35 = .ok (.ireturn, 1) := by decide +kernel
theorem dX10_slip_36 : decode cX10_slip 36 = .ok (.aload_n 0, 1) := by decide +kernel
theorem dX10_slip_37 : decode cX10_slip 37 = .ok (.getfield 163, 3) := by decide +kernel
theorem dX10_slip_40 : decode cX10_slip 40 = .ok (.bipush 6, 2) := by decide +kernel
theorem dX10_slip_42 : decode cX10_slip 42 = .ok (.if_icmp .ne 6, 3) := by decide +kernel
theorem dX10_slip_45 : decode cX10_slip 45 = .ok (.bipush (-104), 2) := by decide +kernel
theorem dX10_slip_47 : decode cX10_slip 47 = .ok (.ireturn, 1) := by decide +kernel
theorem dX10_slip_48 : decode cX10_slip 48 = .ok (.aload_n 0, 1) := by decide +kernel
theorem dX10_slip_49 : decode cX10_slip 49 = .ok (.getfield 25, 3) := by decide +kernel
theorem dX10_slip_52 : decode cX10_slip 52 = .ok (.aload_n 0, 1) := by decide +kernel
theorem dX10_slip_53 : decode cX10_slip 53 = .ok (.getfield 163, 3) := by decide +kernel
theorem dX10_slip_56 : decode cX10_slip 56 = .ok (.iload_n 1, 1) := by decide +kernel
theorem dX10_slip_57 : decode cX10_slip 57 = .ok (.iastore, 1) := by decide +kernel
theorem dX10_slip_58 : decode cX10_slip 58 = .ok (.aload_n 0, 1) := by decide +kernel
theorem dX10_slip_59 : decode cX10_slip 59 = .ok (.getfield 28, 3) := by decide +kernel
theorem dX10_slip_62 : decode cX10_slip 62 = .ok (.aload_n 0, 1) := by decide +kernel
theorem dX10_slip_63 : decode cX10_slip 63 = .ok (.getfield 163, 3) := by decide +kernel
theorem dX10_slip_66 : decode cX10_slip 66 = .ok (.iload_n 2, 1) := by decide +kernel
theorem dX10_slip_67 : decode cX10_slip 67 = .ok (.iastore, 1) := by decide +kernel
theorem dX10_slip_68 : decode cX10_slip 68 = .ok (.aload_n 0, 1) := by decide +kernel
theorem dX10_slip_69 : decode cX10_slip 69 = .ok (.getfield 31, 3) := by decide +kernel
theorem dX10_slip_72 : decode cX10_slip 72 = .ok (.aload_n 0, 1) := by decide +kernel
theorem dX10_slip_73 : decode cX10_slip 73 = .ok (.getfield 163, 3) := by decide +kernel
theorem dX10_slip_76 : decode cX10_slip 76 = .ok (.iconst 4, 1) := by decide +kernel
theorem dX10_slip_77 : decode cX10_slip 77 = .ok (.iload_n 3, 1) := by decide +kernel
theorem dX10_slip_78 : decode cX10_slip 78 = .ok (.imul, 1) := by decide +kernel
theorem dX10_slip_79 : decode cX10_slip 79 = .ok (.iload 4, 2) := by decide +kernel
theorem dX10_slip_81 : decode cX10_slip 81 = .ok (.iadd, 1) := by decide +kernel
theorem dX10_slip_82 : decode cX10_slip 82 = .ok (.iastore, 1) := by decide +kernel
theorem dX10_slip_83 : decode cX10_slip 83 = .ok (.aload_n 0, 1) := by decide +kernel
theorem dX10_slip_84 : decode cX10_slip 84 = .ok (.dup, 1) := by decide +kernel
theorem dX10_slip_85 : decode cX10_slip 85 = .ok (.getfield 163, 3) := by decide +kernel
theorem dX10_slip_88 : decode cX10_slip 88 = .ok (.iconst 1, 1) := by decide +kernel
theorem dX10_slip_89 : decode cX10_slip 89 = .ok (.iadd, 1) := by decide +kernel
theorem dX10_slip_90 : decode cX10_slip 90 = .ok (.putfield 163, 3) := by decide +kernel
theorem dX10_slip_93 : decode cX10_slip 93 = .ok (.aload_n 0, 1) := by decide +kernel
theorem dX10_slip_94 : decode cX10_slip 94 = .ok (.getfield 163, 3) := by decide +kernel
theorem dX10_slip_97 : decode cX10_slip 97 = .ok (.ireturn, 1) := by decide +kernel
theorem dX10_tear_0 : decode cX10_tear 0 = .ok (.aload_n 0, 1) := by decide +kernel
theorem dX10_tear_1 : decode cX10_tear 1 = .ok (.getfield 163, 3) := by decide +kernel
theorem dX10_tear_4 : decode cX10_tear 4 = .ok (.istore_n 1, 1) := by decide +kernel
theorem dX10_tear_5 : decode cX10_tear 5 = .ok (.aload_n 0, 1) := by decide +kernel
theorem dX10_tear_6 : decode cX10_tear 6 = .ok (.iconst 0, 1) := by decide +kernel
theorem dX10_tear_7 : decode cX10_tear 7 = .ok (.putfield 163, 3) := by decide +kernel
theorem dX10_tear_10 : decode cX10_tear 10 = .ok (.iload_n 1, 1) := by decide +kernel
theorem dX10_tear_11 : decode cX10_tear 11 = .ok (.ireturn, 1) := by decide +kernel
theorem dX10_lay_0 : decode cX10_lay 0 = .ok (.iconst 0, 1) := by decide +kernel
theorem dX10_lay_1 : decode cX10_lay 1 = .ok (.istore_n 1, 1) := by decide +kernel
theorem dX10_lay_2 : decode cX10_lay 2 = .ok (.iload_n 1, 1) := by decide +kernel
theorem dX10_lay_3 : decode cX10_lay 3 = .ok (.bipush 20, 2) := by decide +kernel
theorem dX10_lay_5 : decode cX10_lay 5 = .ok (.if_icmp .ge 21, 3) := by decide +kernel
theorem dX10_lay_8 : decode cX10_lay 8 = .ok (.aload_n 0, 1) := by decide +kernel
theorem dX10_lay_9 : decode cX10_lay 9 = .ok (.getfield 62, 3) := by decide +kernel
theorem dX10_lay_12 : decode cX10_lay 12 = .ok (.iload_n 1, 1) := by decide +kernel
theorem dX10_lay_13 : decode cX10_lay 13 = .ok (.aload_n 0, 1) := by decide +kernel
theorem dX10_lay_14 : decode cX10_lay 14 = .ok (.getfield 13, 3) := by decide +kernel
theorem dX10_lay_17 : decode cX10_lay 17 = .ok (.iload_n 1, 1) := by decide +kernel
theorem dX10_lay_18 : decode cX10_lay 18 = .ok (.iaload, 1) := by decide +kernel
theorem dX10_lay_19 : decode cX10_lay 19 = .ok (.iastore, 1) := by decide +kernel
theorem dX10_lay_20 : decode cX10_lay 20 = .ok (.iinc 1 1, 3) := by decide +kernel
theorem dX10_lay_23 : decode cX10_lay 23 = .ok (.goto (-21), 3) := by decide +kernel
theorem dX10_lay_26 : decode cX10_lay 26 = .ok (.iconst 0, 1) := by decide +kernel
theorem dX10_lay_27 : decode cX10_lay 27 = .ok (.istore_n 1, 1) := by decide +kernel
theorem dX10_lay_28 : decode cX10_lay 28 = .ok (.iload_n 1, 1) := by decide +kernel
theorem dX10_lay_29 : decode cX10_lay 29 = .ok (.iconst 5, 1) := by decide +kernel
theorem dX10_lay_30 : decode cX10_lay 30 = .ok (.if_icmp .ge 21, 3) := by decide +kernel
theorem dX10_lay_33 : decode cX10_lay 33 = .ok (.aload_n 0, 1) := by decide +kernel
theorem dX10_lay_34 : decode cX10_lay 34 = .ok (.getfield 65, 3) := by decide +kernel
theorem dX10_lay_37 : decode cX10_lay 37 = .ok (.iload_n 1, 1) := by decide +kernel
theorem dX10_lay_38 : decode cX10_lay 38 = .ok (.aload_n 0, 1) := by decide +kernel
theorem dX10_lay_39 : decode cX10_lay 39 = .ok (.getfield 16, 3) := by decide +kernel
theorem dX10_lay_42 : decode cX10_lay 42 = .ok (.iload_n 1, 1) := by decide +kernel
theorem dX10_lay_43 : decode cX10_lay 43 = .ok (.iaload, 1) := by decide +kernel
theorem dX10_lay_44 : decode cX10_lay 44 = .ok (.iastore, 1) := by decide +kernel
theorem dX10_lay_45 : decode cX10_lay 45 = .ok (.iinc 1 1, 3) := by decide +kernel
theorem dX10_lay_48 : decode cX10_lay 48 = .ok (.goto (-20), 3) := by decide +kernel
theorem dX10_lay_51 : decode cX10_lay 51 = .ok (.return_, 1) := by decide +kernel
theorem dX10_layBack_0 : decode cX10_layBack 0 = .ok (.iconst 0, 1) := by decide +kernel
theorem dX10_layBack_1 : decode cX10_layBack 1 = .ok (.istore_n 1, 1) := by decide +kernel
theorem dX10_layBack_2 : decode cX10_layBack 2 = .ok (.iload_n 1, 1) := by decide +kernel
theorem dX10_layBack_3 : decode cX10_layBack 3 = .ok (.bipush 20, 2) := by decide +kernel
theorem dX10_layBack_5 : decode cX10_layBack 5 = .ok (.if_icmp .ge 21, 3) := by decide +kernel
theorem dX10_layBack_8 : decode cX10_layBack 8 = .ok (.aload_n 0, 1) := by decide +kernel
theorem dX10_layBack_9 : decode cX10_layBack 9 = .ok (.getfield 13, 3) := by decide +kernel
theorem dX10_layBack_12 : decode cX10_layBack 12 = .ok (.iload_n 1, 1) := by decide +kernel
theorem dX10_layBack_13 : decode cX10_layBack 13 = .ok (.aload_n 0, 1) := by decide +kernel
theorem dX10_layBack_14 : decode cX10_layBack 14 = .ok (.getfield 62, 3) := by decide +kernel
theorem dX10_layBack_17 : decode cX10_layBack 17 = .ok (.iload_n 1, 1) := by decide +kernel
theorem dX10_layBack_18 : decode cX10_layBack 18 = .ok (.iaload, 1) := by decide +kernel
theorem dX10_layBack_19 : decode cX10_layBack 19 = .ok (.iastore, 1) := by decide +kernel
theorem dX10_layBack_20 : decode cX10_layBack 20 = .ok (.iinc 1 1, 3) := by decide +kernel
theorem dX10_layBack_23 : decode cX10_layBack 23 = .ok (.goto (-21), 3) := by decide +kernel
theorem dX10_layBack_26 : decode cX10_layBack 26 = .ok (.iconst 0, 1) := by decide +kernel
theorem dX10_layBack_27 : decode cX10_layBack 27 = .ok (.istore_n 1, 1) := by decide +kernel
theorem dX10_layBack_28 : decode cX10_layBack 28 = .ok (.iload_n 1, 1) := by decide +kernel
theorem dX10_layBack_29 : decode cX10_layBack 29 = .ok (.iconst 5, 1) := by decide +kernel
theorem dX10_layBack_30 : decode cX10_layBack 30 = .ok (.if_icmp .ge 21, 3) := by decide +kernel
theorem dX10_layBack_33 : decode cX10_layBack 33 = .ok (.aload_n 0, 1) := by decide +kernel
theorem dX10_layBack_34 : decode cX10_layBack 34 = .ok (.getfield 16, 3) := by decide +kernel
theorem dX10_layBack_37 : decode cX10_layBack 37 = .ok (.iload_n 1, 1) := by decide +kernel
theorem dX10_layBack_38 : decode cX10_layBack 38 = .ok (.aload_n 0, 1) := by decide +kernel
theorem dX10_layBack_39 : decode cX10_layBack 39 = .ok (.getfield 65, 3) := by decide +kernel
theorem dX10_layBack_42 : decode cX10_layBack 42 = .ok (.iload_n 1, 1) := by decide +kernel
theorem dX10_layBack_43 : decode cX10_layBack 43 = .ok (.iaload, 1) := by decide +kernel
theorem dX10_layBack_44 : decode cX10_layBack 44 = .ok (.iastore, 1) := by decide +kernel
theorem dX10_layBack_45 : decode cX10_layBack 45 = .ok (.iinc 1 1, 3) := by decide +kernel
theorem dX10_layBack_48 : decode cX10_layBack 48 = .ok (.goto (-20), 3) := by decide +kernel
theorem dX10_layBack_51 : decode cX10_layBack 51 = .ok (.return_, 1) := by decide +kernel
theorem dX10_layTerm_0 : decode cX10_layTerm 0 = .ok (.aload_n 0, 1) := by decide +kernel
theorem dX10_layTerm_1 : decode cX10_layTerm 1 = .ok (.invokevirtual 224, 3) := by decide +kernel
theorem dX10_layTerm_4 : decode cX10_layTerm 4 = .ok (.iconst 1, 1) := by decide +kernel
theorem dX10_layTerm_5 : decode cX10_layTerm 5 = .ok (.istore_n 1, 1) := by decide +kernel
theorem dX10_layTerm_6 : decode cX10_layTerm 6 = .ok (.iload_n 1, 1) := by decide +kernel
theorem dX10_layTerm_7 : decode cX10_layTerm 7 = .ok (.bipush 6, 2) := by decide +kernel
theorem dX10_layTerm_9 : decode cX10_layTerm 9 = .ok (.if_icmp .gt 129, 3) := by decide +kernel
theorem dX10_layTerm_12 : decode cX10_layTerm 12 = .ok (.aload_n 0, 1) := by decide +kernel
theorem dX10_layTerm_13 : decode cX10_layTerm 13 = .ok (.getfield 68, 3) := by decide +kernel
theorem dX10_layTerm_16 : decode cX10_layTerm 16 = .ok (.iload_n 1, 1) := by decide +kernel
theorem dX10_layTerm_17 : decode cX10_layTerm 17 = .ok (.iconst 0, 1) := by decide +kernel
theorem dX10_layTerm_18 : decode cX10_layTerm 18 = .ok (.iastore, 1) := by decide +kernel
theorem dX10_layTerm_19 : decode cX10_layTerm 19 = .ok (.iconst 0, 1) := by decide +kernel
theorem dX10_layTerm_20 : decode cX10_layTerm 20 = .ok (.istore_n 2, 1) := by decide +kernel
theorem dX10_layTerm_21 : decode cX10_layTerm 21 = .ok (.iload_n 2, 1) := by decide +kernel
theorem dX10_layTerm_22 : decode cX10_layTerm 22 = .ok (.aload_n 0, 1) := by decide +kernel
theorem dX10_layTerm_23 : decode cX10_layTerm 23 = .ok (.getfield 160, 3) := by decide +kernel
theorem dX10_layTerm_26 : decode cX10_layTerm 26 = .ok (.if_icmp .ge 63, 3) := by decide +kernel
theorem dX10_layTerm_29 : decode cX10_layTerm 29 = .ok (.aload_n 0, 1) := by decide +kernel
theorem dX10_layTerm_30 : decode cX10_layTerm 30 = .ok (.getfield 22, 3) := by decide +kernel
theorem dX10_layTerm_33 : decode cX10_layTerm 33 = .ok (.iload_n 2, 1) := by decide +kernel
theorem dX10_layTerm_34 : decode cX10_layTerm 34 = .ok (.iaload, 1) := by decide +kernel
theorem dX10_layTerm_35 : decode cX10_layTerm 35 = .ok (.iload_n 1, 1) := by decide +kernel
theorem dX10_layTerm_36 : decode cX10_layTerm 36 = .ok (.if_icmp .lt 25, 3) := by decide +kernel
theorem dX10_layTerm_39 : decode cX10_layTerm 39 = .ok (.aload_n 0, 1) := by decide +kernel
theorem dX10_layTerm_40 : decode cX10_layTerm 40 = .ok (.aload_n 0, 1) := by decide +kernel
theorem dX10_layTerm_41 : decode cX10_layTerm 41 = .ok (.invokevirtual 202, 3) := by decide +kernel
theorem dX10_layTerm_44 : decode cX10_layTerm 44 = .ok (.aload_n 0, 1) := by decide +kernel
theorem dX10_layTerm_45 : decode cX10_layTerm 45 = .ok (.getfield 19, 3) := by decide +kernel
theorem dX10_layTerm_48 : decode cX10_layTerm 48 = .ok (.iload_n 2, 1) := by decide +kernel
theorem dX10_layTerm_49 : decode cX10_layTerm 49 = .ok (.iaload, 1) := by decide +kernel
theorem dX10_layTerm_50 : decode cX10_layTerm 50 = .ok (.invokevirtual 205, 3) := by decide +kernel
theorem dX10_layTerm_53 : decode cX10_layTerm 53 = .ok (.iconst (-1), 1) := by decide +kernel
theorem dX10_layTerm_54 : decode cX10_layTerm 54 = .ok (.if_icmp .eq 7, 3) := by decide +kernel
theorem dX10_layTerm_57 : decode cX10_layTerm 57 = .ok (.iconst 1, 1) := by decide +kernel
theorem dX10_layTerm_58 : decode cX10_layTerm 58 = .ok (.goto 4, 3) := by decide +kernel
theorem dX10_layTerm_61 : decode cX10_layTerm 61 = .ok (.iconst 0, 1) := by decide +kernel
theorem dX10_layTerm_62 : decode cX10_layTerm 62 = .ok (.istore_n 3, 1) := by decide +kernel
theorem dX10_layTerm_63 : decode cX10_layTerm 63 = .ok (.aload_n 0, 1) := by decide +kernel
theorem dX10_layTerm_64 : decode cX10_layTerm 64 = .ok (.getfield 68, 3) := by decide +kernel
theorem dX10_layTerm_67 : decode cX10_layTerm 67 = .ok (.iload_n 1, 1) := by decide +kernel
theorem dX10_layTerm_68 : decode cX10_layTerm 68 = .ok (.dup2, 1) := by decide +kernel
theorem dX10_layTerm_69 : decode cX10_layTerm 69 = .ok (.iaload, 1) := by decide +kernel
theorem dX10_layTerm_70 : decode cX10_layTerm 70 = .ok (.iload_n 3, 1) := by decide +kernel
theorem dX10_layTerm_71 : decode cX10_layTerm 71 = .ok (.ifCond .eq 9, 3) := by decide +kernel
theorem dX10_layTerm_74 : decode cX10_layTerm 74 = .ok (.iconst 1, 1) := by decide +kernel
theorem dX10_layTerm_75 : decode cX10_layTerm 75 = .ok (.iload_n 2, 1) := by decide +kernel
theorem dX10_layTerm_76 : decode cX10_layTerm 76 = .ok (.ishl, 1) := by decide +kernel
theorem dX10_layTerm_77 : decode cX10_layTerm 77 = .ok (.goto 4, 3) := by decide +kernel
theorem dX10_layTerm_80 : decode cX10_layTerm 80 = .ok (.iconst 0, 1) := by decide +kernel
theorem dX10_layTerm_81 : decode cX10_layTerm 81 = .ok (.ior, 1) := by decide +kernel
theorem dX10_layTerm_82 : decode cX10_layTerm 82 = .ok (.iastore, 1) := by decide +kernel
theorem dX10_layTerm_83 : decode cX10_layTerm 83 = .ok (.iinc 2 1, 3) := by decide +kernel
theorem dX10_layTerm_86 : decode cX10_layTerm 86 = .ok (.goto (-65), 3) := by decide +kernel
theorem dX10_layTerm_89 : decode cX10_layTerm 89 = .ok (.iconst 0, 1) := by decide +kernel
theorem dX10_layTerm_90 : decode cX10_layTerm 90 = .ok (.istore_n 2, 1) := by decide +kernel
theorem dX10_layTerm_91 : decode cX10_layTerm 91 = .ok (.iload_n 2, 1) := by decide +kernel
theorem dX10_layTerm_92 : decode cX10_layTerm 92 = .ok (.aload_n 0, 1) := by decide +kernel
theorem dX10_layTerm_93 : decode cX10_layTerm 93 = .ok (.getfield 163, 3) := by decide +kernel
theorem dX10_layTerm_96 : decode cX10_layTerm 96 = .ok (.if_icmp .ge 36, 3) := by decide +kernel
theorem dX10_layTerm_99 : decode cX10_layTerm 99 = .ok (.aload_n 0, 1) := by decide +kernel
theorem dX10_layTerm_100 : decode cX10_layTerm 100 = .ok (.getfield 25, 3) := by decide +kernel
theorem dX10_layTerm_103 : decode cX10_layTerm 103 = .ok (.iload_n 2, 1) := by decide +kernel
theorem dX10_layTerm_104 : decode cX10_layTerm 104 = .ok (.iaload, 1) := by decide +kernel
theorem dX10_layTerm_105 : decode cX10_layTerm 105 = .ok (.iload_n 1, 1) := by decide +kernel
theorem dX10_layTerm_106 : decode cX10_layTerm 106 = .ok (.if_icmp .ne 20, 3) := by decide +kernel
theorem dX10_layTerm_109 : decode cX10_layTerm 109 = .ok (.aload_n 0, 1) := by decide +kernel
theorem dX10_layTerm_110 : decode cX10_layTerm 110 = .ok (.aload_n 0, 1) := by decide +kernel
theorem dX10_layTerm_111 : decode cX10_layTerm 111 = .ok (.getfield 28, 3) := by decide +kernel
theorem dX10_layTerm_114 : decode cX10_layTerm 114 = .ok (.iload_n 2, 1) := by decide +kernel
theorem dX10_layTerm_115 : decode cX10_layTerm 115 = .ok (.iaload, 1) := by decide +kernel
theorem dX10_layTerm_116 : decode cX10_layTerm 116 = .ok (.aload_n 0, 1) := by decide +kernel
theorem dX10_layTerm_117 : decode cX10_layTerm 117 = .ok (.getfield 31, 3) := by decide +kernel
theorem dX10_layTerm_120 : decode cX10_layTerm 120 = .ok (.iload_n 2, 1) := by decide +kernel
theorem dX10_layTerm_121 : decode cX10_layTerm 121 = .ok (.iaload, 1) := by decide +kernel
theorem dX10_layTerm_122 : decode cX10_layTerm 122 = .ok (.invokevirtual 221, 3) := by decide +kernel
theorem dX10_layTerm_125 : decode cX10_layTerm 125 = .ok (.pop, 1) := by decide +kernel
theorem dX10_layTerm_126 : decode cX10_layTerm 126 = .ok (.iinc 2 1, 3) := by decide +kernel
theorem dX10_layTerm_129 : decode cX10_layTerm 129 = .ok (.goto (-38), 3) := by decide +kernel
theorem dX10_layTerm_132 : decode cX10_layTerm 132 = .ok (.iinc 1 1, 3) := by decide +kernel
theorem dX10_layTerm_135 : decode cX10_layTerm 135 = .ok (.goto (-129), 3) := by decide +kernel
theorem dX10_layTerm_138 : decode cX10_layTerm 138 = .ok (.aload_n 0, 1) := by decide +kernel
theorem dX10_layTerm_139 : decode cX10_layTerm 139 = .ok (.invokevirtual 227, 3) := by decide +kernel
theorem dX10_layTerm_142 : decode cX10_layTerm 142 = .ok (.return_, 1) := by decide +kernel
theorem dX10_layMost_0 : decode cX10_layMost 0 = .ok (.iconst 0, 1) := by decide +kernel
theorem dX10_layMost_1 : decode cX10_layMost 1 = .ok (.istore_n 1, 1) := by decide +kernel
theorem dX10_layMost_2 : decode cX10_layMost 2 = .ok (.iload_n 1, 1) := by decide +kernel
theorem dX10_layMost_3 : decode cX10_layMost 3 = .ok (.bipush 16, 2) := by decide +kernel
theorem dX10_layMost_5 : decode cX10_layMost 5 = .ok (.if_icmp .ge 19, 3) := by decide +kernel
theorem dX10_layMost_8 : decode cX10_layMost 8 = .ok (.aload_n 0, 1) := by decide +kernel
theorem dX10_layMost_9 : decode cX10_layMost 9 = .ok (.getfield 71, 3) := by decide +kernel
theorem dX10_layMost_12 : decode cX10_layMost 12 = .ok (.bipush 112, 2) := by decide +kernel
theorem dX10_layMost_14 : decode cX10_layMost 14 = .ok (.iload_n 1, 1) := by decide +kernel
theorem dX10_layMost_15 : decode cX10_layMost 15 = .ok (.iadd, 1) := by decide +kernel
theorem dX10_layMost_16 : decode cX10_layMost 16 = .ok (.iconst 0, 1) := by decide +kernel
theorem dX10_layMost_17 : decode cX10_layMost 17 = .ok (.iastore, 1) := by decide +kernel
theorem dX10_layMost_18 : decode cX10_layMost 18 = .ok (.iinc 1 1, 3) := by decide +kernel
theorem dX10_layMost_21 : decode cX10_layMost 21 = .ok (.goto (-19), 3) := by decide +kernel
