theorem dX9_keep_44 : decode cX9_keep 44 = .ok (.iload_n 2, 1) := by decide +kernel
theorem dX9_keep_45 : decode cX9_keep 45 = .ok (.ireturn, 1) := by decide +kernel
theorem dX9_peace_0 : decode cX9_peace 0 = .ok (.iload_n 1, 1) := by decide +kernel
theorem dX9_peace_1 : decode cX9_peace 1 = .ok (.iconst 0, 1) := by decide +kernel
theorem dX9_peace_2 : decode cX9_peace 2 = .ok (.iconst 1, 1) := by decide +kernel
theorem dX9_peace_3 : decode cX9_peace 3 = .ok (.invokestatic 62, 3) := by decide +kernel
theorem dX9_peace_6 : decode cX9_peace 6 = .ok (.ifCond .ne 6, 3) := by decide +kernel
theorem dX9_peace_9 : decode cX9_peace 9 = .ok (.bipush (-102), 2) := by decide +kernel
theorem dX9_peace_11 : decode cX9_peace 11 = .ok (.ireturn, 1) := by decide +kernel
theorem dX9_peace_12 : decode cX9_peace 12 = .ok (.aload_n 0, 1) := by decide +kernel
theorem dX9_peace_13 : decode cX9_peace 13 = .ok (.invokevirtual 137, 3) := by decide +kernel
theorem dX9_peace_16 : decode cX9_peace 16 = .ok (.ifCond .ne 6, 3) := by decide +kernel
theorem dX9_peace_19 : decode cX9_peace 19 = .ok (.bipush (-103), 2) := by decide +kernel
theorem dX9_peace_21 : decode cX9_peace 21 = .ok (.ireturn, 1) := by decide +kernel
theorem dX9_peace_22 : decode cX9_peace 22 = .ok (.aload_n 0, 1) := by decide +kernel
theorem dX9_peace_23 : decode cX9_peace 23 = .ok (.getfield 26, 3) := by decide +kernel
theorem dX9_peace_26 : decode cX9_peace 26 = .ok (.getfield 93, 3) := by decide +kernel
theorem dX9_peace_29 : decode cX9_peace 29 = .ok (.invokevirtual 190, 3) := by decide +kernel
theorem dX9_peace_32 : decode cX9_peace 32 = .ok (.istore_n 2, 1) := by decide +kernel
theorem dX9_peace_33 : decode cX9_peace 33 = .ok (.iload_n 1, 1) := by decide +kernel
theorem dX9_peace_34 : decode cX9_peace 34 = .ok (.ifCond .ne 10, 3) := by decide +kernel
theorem dX9_peace_37 : decode cX9_peace 37 = .ok (.iload_n 2, 1) := by decide +kernel
theorem dX9_peace_38 : decode cX9_peace 38 = .ok (.invokestatic 185, 3) := by decide +kernel
theorem dX9_peace_41 : decode cX9_peace 41 = .ok (.goto 4, 3) := by decide +kernel
theorem dX9_peace_44 : decode cX9_peace 44 = .ok (.iload_n 2, 1) := by decide +kernel
theorem dX9_peace_45 : decode cX9_peace 45 = .ok (.ireturn, 1) := by decide +kernel
theorem dX9_worlds_0 : decode cX9_worlds 0 = .ok (.iload_n 1, 1) := by decide +kernel
theorem dX9_worlds_1 : decode cX9_worlds 1 = .ok (.iconst 0, 1) := by decide +kernel
theorem dX9_worlds_2 : decode cX9_worlds 2 = .ok (.iconst 5, 1) := by decide +kernel
theorem dX9_worlds_3 : decode cX9_worlds 3 = .ok (.invokestatic 62, 3) := by decide +kernel
theorem dX9_worlds_6 : decode cX9_worlds 6 = .ok (.ifCond .ne 6, 3) := by decide +kernel
theorem dX9_worlds_9 : decode cX9_worlds 9 = .ok (.bipush (-102), 2) := by decide +kernel
theorem dX9_worlds_11 : decode cX9_worlds 11 = .ok (.ireturn, 1) := by decide +kernel
theorem dX9_worlds_12 : decode cX9_worlds 12 = .ok (.aload_n 0, 1) := by decide +kernel
theorem dX9_worlds_13 : decode cX9_worlds 13 = .ok (.invokevirtual 137, 3) := by decide +kernel
theorem dX9_worlds_16 : decode cX9_worlds 16 = .ok (.ifCond .ne 6, 3) := by decide +kernel
theorem dX9_worlds_19 : decode cX9_worlds 19 = .ok (.bipush (-103), 2) := by decide +kernel
theorem dX9_worlds_21 : decode cX9_worlds 21 = .ok (.ireturn, 1) := by decide +kernel
theorem dX9_worlds_22 : decode cX9_worlds 22 = .ok (.aload_n 0, 1) := by decide +kernel
theorem dX9_worlds_23 : decode cX9_worlds 23 = .ok (.getfield 50, 3) := by decide +kernel
theorem dX9_worlds_26 : decode cX9_worlds 26 = .ok (.aload_n 0, 1) := by decide +kernel
theorem dX9_worlds_27 : decode cX9_worlds 27 = .ok (.getfield 26, 3) := by decide +kernel
theorem dX9_worlds_30 : decode cX9_worlds 30 = .ok (.getfield 93, 3) := by decide +kernel
theorem dX9_worlds_33 : decode cX9_worlds 33 = .ok (.iload_n 1, 1) := by decide +kernel
theorem dX9_worlds_34 : decode cX9_worlds 34 = .ok (.iconst (-1), 1) := by decide +kernel
theorem dX9_worlds_35 : decode cX9_worlds 35 = .ok (.iconst (-1), 1) := by decide +kernel
theorem dX9_worlds_36 : decode cX9_worlds 36 = .ok (.invokevirtual 193, 3) := by decide +kernel
theorem dX9_worlds_39 : decode cX9_worlds 39 = .ok (.ireturn, 1) := by decide +kernel
theorem dX9_odds_0 : decode cX9_odds 0 = .ok (.iload_n 1, 1) := by decide +kernel
theorem dX9_odds_1 : decode cX9_odds 1 = .ok (.invokestatic 131, 3) := by decide +kernel
theorem dX9_odds_4 : decode cX9_odds 4 = .ok (.ifCond .eq 10, 3) := by decide +kernel
theorem dX9_odds_7 : decode cX9_odds 7 = .ok (.iload_n 2, 1) := by decide +kernel
theorem dX9_odds_8 : decode cX9_odds 8 = .ok (.invokestatic 147, 3) := by decide +kernel
theorem dX9_odds_11 : decode cX9_odds 11 = .ok (.ifCond .ne 6, 3) := by decide +kernel
theorem dX9_odds_14 : decode cX9_odds 14 = .ok (.bipush (-102), 2) := by decide +kernel
theorem dX9_odds_16 : decode cX9_odds 16 = .ok (.ireturn, 1) := by decide +kernel
theorem dX9_odds_17 : decode cX9_odds 17 = .ok (.iload_n 3, 1) := by decide +kernel
theorem dX9_odds_18 : decode cX9_odds 18 = .ok (.iconst 0, 1) := by decide +kernel
theorem dX9_odds_19 : decode cX9_odds 19 = .ok (.iconst 5, 1) := by decide +kernel
theorem dX9_odds_20 : decode cX9_odds 20 = .ok (.invokestatic 62, 3) := by decide +kernel
theorem dX9_odds_23 : decode cX9_odds 23 = .ok (.ifCond .eq 13, 3) := by decide +kernel
theorem dX9_odds_26 : decode cX9_odds 26 = .ok (.iload 4, 2) := by decide +kernel
theorem dX9_odds_28 : decode cX9_odds 28 = .ok (.iconst 0, 1) := by decide +kernel
theorem dX9_odds_29 : decode cX9_odds 29 = .ok (.iconst 1, 1) := by decide +kernel
theorem dX9_odds_30 : decode cX9_odds 30 = .ok (.invokestatic 62, 3) := by decide +kernel
theorem dX9_odds_33 : decode cX9_odds 33 = .ok (.ifCond .ne 6, 3) := by decide +kernel
theorem dX9_odds_36 : decode cX9_odds 36 = .ok (.bipush (-102), 2) := by decide +kernel
theorem dX9_odds_38 : decode cX9_odds 38 = .ok (.ireturn, 1) := by decide +kernel
theorem dX9_odds_39 : decode cX9_odds 39 = .ok (.aload_n 0, 1) := by decide +kernel
theorem dX9_odds_40 : decode cX9_odds 40 = .ok (.invokevirtual 137, 3) := by decide +kernel
theorem dX9_odds_43 : decode cX9_odds 43 = .ok (.ifCond .ne 6, 3) := by decide +kernel
theorem dX9_odds_46 : decode cX9_odds 46 = .ok (.bipush (-103), 2) := by decide +kernel
theorem dX9_odds_48 : decode cX9_odds 48 = .ok (.ireturn, 1) := by decide +kernel
theorem dX9_odds_49 : decode cX9_odds 49 = .ok (.aload_n 0, 1) := by decide +kernel
theorem dX9_odds_50 : decode cX9_odds 50 = .ok (.getfield 50, 3) := by decide +kernel
theorem dX9_odds_53 : decode cX9_odds 53 = .ok (.aload_n 0, 1) := by decide +kernel
theorem dX9_odds_54 : decode cX9_odds 54 = .ok (.getfield 26, 3) := by decide +kernel
theorem dX9_odds_57 : decode cX9_odds 57 = .ok (.getfield 93, 3) := by decide +kernel
theorem dX9_odds_60 : decode cX9_odds 60 = .ok (.iload_n 3, 1) := by decide +kernel
theorem dX9_odds_61 : decode cX9_odds 61 = .ok (.iload_n 1, 1) := by decide +kernel
theorem dX9_odds_62 : decode cX9_odds 62 = .ok (.iload_n 2, 1) := by decide +kernel
theorem dX9_odds_63 : decode cX9_odds 63 = .ok (.invokevirtual 193, 3) := by decide +kernel
theorem dX9_odds_66 : decode cX9_odds 66 = .ok (.istore 5, 2) := by decide +kernel
theorem dX9_odds_68 : decode cX9_odds 68 = .ok (.aload_n 0, 1) := by decide +kernel
theorem dX9_odds_69 : decode cX9_odds 69 = .ok (.getfield 50, 3) := by decide +kernel
theorem dX9_odds_72 : decode cX9_odds 72 = .ok (.aload_n 0, 1) := by decide +kernel
theorem dX9_odds_73 : decode cX9_odds 73 = .ok (.getfield 26, 3) := by decide +kernel
theorem dX9_odds_76 : decode cX9_odds 76 = .ok (.getfield 93, 3) := by decide +kernel
theorem dX9_odds_79 : decode cX9_odds 79 = .ok (.iload_n 3, 1) := by decide +kernel
theorem dX9_odds_80 : decode cX9_odds 80 = .ok (.iconst (-1), 1) := by decide +kernel
theorem dX9_odds_81 : decode cX9_odds 81 = .ok (.iconst (-1), 1) := by decide +kernel
theorem dX9_odds_82 : decode cX9_odds 82 = .ok (.invokevirtual 193, 3) := by decide +kernel
theorem dX9_odds_85 : decode cX9_odds 85 = .ok (.istore 6, 2) := by decide +kernel
theorem dX9_odds_87 : decode cX9_odds 87 = .ok (.iload 5, 2) := by decide +kernel
theorem dX9_odds_89 : decode cX9_odds 89 = .ok (.iload 6, 2) := by decide +kernel
theorem dX9_odds_91 : decode cX9_odds 91 = .ok (.invokestatic 197, 3) := by decide +kernel
theorem dX9_odds_94 : decode cX9_odds 94 = .ok (.istore 7, 2) := by decide +kernel
theorem dX9_odds_96 : decode cX9_odds 96 = .ok (.iload 7, 2) := by decide +kernel
theorem dX9_odds_98 : decode cX9_odds 98 = .ok (.iconst 1, 1) := by decide +kernel
theorem dX9_odds_99 : decode cX9_odds 99 = .ok (.if_icmp .ge 14, 3) := by decide +kernel
theorem dX9_odds_102 : decode cX9_odds 102 = .ok (.iload 4, 2) := by decide +kernel
theorem dX9_odds_104 : decode cX9_odds 104 = .ok (.ifCond .ne 7, 3) := by decide +kernel
theorem dX9_odds_107 : decode cX9_odds 107 = .ok (.iconst 0, 1) := by decide +kernel
theorem dX9_odds_108 : decode cX9_odds 108 = .ok (.goto 4, 3) := by decide +kernel
theorem dX9_odds_111 : decode cX9_odds 111 = .ok (.iconst 1, 1) := by decide +kernel
theorem dX9_odds_112 : decode cX9_odds 112 = .ok (.ireturn, 1) := by decide +kernel
theorem dX9_odds_113 : decode cX9_odds 113 = .ok (.iload 4, 2) := by decide +kernel
theorem dX9_odds_115 : decode cX9_odds 115 = .ok (.ifCond .ne 11, 3) := by decide +kernel
theorem dX9_odds_118 : decode cX9_odds 118 = .ok (.iload 5, 2) := by decide +kernel
theorem dX9_odds_120 : decode cX9_odds 120 = .ok (.iload 7, 2) := by decide +kernel
theorem dX9_odds_122 : decode cX9_odds 122 = .ok (.idiv, 1) := by decide +kernel
theorem dX9_odds_123 : decode cX9_odds 123 = .ok (.goto 8, 3) := by decide +kernel
theorem dX9_odds_126 : decode cX9_odds 126 = .ok (.iload 6, 2) := by decide +kernel
theorem dX9_odds_128 : decode cX9_odds 128 = .ok (.iload 7, 2) := by decide +kernel
theorem dX9_odds_130 : decode cX9_odds 130 = .ok (.idiv, 1) := by decide +kernel
theorem dX9_odds_131 : decode cX9_odds 131 = .ok (.ireturn, 1) := by decide +kernel
theorem dX9_see_0 : decode cX9_see 0 = .ok (.aload_n 0, 1) := by decide +kernel
theorem dX9_see_1 : decode cX9_see 1 = .ok (.iload_n 1, 1) := by decide +kernel
theorem dX9_see_2 : decode cX9_see 2 = .ok (.invokevirtual 95, 3) := by decide +kernel
theorem dX9_see_5 : decode cX9_see 5 = .ok (.ifCond .ne 6, 3) := by decide +kernel
theorem dX9_see_8 : decode cX9_see 8 = .ok (.bipush (-101), 2) := by decide +kernel
theorem dX9_see_10 : decode cX9_see 10 = .ok (.ireturn, 1) := by decide +kernel
theorem dX9_see_11 : decode cX9_see 11 = .ok (.iload_n 2, 1) := by decide +kernel
theorem dX9_see_12 : decode cX9_see 12 = .ok (.iconst 0, 1) := by decide +kernel
theorem dX9_see_13 : decode cX9_see 13 = .ok (.iconst 3, 1) := by decide +kernel
theorem dX9_see_14 : decode cX9_see 14 = .ok (.invokestatic 62, 3) := by decide +kernel
theorem dX9_see_17 : decode cX9_see 17 = .ok (.ifCond .ne 6, 3) := by decide +kernel
theorem dX9_see_20 : decode cX9_see 20 = .ok (.bipush (-102), 2) := by decide +kernel
theorem dX9_see_22 : decode cX9_see 22 = .ok (.ireturn, 1) := by decide +kernel
theorem dX9_see_23 : decode cX9_see 23 = .ok (.aload_n 0, 1) := by decide +kernel
theorem dX9_see_24 : decode cX9_see 24 = .ok (.getfield 26, 3) := by decide +kernel
theorem dX9_see_27 : decode cX9_see 27 = .ok (.getfield 113, 3) := by decide +kernel
theorem dX9_see_30 : decode cX9_see 30 = .ok (.getfield 200, 3) := by decide +kernel
theorem dX9_see_33 : decode cX9_see 33 = .ok (.bipush 6, 2) := by decide +kernel
theorem dX9_see_35 : decode cX9_see 35 = .ok (.if_icmp .lt 6, 3) := by decide +kernel
theorem dX9_see_38 : decode cX9_see 38 = .ok (.bipush (-104), 2) := by decide +kernel
theorem dX9_see_40 : decode cX9_see 40 = .ok (.ireturn, 1) := by decide +kernel
theorem dX9_see_41 : decode cX9_see 41 = .ok (.aload_n 0, 1) := by decide +kernel
theorem dX9_see_42 : decode cX9_see 42 = .ok (.getfield 26, 3) := by decide +kernel
theorem dX9_see_45 : decode cX9_see 45 = .ok (.getfield 113, 3) := by decide +kernel
theorem dX9_see_48 : decode cX9_see 48 = .ok (.iload_n 1, 1) := by decide +kernel
theorem dX9_see_49 : decode cX9_see 49 = .ok (.iload_n 2, 1) := by decide +kernel
theorem dX9_see_50 : decode cX9_see 50 = .ok (.iload_n 3, 1) := by decide +kernel
theorem dX9_see_51 : decode cX9_see 51 = .ok (.invokevirtual 201, 3) := by decide +kernel
theorem dX9_see_54 : decode cX9_see 54 = .ok (.aload_n 0, 1) := by decide +kernel
theorem dX9_see_55 : decode cX9_see 55 = .ok (.getfield 26, 3) := by decide +kernel
theorem dX9_see_58 : decode cX9_see 58 = .ok (.getfield 113, 3) := by decide +kernel
theorem dX9_see_61 : decode cX9_see 61 = .ok (.getfield 200, 3) := by decide +kernel
theorem dX9_see_64 : decode cX9_see 64 = .ok (.ireturn, 1) := by decide +kernel
theorem dX9_forget_0 : decode cX9_forget 0 = .ok (.aload_n 0, 1) := by decide +kernel
theorem dX9_forget_1 : decode cX9_forget 1 = .ok (.getfield 26, 3) := by decide +kernel
theorem dX9_forget_4 : decode cX9_forget 4 = .ok (.getfield 113, 3) := by decide +kernel
theorem dX9_forget_7 : decode cX9_forget 7 = .ok (.getfield 200, 3) := by decide +kernel
theorem dX9_forget_10 : decode cX9_forget 10 = .ok (.istore_n 1, 1) := by decide +kernel
theorem dX9_forget_11 : decode cX9_forget 11 = .ok (.aload_n 0, 1) := by decide +kernel
theorem dX9_forget_12 : decode cX9_forget 12 = .ok (.getfield 26, 3) := by decide +kernel
theorem dX9_forget_15 : decode cX9_forget 15 = .ok (.getfield 113, 3) := by decide +kernel
theorem dX9_forget_18 : decode cX9_forget 18 = .ok (.iconst 0, 1) := by decide +kernel
theorem dX9_forget_19 : decode cX9_forget 19 = .ok (.putfield 200, 3) := by decide +kernel
theorem dX9_forget_22 : decode cX9_forget 22 = .ok (.iload_n 1, 1) := by decide +kernel
theorem dX9_forget_23 : decode cX9_forget 23 = .ok (.ireturn, 1) := by decide +kernel
theorem dX9_drawn_0 : decode cX9_drawn 0 = .ok (.iload_n 1, 1) := by decide +kernel
theorem dX9_drawn_1 : decode cX9_drawn 1 = .ok (.iconst 1, 1) := by decide +kernel
theorem dX9_drawn_2 : decode cX9_drawn 2 = .ok (.bipush 60, 2) := by decide +kernel
theorem dX9_drawn_4 : decode cX9_drawn 4 = .ok (.invokestatic 62, 3) := by decide +kernel
theorem dX9_drawn_7 : decode cX9_drawn 7 = .ok (.ifCond .eq 16, 3) := by decide +kernel
theorem dX9_drawn_10 : decode cX9_drawn 10 = .ok (.iload_n 2, 1) := by decide +kernel
theorem dX9_drawn_11 : decode cX9_drawn 11 = .ok (.ifCond .lt 12, 3) := by decide +kernel
theorem dX9_drawn_14 : decode cX9_drawn 14 = .ok (.iload_n 3, 1) := by decide +kernel
theorem dX9_drawn_15 : decode cX9_drawn 15 = .ok (.iconst 0, 1) := by decide +kernel
theorem dX9_drawn_16 : decode cX9_drawn 16 = .ok (.iconst 2, 1) := by decide +kernel
theorem dX9_drawn_17 : decode cX9_drawn 17 = .ok (.invokestatic 62, 3) := by decide +kernel
theorem dX9_drawn_20 : decode cX9_drawn 20 = .ok (.ifCond .ne 6, 3) := by decide +kernel
theorem dX9_drawn_23 : decode cX9_drawn 23 = .ok (.bipush (-102), 2) := by decide +kernel
theorem dX9_drawn_25 : decode cX9_drawn 25 = .ok (.ireturn, 1) := by decide +kernel
theorem dX9_drawn_26 : decode cX9_drawn 26 = .ok (.aload_n 0, 1) := by decide +kernel
theorem dX9_drawn_27 : decode cX9_drawn 27 = .ok (.invokevirtual 137, 3) := by decide +kernel
theorem dX9_drawn_30 : decode cX9_drawn 30 = .ok (.ifCond .ne 6, 3) := by decide +kernel
theorem dX9_drawn_33 : decode cX9_drawn 33 = .ok (.bipush (-103), 2) := by decide +kernel
theorem dX9_drawn_35 : decode cX9_drawn 35 = .ok (.ireturn, 1) := by decide +kernel
theorem dX9_drawn_36 : decode cX9_drawn 36 = .ok (.aload_n 0, 1) := by decide +kernel
theorem dX9_drawn_37 : decode cX9_drawn 37 = .ok (.getfield 36, 3) := by decide +kernel
theorem dX9_drawn_40 : decode cX9_drawn 40 = .ok (.aload_n 0, 1) := by decide +kernel
theorem dX9_drawn_41 : decode cX9_drawn 41 = .ok (.getfield 26, 3) := by decide +kernel
theorem dX9_drawn_44 : decode cX9_drawn 44 = .ok (.getfield 93, 3) := by decide +kernel
theorem dX9_drawn_47 : decode cX9_drawn 47 = .ok (.invokevirtual 170, 3) := by decide +kernel
theorem dX9_drawn_50 : decode cX9_drawn 50 = .ok (.iconst 0, 1) := by decide +kernel
theorem dX9_drawn_51 : decode cX9_drawn 51 = .ok (.istore 4, 2) := by decide +kernel
theorem dX9_drawn_53 : decode cX9_drawn 53 = .ok (.iload_n 2, 1) := by decide +kernel
theorem dX9_drawn_54 : decode cX9_drawn 54 = .ok (.istore 5, 2) := by decide +kernel
theorem dX9_drawn_56 : decode cX9_drawn 56 = .ok (.iconst 0, 1) := by decide +kernel
theorem dX9_drawn_57 : decode cX9_drawn 57 = .ok (.istore 6, 2) := by decide +kernel
theorem dX9_drawn_59 : decode cX9_drawn 59 = .ok (.iload 6, 2) := by decide +kernel
theorem dX9_drawn_61 : decode cX9_drawn 61 = .ok (.iload_n 1, 1) := by decide +kernel
theorem dX9_drawn_62 : decode cX9_drawn 62 = .ok (.if_icmp .ge 87, 3) := by decide +kernel
theorem dX9_drawn_65 : decode cX9_drawn 65 = .ok (.iload 5, 2) := by decide +kernel
theorem dX9_drawn_67 : decode cX9_drawn 67 = .ok (.invokestatic 204, 3) := by decide +kernel
theorem dX9_drawn_70 : decode cX9_drawn 70 = .ok (.istore 5, 2) := by decide +kernel
theorem dX9_drawn_72 : decode cX9_drawn 72 = .ok (.aload_n 0, 1) := by decide +kernel
theorem dX9_drawn_73 : decode cX9_drawn 73 = .ok (.getfield 36, 3) := by decide +kernel
theorem dX9_drawn_76 : decode cX9_drawn 76 = .ok (.getfield 94, 3) := by decide +kernel
theorem dX9_drawn_79 : decode cX9_drawn 79 = .ok (.iload 5, 2) := by decide +kernel
theorem dX9_drawn_81 : decode cX9_drawn 81 = .ok (.invokestatic 207, 3) := by decide +kernel
theorem dX9_drawn_84 : decode cX9_drawn 84 = .ok (.istore 7, 2) := by decide +kernel
theorem dX9_drawn_86 : decode cX9_drawn 86 = .ok (.iload 5, 2) := by decide +kernel
theorem dX9_drawn_88 : decode cX9_drawn 88 = .ok (.invokestatic 204, 3) := by decide +kernel
theorem dX9_drawn_91 : decode cX9_drawn 91 = .ok (.istore 5, 2) := by decide +kernel
theorem dX9_drawn_93 : decode cX9_drawn 93 = .ok (.bipush 6, 2) := by decide +kernel
theorem dX9_drawn_95 : decode cX9_drawn 95 = .ok (.iload 5, 2) := by decide +kernel
theorem dX9_drawn_97 : decode cX9_drawn 97 = .ok (.invokestatic 207, 3) := by decide +kernel
theorem dX9_drawn_100 : decode cX9_drawn 100 = .ok (.istore 8, 2) := by decide +kernel
theorem dX9_drawn_102 : decode cX9_drawn 102 = .ok (.iload 5, 2) := by decide +kernel
theorem dX9_drawn_104 : decode cX9_drawn 104 = .ok (.invokestatic 204, 3) := by decide +kernel
theorem dX9_drawn_107 : decode cX9_drawn 107 = .ok (.istore 5, 2) := by decide +kernel
theorem dX9_drawn_109 : decode cX9_drawn 109 = .ok (.iconst 4, 1) := by decide +kernel
theorem dX9_drawn_110 : decode cX9_drawn 110 = .ok (.iload 5, 2) := by decide +kernel
theorem dX9_drawn_112 : decode cX9_drawn 112 = .ok (.invokestatic 207, 3) := by decide +kernel
theorem dX9_drawn_115 : decode cX9_drawn 115 = .ok (.istore 9, 2) := by decide +kernel
theorem dX9_drawn_117 : decode cX9_drawn 117 = .ok (.aload_n 0, 1) := by decide +kernel
theorem dX9_drawn_118 : decode cX9_drawn 118 = .ok (.getfield 36, 3) := by decide +kernel
theorem dX9_drawn_121 : decode cX9_drawn 121 = .ok (.getfield 99, 3) := by decide +kernel
theorem dX9_drawn_124 : decode cX9_drawn 124 = .ok (.iload 7, 2) := by decide +kernel
theorem dX9_drawn_126 : decode cX9_drawn 126 = .ok (.aaload, 1) := by decide +kernel
theorem dX9_drawn_127 : decode cX9_drawn 127 = .ok (.iload 8, 2) := by decide +kernel
theorem dX9_drawn_129 : decode cX9_drawn 129 = .ok (.iconst 4, 1) := by decide +kernel
theorem dX9_drawn_130 : decode cX9_drawn 130 = .ok (.imul, 1) := by decide +kernel
theorem dX9_drawn_131 : decode cX9_drawn 131 = .ok (.iload 9, 2) := by decide +kernel
theorem dX9_drawn_133 : decode cX9_drawn 133 = .ok (.iadd, 1) := by decide +kernel
theorem dX9_drawn_134 : decode cX9_drawn 134 = .ok (.invokevirtual 156, 3) := by decide +kernel
theorem dX9_drawn_137 : decode cX9_drawn 137 = .ok (.ifCond .eq 6, 3) := by decide +kernel
theorem dX9_drawn_140 : decode cX9_drawn 140 = .ok (.iinc 4 1, 3) := by decide +kernel
theorem dX9_drawn_143 : decode cX9_drawn 143 = .ok (.iinc 6 1, 3) := by decide +kernel
theorem dX9_drawn_146 : decode cX9_drawn 146 = .ok (.goto (-87), 3) := by decide +kernel
theorem dX9_drawn_149 : decode cX9_drawn 149 = .ok (.iload_n 3, 1) := by decide +kernel
theorem dX9_drawn_150 : decode cX9_drawn 150 = .ok (.ifCond .ne 6, 3) := by decide +kernel
theorem dX9_drawn_153 : decode cX9_drawn 153 = .ok (.iload 4, 2) := by decide +kernel
theorem dX9_drawn_155 : decode cX9_drawn 155 = .ok (.ireturn, 1) := by decide +kernel
theorem dX9_drawn_156 : decode cX9_drawn 156 = .ok (.iload_n 3, 1) := by decide +kernel
theorem dX9_drawn_157 : decode cX9_drawn 157 = .ok (.iconst 1, 1) := by decide +kernel
theorem dX9_drawn_158 : decode cX9_drawn 158 = .ok (.if_icmp .ne 20, 3) := by decide +kernel
theorem dX9_drawn_161 : decode cX9_drawn 161 = .ok (.aload_n 0, 1) := by decide +kernel
theorem dX9_drawn_162 : decode cX9_drawn 162 = .ok (.getfield 36, 3) := by decide +kernel
theorem dX9_drawn_165 : decode cX9_drawn 165 = .ok (.aload_n 0, 1) := by decide +kernel
theorem dX9_drawn_166 : decode cX9_drawn 166 = .ok (.getfield 36, 3) := by decide +kernel
theorem dX9_drawn_169 : decode cX9_drawn 169 = .ok (.invokevirtual 140, 3) := by decide +kernel
theorem dX9_drawn_172 : decode cX9_drawn 172 = .ok (.invokevirtual 210, 3) := by decide +kernel
theorem dX9_drawn_175 : decode cX9_drawn 175 = .ok (.goto 5, 3) := by decide +kernel
theorem dX9_drawn_178 : decode cX9_drawn 178 = .ok (.iload 5, 2) := by decide +kernel
theorem dX9_drawn_180 : decode cX9_drawn 180 = .ok (.ireturn, 1) := by decide +kernel
theorem dX9_image_0 : decode cX9_image 0 = .ok (.aload_n 0, 1) := by decide +kernel
theorem dX9_image_1 : decode cX9_image 1 = .ok (.invokevirtual 137, 3) := by decide +kernel
theorem dX9_image_4 : decode cX9_image 4 = .ok (.ifCond .ne 6, 3) := by decide +kernel
theorem dX9_image_7 : decode cX9_image 7 = .ok (.bipush (-103), 2) := by decide +kernel
theorem dX9_image_9 : decode cX9_image 9 = .ok (.ireturn, 1) := by decide +kernel
theorem dX9_image_10 : decode cX9_image 10 = .ok (.aload_n 0, 1) := by decide +kernel
theorem dX9_image_11 : decode cX9_image 11 = .ok (.getfield 30, 3) := by decide +kernel
theorem dX9_image_14 : decode cX9_image 14 = .ok (.aload_n 0, 1) := by decide +kernel
theorem dX9_image_15 : decode cX9_image 15 = .ok (.getfield 26, 3) := by decide +kernel
theorem dX9_image_18 : decode cX9_image 18 = .ok (.invokevirtual 213, 3) := by decide +kernel
theorem dX9_image_21 : decode cX9_image 21 = .ok (.aload_n 0, 1) := by decide +kernel
theorem dX9_image_22 : decode cX9_image 22 = .ok (.iconst 1, 1) := by decide +kernel
theorem dX9_image_23 : decode cX9_image 23 = .ok (.putfield 54, 3) := by decide +kernel
theorem dX9_image_26 : decode cX9_image 26 = .ok (.aload_n 0, 1) := by decide +kernel
theorem dX9_image_27 : decode cX9_image 27 = .ok (.getfield 26, 3) := by decide +kernel
theorem dX9_image_30 : decode cX9_image 30 = .ok (.getfield 153, 3) := by decide +kernel
theorem dX9_image_33 : decode cX9_image 33 = .ok (.ireturn, 1) := by decide +kernel
theorem dX9_restore_0 : decode cX9_restore 0 = .ok (.aload_n 0, 1) := by decide +kernel
theorem dX9_restore_1 : decode cX9_restore 1 = .ok (.getfield 54, 3) := by decide +kernel
theorem dX9_restore_4 : decode cX9_restore 4 = .ok (.ifCond .ne 6, 3) := by decide +kernel
theorem dX9_restore_7 : decode cX9_restore 7 = .ok (.bipush (-103), 2) := by decide +kernel
theorem dX9_restore_9 : decode cX9_restore 9 = .ok (.ireturn, 1) := by decide +kernel
theorem dX9_restore_10 : decode cX9_restore 10 = .ok (.aload_n 0, 1) := by decide +kernel
theorem dX9_restore_11 : decode cX9_restore 11 = .ok (.getfield 26, 3) := by decide +kernel
theorem dX9_restore_14 : decode cX9_restore 14 = .ok (.aload_n 0, 1) := by decide +kernel
theorem dX9_restore_15 : decode cX9_restore 15 = .ok (.getfield 30, 3) := by decide +kernel
theorem dX9_restore_18 : decode cX9_restore 18 = .ok (.invokevirtual 213, 3) := by decide +kernel
theorem dX9_restore_21 : decode cX9_restore 21 = .ok (.aload_n 0, 1) := by decide +kernel
theorem dX9_restore_22 : decode cX9_restore 22 = .ok (.getfield 26, 3) := by decide +kernel
theorem dX9_restore_25 : decode cX9_restore 25 = .ok (.getfield 153, 3) := by decide +kernel
theorem dX9_restore_28 : decode cX9_restore 28 = .ok (.ireturn, 1) := by decide +kernel
theorem dX9_count_0 : decode cX9_count 0 = .ok (.iload_n 1, 1) := by decide +kernel
theorem dX9_count_1 : decode cX9_count 1 = .ok (.tableswitch 145 0 8 #[51, 62, 70, 81, 92, 113, 121, 132, 140], 51) := by decide +kernel
theorem dX9_count_52 : decode cX9_count 52 = .ok (.aload_n 0, 1) := by decide +kernel
theorem dX9_count_53 : decode cX9_count 53 = .ok (.getfield 26, 3) := by decide +kernel
theorem dX9_count_56 : decode cX9_count 56 = .ok (.getfield 93, 3) := by decide +kernel
theorem dX9_count_59 : decode cX9_count 59 = .ok (.getfield 94, 3) := by decide +kernel
theorem dX9_count_62 : decode cX9_count 62 = .ok (.ireturn, 1) := by decide +kernel
theorem dX9_count_63 : decode cX9_count 63 = .ok (.aload_n 0, 1) := by decide +kernel
theorem dX9_count_64 : decode cX9_count 64 = .ok (.getfield 19, 3) := by decide +kernel
theorem dX9_count_67 : decode cX9_count 67 = .ok (.getfield 216, 3) := by decide +kernel
theorem dX9_count_70 : decode cX9_count 70 = .ok (.ireturn, 1) := by decide +kernel
theorem dX9_count_71 : decode cX9_count 71 = .ok (.aload_n 0, 1) := by decide +kernel
theorem dX9_count_72 : decode cX9_count 72 = .ok (.getfield 26, 3) := by decide +kernel
theorem dX9_count_75 : decode cX9_count 75 = .ok (.getfield 159, 3) := by decide +kernel
theorem dX9_count_78 : decode cX9_count 78 = .ok (.getfield 163, 3) := by decide +kernel
theorem dX9_count_81 : decode cX9_count 81 = .ok (.ireturn, 1) := by decide +kernel
theorem dX9_count_82 : decode cX9_count 82 = .ok (.aload_n 0, 1) := by decide +kernel
theorem dX9_count_83 : decode cX9_count 83 = .ok (.getfield 26, 3) := by decide +kernel
theorem dX9_count_86 : decode cX9_count 86 = .ok (.getfield 93, 3) := by decide +kernel
theorem dX9_count_89 : decode cX9_count 89 = .ok (.invokevirtual 217, 3) := by decide +kernel
theorem dX9_count_92 : decode cX9_count 92 = .ok (.ireturn, 1) := by decide +kernel
theorem dX9_count_93 : decode cX9_count 93 = .ok (.aload_n 0, 1) := by decide +kernel
theorem dX9_count_94 : decode cX9_count 94 = .ok (.getfield 26, 3) := by decide +kernel
theorem dX9_count_97 : decode cX9_count 97 = .ok (.getfield 93, 3) := by decide +kernel
theorem dX9_count_100 : decode cX9_count 100 = .ok (.aload_n 0, 1) := by decide +kernel
theorem dX9_count_101 : decode cX9_count 101 = .ok (.getfield 26, 3) := by decide +kernel
theorem dX9_count_104 : decode cX9_count 104 = .ok (.getfield 93, 3) := by decide +kernel
theorem dX9_count_107 : decode cX9_count 107 = .ok (.invokevirtual 140, 3) := by decide +kernel
theorem dX9_count_110 : decode cX9_count 110 = .ok (.invokevirtual 210, 3) := by decide +kernel
theorem dX9_count_113 : decode cX9_count 113 = .ok (.ireturn, 1) := by decide +kernel
theorem dX9_count_114 : decode cX9_count 114 = .ok (.aload_n 0, 1) := by decide +kernel
theorem dX9_count_115 : decode cX9_count 115 = .ok (.getfield 26, 3) := by decide +kernel
theorem dX9_count_118 : decode cX9_count 118 = .ok (.getfield 153, 3) := by decide +kernel
theorem dX9_count_121 : decode cX9_count 121 = .ok (.ireturn, 1) := by decide +kernel
theorem dX9_count_122 : decode cX9_count 122 = .ok (.aload_n 0, 1) := by decide +kernel
theorem dX9_count_123 : decode cX9_count 123 = .ok (.getfield 26, 3) := by decide +kernel
theorem dX9_count_126 : decode cX9_count 126 = .ok (.getfield 113, 3) := by decide +kernel
theorem dX9_count_129 : decode cX9_count 129 = .ok (.getfield 200, 3) := by decide +kernel
theorem dX9_count_132 : decode cX9_count 132 = .ok (.ireturn, 1) := by decide +kernel
theorem dX9_count_133 : decode cX9_count 133 = .ok (.aload_n 0, 1) := by decide +kernel
theorem dX9_count_134 : decode cX9_count 134 = .ok (.getfield 12, 3) := by decide +kernel
theorem dX9_count_137 : decode cX9_count 137 = .ok (.getfield 66, 3) := by decide +kernel
theorem dX9_count_140 : decode cX9_count 140 = .ok (.ireturn, 1) := by decide +kernel
theorem dX9_count_141 : decode cX9_count 141 = .ok (.aload_n 0, 1) := by decide +kernel
theorem dX9_count_142 : decode cX9_count 142 = .ok (.getfield 58, 3) := by decide +kernel
theorem dX9_count_145 : decode cX9_count 145 = .ok (.ireturn, 1) := by decide +kernel
theorem dX9_count_146 : decode cX9_count 146 = .ok (.bipush (-102), 2) := by decide +kernel
theorem dX9_count_148 : decode cX9_count 148 = .ok (.ireturn, 1) := by decide +kernel
theorem dX9_digest_0 : decode cX9_digest 0 = .ok (.ldc2_w 220, 3) := by decide +kernel
theorem dX9_digest_3 : decode cX9_digest 3 = .ok (.lstore_n 1, 1) := by decide +kernel
theorem dX9_digest_4 : decode cX9_digest 4 = .ok (.iconst 0, 1) := by decide +kernel
theorem dX9_digest_5 : decode cX9_digest 5 = .ok (.istore_n 3, 1) := by decide +kernel
theorem dX9_digest_6 : decode cX9_digest 6 = .ok (.iload_n 3, 1) := by decide +kernel
theorem dX9_digest_7 : decode cX9_digest 7 = .ok (.aload_n 0, 1) := by decide +kernel
theorem dX9_digest_8 : decode cX9_digest 8 = .ok (.getfield 26, 3) := by decide +kernel
theorem dX9_digest_11 : decode cX9_digest 11 = .ok (.getfield 93, 3) := by decide +kernel
theorem dX9_digest_14 : decode cX9_digest 14 = .ok (.getfield 94, 3) := by decide +kernel
theorem dX9_digest_17 : decode cX9_digest 17 = .ok (.if_icmp .ge 40, 3) := by decide +kernel
theorem dX9_digest_20 : decode cX9_digest 20 = .ok (.iconst 0, 1) := by decide +kernel
theorem dX9_digest_21 : decode cX9_digest 21 = .ok (.istore 4, 2) := by decide +kernel
theorem dX9_digest_23 : decode cX9_digest 23 = .ok (.iload 4, 2) := by decide +kernel
theorem dX9_digest_25 : decode cX9_digest 25 = .ok (.bipush 7, 2) := by decide +kernel
theorem dX9_digest_27 : decode cX9_digest 27 = .ok (.if_icmp .gt 24, 3) := by decide +kernel
theorem dX9_digest_30 : decode cX9_digest 30 = .ok (.ldc2_w 222, 3) := by decide +kernel
theorem dX9_digest_33 : decode cX9_digest 33 = .ok (.lload_n 1, 1) := by decide +kernel
theorem dX9_digest_34 : decode cX9_digest 34 = .ok (.lmul, 1) := by decide +kernel
theorem dX9_digest_35 : decode cX9_digest 35 = .ok (.aload_n 0, 1) := by decide +kernel
theorem dX9_digest_36 : decode cX9_digest 36 = .ok (.iload_n 3, 1) := by decide +kernel
theorem dX9_digest_37 : decode cX9_digest 37 = .ok (.iload 4, 2) := by decide +kernel
theorem dX9_digest_39 : decode cX9_digest 39 = .ok (.invokevirtual 224, 3) := by decide +kernel
theorem dX9_digest_42 : decode cX9_digest 42 = .ok (.i2l, 1) := by decide +kernel
theorem dX9_digest_43 : decode cX9_digest 43 = .ok (.ladd, 1) := by decide +kernel
theorem dX9_digest_44 : decode cX9_digest 44 = .ok (.lstore_n 1, 1) := by decide +kernel
theorem dX9_digest_45 : decode cX9_digest 45 = .ok (.iinc 4 1, 3) := by decide +kernel
theorem dX9_digest_48 : decode cX9_digest 48 = .ok (.goto (-25), 3) := by decide +kernel
theorem dX9_digest_51 : decode cX9_digest 51 = .ok (.iinc 3 1, 3) := by decide +kernel
theorem dX9_digest_54 : decode cX9_digest 54 = .ok (.goto (-48), 3) := by decide +kernel
theorem dX9_digest_57 : decode cX9_digest 57 = .ok (.aload_n 0, 1) := by decide +kernel
theorem dX9_digest_58 : decode cX9_digest 58 = .ok (.invokevirtual 137, 3) := by decide +kernel
theorem dX9_digest_61 : decode cX9_digest 61 = .ok (.ifCond .eq 121, 3) := by decide +kernel
theorem dX9_digest_64 : decode cX9_digest 64 = .ok (.iconst 0, 1) := by decide +kernel
theorem dX9_digest_65 : decode cX9_digest 65 = .ok (.istore_n 3, 1) := by decide +kernel
theorem dX9_digest_66 : decode cX9_digest 66 = .ok (.iload_n 3, 1) := by decide +kernel
theorem dX9_digest_67 : decode cX9_digest 67 = .ok (.bipush 6, 2) := by decide +kernel
theorem dX9_digest_69 : decode cX9_digest 69 = .ok (.if_icmp .ge 22, 3) := by decide +kernel
theorem dX9_digest_72 : decode cX9_digest 72 = .ok (.ldc2_w 222, 3) := by decide +kernel
theorem dX9_digest_75 : decode cX9_digest 75 = .ok (.lload_n 1, 1) := by decide +kernel
theorem dX9_digest_76 : decode cX9_digest 76 = .ok (.lmul, 1) := by decide +kernel
theorem dX9_digest_77 : decode cX9_digest 77 = .ok (.aload_n 0, 1) := by decide +kernel
theorem dX9_digest_78 : decode cX9_digest 78 = .ok (.iload_n 3, 1) := by decide +kernel
theorem dX9_digest_79 : decode cX9_digest 79 = .ok (.invokevirtual 227, 3) := by decide +kernel
theorem dX9_digest_82 : decode cX9_digest 82 = .ok (.i2l, 1) := by decide +kernel
theorem dX9_digest_83 : decode cX9_digest 83 = .ok (.ladd, 1) := by decide +kernel
theorem dX9_digest_84 : decode cX9_digest 84 = .ok (.lstore_n 1, 1) := by decide +kernel
theorem dX9_digest_85 : decode cX9_digest 85 = .ok (.iinc 3 1, 3) := by decide +kernel
theorem dX9_digest_88 : decode cX9_digest 88 = .ok (.goto (-22), 3) := by decide +kernel
theorem dX9_digest_91 : decode cX9_digest 91 = .ok (.ldc2_w 222, 3) := by decide +kernel
theorem dX9_digest_94 : decode cX9_digest 94 = .ok (.lload_n 1, 1) := by decide +kernel
theorem dX9_digest_95 : decode cX9_digest 95 = .ok (.lmul, 1) := by decide +kernel
theorem dX9_digest_96 : decode cX9_digest 96 = .ok (.aload_n 0, 1) := by decide +kernel
theorem dX9_digest_97 : decode cX9_digest 97 = .ok (.iconst 0, 1) := by decide +kernel
theorem dX9_digest_98 : decode cX9_digest 98 = .ok (.invokevirtual 230, 3) := by decide +kernel
theorem dX9_digest_101 : decode cX9_digest 101 = .ok (.i2l, 1) := by decide +kernel
theorem dX9_digest_102 : decode cX9_digest 102 = .ok (.ladd, 1) := by decide +kernel
theorem dX9_digest_103 : decode cX9_digest 103 = .ok (.lstore_n 1, 1) := by decide +kernel
theorem dX9_digest_104 : decode cX9_digest 104 = .ok (.ldc2_w 222, 3) := by decide +kernel
theorem dX9_digest_107 : decode cX9_digest 107 = .ok (.lload_n 1, 1) := by decide +kernel
theorem dX9_digest_108 : decode cX9_digest 108 = .ok (.lmul, 1) := by decide +kernel
theorem dX9_digest_109 : decode cX9_digest 109 = .ok (.aload_n 0, 1) := by decide +kernel
theorem dX9_digest_110 : decode cX9_digest 110 = .ok (.iconst 1, 1) := by decide +kernel
theorem dX9_digest_111 : decode cX9_digest 111 = .ok (.invokevirtual 230, 3) := by decide +kernel
theorem dX9_digest_114 : decode cX9_digest 114 = .ok (.i2l, 1) := by decide +kernel
theorem dX9_digest_115 : decode cX9_digest 115 = .ok (.ladd, 1) := by decide +kernel
theorem dX9_digest_116 : decode cX9_digest 116 = .ok (.lstore_n 1, 1) := by decide +kernel
theorem dX9_digest_117 : decode cX9_digest 117 = .ok (.ldc2_w 222, 3) := by decide +kernel
theorem dX9_digest_120 : decode cX9_digest 120 = .ok (.lload_n 1, 1) := by decide +kernel
theorem dX9_digest_121 : decode cX9_digest 121 = .ok (.lmul, 1) := by decide +kernel
theorem dX9_digest_122 : decode cX9_digest 122 = .ok (.aload_n 0, 1) := by decide +kernel
theorem dX9_digest_123 : decode cX9_digest 123 = .ok (.iconst 0, 1) := by decide +kernel
theorem dX9_digest_124 : decode cX9_digest 124 = .ok (.invokevirtual 233, 3) := by decide +kernel
theorem dX9_digest_127 : decode cX9_digest 127 = .ok (.i2l, 1) := by decide +kernel
theorem dX9_digest_128 : decode cX9_digest 128 = .ok (.ladd, 1) := by decide +kernel
theorem dX9_digest_129 : decode cX9_digest 129 = .ok (.lstore_n 1, 1) := by decide +kernel
theorem dX9_digest_130 : decode cX9_digest 130 = .ok (.ldc2_w 222, 3) := by decide +kernel
theorem dX9_digest_133 : decode cX9_digest 133 = .ok (.lload_n 1, 1) := by decide +kernel
theorem dX9_digest_134 : decode cX9_digest 134 = .ok (.lmul, 1) := by decide +kernel
theorem dX9_digest_135 : decode cX9_digest 135 = .ok (.aload_n 0, 1) := by decide +kernel
theorem dX9_digest_136 : decode cX9_digest 136 = .ok (.iconst 1, 1) := by decide +kernel
theorem dX9_digest_137 : decode cX9_digest 137 = .ok (.invokevirtual 233, 3) := by decide +kernel
theorem dX9_digest_140 : decode cX9_digest 140 = .ok (.i2l, 1) := by decide +kernel
theorem dX9_digest_141 : decode cX9_digest 141 = .ok (.ladd, 1) := by decide +kernel
theorem dX9_digest_142 : decode cX9_digest 142 = .ok (.lstore_n 1, 1) := by decide +kernel
theorem dX9_digest_143 : decode cX9_digest 143 = .ok (.ldc2_w 222, 3) := by decide +kernel
theorem dX9_digest_146 : decode cX9_digest 146 = .ok (.lload_n 1, 1) := by decide +kernel
theorem dX9_digest_147 : decode cX9_digest 147 = .ok (.lmul, 1) := by decide +kernel
theorem dX9_digest_148 : decode cX9_digest 148 = .ok (.aload_n 0, 1) := by decide +kernel
theorem dX9_digest_149 : decode cX9_digest 149 = .ok (.iconst 0, 1) := by decide +kernel
theorem dX9_digest_150 : decode cX9_digest 150 = .ok (.invokevirtual 236, 3) := by decide +kernel
theorem dX9_digest_153 : decode cX9_digest 153 = .ok (.i2l, 1) := by decide +kernel
theorem dX9_digest_154 : decode cX9_digest 154 = .ok (.ladd, 1) := by decide +kernel
theorem dX9_digest_155 : decode cX9_digest 155 = .ok (.lstore_n 1, 1) := by decide +kernel
theorem dX9_digest_156 : decode cX9_digest 156 = .ok (.ldc2_w 222, 3) := by decide +kernel
theorem dX9_digest_159 : decode cX9_digest 159 = .ok (.lload_n 1, 1) := by decide +kernel
theorem dX9_digest_160 : decode cX9_digest 160 = .ok (.lmul, 1) := by decide +kernel
theorem dX9_digest_161 : decode cX9_digest 161 = .ok (.aload_n 0, 1) := by decide +kernel
theorem dX9_digest_162 : decode cX9_digest 162 = .ok (.iconst 1, 1) := by decide +kernel
theorem dX9_digest_163 : decode cX9_digest 163 = .ok (.invokevirtual 236, 3) := by decide +kernel
theorem dX9_digest_166 : decode cX9_digest 166 = .ok (.i2l, 1) := by decide +kernel
theorem dX9_digest_167 : decode cX9_digest 167 = .ok (.ladd, 1) := by decide +kernel
theorem dX9_digest_168 : decode cX9_digest 168 = .ok (.lstore_n 1, 1) := by decide +kernel
theorem dX9_digest_169 : decode cX9_digest 169 = .ok (.ldc2_w 222, 3) := by decide +kernel
theorem dX9_digest_172 : decode cX9_digest 172 = .ok (.lload_n 1, 1) := by decide +kernel
theorem dX9_digest_173 : decode cX9_digest 173 = .ok (.lmul, 1) := by decide +kernel
theorem dX9_digest_174 : decode cX9_digest 174 = .ok (.aload_n 0, 1) := by decide +kernel
theorem dX9_digest_175 : decode cX9_digest 175 = .ok (.iconst 1, 1) := by decide +kernel
theorem dX9_digest_176 : decode cX9_digest 176 = .ok (.invokevirtual 239, 3) := by decide +kernel
theorem dX9_digest_179 : decode cX9_digest 179 = .ok (.i2l, 1) := by decide +kernel
theorem dX9_digest_180 : decode cX9_digest 180 = .ok (.ladd, 1) := by decide +kernel
theorem dX9_digest_181 : decode cX9_digest 181 = .ok (.lstore_n 1, 1) := by decide +kernel
theorem dX9_digest_182 : decode cX9_digest 182 = .ok (.iconst 0, 1) := by decide +kernel
theorem dX9_digest_183 : decode cX9_digest 183 = .ok (.istore_n 3, 1) := by decide +kernel
theorem dX9_digest_184 : decode cX9_digest 184 = .ok (.iload_n 3, 1) := by decide +kernel
theorem dX9_digest_185 : decode cX9_digest 185 = .ok (.aload_n 0, 1) := by decide +kernel
theorem dX9_digest_186 : decode cX9_digest 186 = .ok (.getfield 12, 3) := by decide +kernel
theorem dX9_digest_189 : decode cX9_digest 189 = .ok (.getfield 66, 3) := by decide +kernel
theorem dX9_digest_192 : decode cX9_digest 192 = .ok (.if_icmp .ge 26, 3) := by decide +kernel
theorem dX9_digest_195 : decode cX9_digest 195 = .ok (.ldc2_w 222, 3) := by decide +kernel
theorem dX9_digest_198 : decode cX9_digest 198 = .ok (.lload_n 1, 1) := by decide +kernel
theorem dX9_digest_199 : decode cX9_digest 199 = .ok (.lmul, 1) := by decide +kernel
theorem dX9_digest_200 : decode cX9_digest 200 = .ok (.aload_n 0, 1) := by decide +kernel
theorem dX9_digest_201 : decode cX9_digest 201 = .ok (.getfield 12, 3) := by decide +kernel
theorem dX9_digest_204 : decode cX9_digest 204 = .ok (.getfield 242, 3) := by decide +kernel
theorem dX9_digest_207 : decode cX9_digest 207 = .ok (.iload_n 3, 1) := by decide +kernel
theorem dX9_digest_208 : decode cX9_digest 208 = .ok (.iaload, 1) := by decide +kernel
theorem dX9_digest_209 : decode cX9_digest 209 = .ok (.i2l, 1) := by decide +kernel
theorem dX9_digest_210 : decode cX9_digest 210 = .ok (.ladd, 1) := by decide +kernel
theorem dX9_digest_211 : decode cX9_digest 211 = .ok (.lstore_n 1, 1) := by decide +kernel
theorem dX9_digest_212 : decode cX9_digest 212 = .ok (.iinc 3 1, 3) := by decide +kernel
theorem dX9_digest_215 : decode cX9_digest 215 = .ok (.goto (-31), 3) := by decide +kernel
theorem dX9_digest_218 : decode cX9_digest 218 = .ok (.iconst 0, 1) := by decide +kernel
theorem dX9_digest_219 : decode cX9_digest 219 = .ok (.istore_n 3, 1) := by decide +kernel
theorem dX9_digest_220 : decode cX9_digest 220 = .ok (.iload_n 3, 1) := by decide +kernel
theorem dX9_digest_221 : decode cX9_digest 221 = .ok (.bipush 8, 2) := by decide +kernel
theorem dX9_digest_223 : decode cX9_digest 223 = .ok (.if_icmp .gt 22, 3) := by decide +kernel
theorem dX9_digest_226 : decode cX9_digest 226 = .ok (.ldc2_w 222, 3) := by decide +kernel
theorem dX9_digest_229 : decode cX9_digest 229 = .ok (.lload_n 1, 1) := by decide +kernel
theorem dX9_digest_230 : decode cX9_digest 230 = .ok (.lmul, 1) := by decide +kernel
theorem dX9_digest_231 : decode cX9_digest 231 = .ok (.aload_n 0, 1) := by decide +kernel
theorem dX9_digest_232 : decode cX9_digest 232 = .ok (.iload_n 3, 1) := by decide +kernel
theorem dX9_digest_233 : decode cX9_digest 233 = .ok (.invokevirtual 246, 3) := by decide +kernel
theorem dX9_digest_236 : decode cX9_digest 236 = .ok (.i2l, 1) := by decide +kernel
theorem dX9_digest_237 : decode cX9_digest 237 = .ok (.ladd, 1) := by decide +kernel
theorem dX9_digest_238 : decode cX9_digest 238 = .ok (.lstore_n 1, 1) := by decide +kernel
theorem dX9_digest_239 : decode cX9_digest 239 = .ok (.iinc 3 1, 3) := by decide +kernel
theorem dX9_digest_242 : decode cX9_digest 242 = .ok (.goto (-22), 3) := by decide +kernel
theorem dX9_digest_245 : decode cX9_digest 245 = .ok (.lload_n 1, 1) := by decide +kernel
theorem dX9_digest_246 : decode cX9_digest 246 = .ok (.lreturn, 1) := by decide +kernel
theorem dX9_hasWall_0 : decode cX9_hasWall 0 = .ok (.aload_n 0, 1) := by decide +kernel
theorem dX9_hasWall_1 : decode cX9_hasWall 1 = .ok (.getfield 26, 3) := by decide +kernel
theorem dX9_hasWall_4 : decode cX9_hasWall 4 = .ok (.getfield 93, 3) := by decide +kernel
theorem dX9_hasWall_7 : decode cX9_hasWall 7 = .ok (.getfield 94, 3) := by decide +kernel
theorem dX9_hasWall_10 : decode cX9_hasWall 10 = .ok (.ifCond .le 7, 3) := by decide +kernel
theorem dX9_hasWall_13 : decode cX9_hasWall 13 = .ok (.iconst 1, 1) := by decide +kernel
theorem dX9_hasWall_14 : decode cX9_hasWall 14 = .ok (.goto 4, 3) := by decide +kernel
theorem dX9_hasWall_17 : decode cX9_hasWall 17 = .ok (.iconst 0, 1) := by decide +kernel
theorem dX9_hasWall_18 : decode cX9_hasWall 18 = .ok (.ireturn, 1) := by decide +kernel
theorem dX9_isWitness_0 : decode cX9_isWitness 0 = .ok (.iload_n 1, 1) := by decide +kernel
theorem dX9_isWitness_1 : decode cX9_isWitness 1 = .ok (.iconst 0, 1) := by decide +kernel
theorem dX9_isWitness_2 : decode cX9_isWitness 2 = .ok (.aload_n 0, 1) := by decide +kernel
theorem dX9_isWitness_3 : decode cX9_isWitness 3 = .ok (.getfield 26, 3) := by decide +kernel
theorem dX9_isWitness_6 : decode cX9_isWitness 6 = .ok (.getfield 93, 3) := by decide +kernel
theorem dX9_isWitness_9 : decode cX9_isWitness 9 = .ok (.getfield 94, 3) := by decide +kernel
theorem dX9_isWitness_12 : decode cX9_isWitness 12 = .ok (.iconst 1, 1) := by decide +kernel
theorem dX9_isWitness_13 : decode cX9_isWitness 13 = .ok (.isub, 1) := by decide +kernel
theorem dX9_isWitness_14 : decode cX9_isWitness 14 = .ok (.invokestatic 62, 3) := by decide +kernel
theorem dX9_isWitness_17 : decode cX9_isWitness 17 = .ok (.ireturn, 1) := by decide +kernel
theorem dX9_isThing_0 : decode cX9_isThing 0 = .ok (.iload_n 0, 1) := by decide +kernel
theorem dX9_isThing_1 : decode cX9_isThing 1 = .ok (.iconst 0, 1) := by decide +kernel
theorem dX9_isThing_2 : decode cX9_isThing 2 = .ok (.iconst 5, 1) := by decide +kernel
theorem dX9_isThing_3 : decode cX9_isThing 3 = .ok (.invokestatic 62, 3) := by decide +kernel
theorem dX9_isThing_6 : decode cX9_isThing 6 = .ok (.ireturn, 1) := by decide +kernel
theorem dX9_isColour_0 : decode cX9_isColour 0 = .ok (.iload_n 0, 1) := by decide +kernel
theorem dX9_isColour_1 : decode cX9_isColour 1 = .ok (.iconst 0, 1) := by decide +kernel
theorem dX9_isColour_2 : decode cX9_isColour 2 = .ok (.iconst 3, 1) := by decide +kernel
theorem dX9_isColour_3 : decode cX9_isColour 3 = .ok (.invokestatic 62, 3) := by decide +kernel
theorem dX9_isColour_6 : decode cX9_isColour 6 = .ok (.ireturn, 1) := by decide +kernel
theorem dX9_isWithin_0 : decode cX9_isWithin 0 = .ok (.iload_n 0, 1) := by decide +kernel
theorem dX9_isWithin_1 : decode cX9_isWithin 1 = .ok (.iload_n 1, 1) := by decide +kernel
theorem dX9_isWithin_2 : decode cX9_isWithin 2 = .ok (.if_icmp .lt 12, 3) := by decide +kernel
theorem dX9_isWithin_5 : decode cX9_isWithin 5 = .ok (.iload_n 0, 1) := by decide +kernel
theorem dX9_isWithin_6 : decode cX9_isWithin 6 = .ok (.iload_n 2, 1) := by decide +kernel
theorem dX9_isWithin_7 : decode cX9_isWithin 7 = .ok (.if_icmp .gt 7, 3) := by decide +kernel
theorem dX9_isWithin_10 : decode cX9_isWithin 10 = .ok (.iconst 1, 1) := by decide +kernel
theorem dX9_isWithin_11 : decode cX9_isWithin 11 = .ok (.goto 4, 3) := by decide +kernel
theorem dX9_isWithin_14 : decode cX9_isWithin 14 = .ok (.iconst 0, 1) := by decide +kernel
theorem dX9_isWithin_15 : decode cX9_isWithin 15 = .ok (.ireturn, 1) := by decide +kernel
theorem dX9_seedAfter_0 : decode cX9_seedAfter 0 = .ok (.ldc 249, 2) := by decide +kernel
theorem dX9_seedAfter_2 : decode cX9_seedAfter 2 = .ok (.iload_n 0, 1) := by decide +kernel
theorem dX9_seedAfter_3 : decode cX9_seedAfter 3 = .ok (.imul, 1) := by decide +kernel
theorem dX9_seedAfter_4 : decode cX9_seedAfter 4 = .ok (.sipush 12345, 3) := by decide +kernel
theorem dX9_seedAfter_7 : decode cX9_seedAfter 7 = .ok (.iadd, 1) := by decide +kernel
theorem dX9_seedAfter_8 : decode cX9_seedAfter 8 = .ok (.ldc 250, 2) := by decide +kernel
theorem dX9_seedAfter_10 : decode cX9_seedAfter 10 = .ok (.iand, 1) := by decide +kernel
theorem dX9_seedAfter_11 : decode cX9_seedAfter 11 = .ok (.ireturn, 1) := by decide +kernel
theorem dX9_drawOf_0 : decode cX9_drawOf 0 = .ok (.iload_n 0, 1) := by decide +kernel
theorem dX9_drawOf_1 : decode cX9_drawOf 1 = .ok (.iconst 1, 1) := by decide +kernel
theorem dX9_drawOf_2 : decode cX9_drawOf 2 = .ok (.if_icmp .ge 7, 3) := by decide +kernel
theorem dX9_drawOf_5 : decode cX9_drawOf 5 = .ok (.iconst 0, 1) := by decide +kernel
theorem dX9_drawOf_6 : decode cX9_drawOf 6 = .ok (.goto 9, 3) := by decide +kernel
theorem dX9_drawOf_9 : decode cX9_drawOf 9 = .ok (.iload_n 1, 1) := by decide +kernel
theorem dX9_drawOf_10 : decode cX9_drawOf 10 = .ok (.ldc 251, 2) := by decide +kernel
theorem dX9_drawOf_12 : decode cX9_drawOf 12 = .ok (.idiv, 1) := by decide +kernel
theorem dX9_drawOf_13 : decode cX9_drawOf 13 = .ok (.iload_n 0, 1) := by decide +kernel
theorem dX9_drawOf_14 : decode cX9_drawOf 14 = .ok (.irem, 1) := by decide +kernel
theorem dX9_drawOf_15 : decode cX9_drawOf 15 = .ok (.ireturn, 1) := by decide +kernel
theorem dX9_commonMeasure_0 : decode cX9_commonMeasure 0 = .ok (.iload_n 0, 1) := by decide +kernel
theorem dX9_commonMeasure_1 : decode cX9_commonMeasure 1 = .ok (.istore_n 2, 1) := by decide +kernel
theorem dX9_commonMeasure_2 : decode cX9_commonMeasure 2 = .ok (.iload_n 1, 1) := by decide +kernel
theorem dX9_commonMeasure_3 : decode cX9_commonMeasure 3 = .ok (.istore_n 3, 1) := by decide +kernel
theorem dX9_commonMeasure_4 : decode cX9_commonMeasure 4 = .ok (.iconst 0, 1) := by decide +kernel
theorem dX9_commonMeasure_5 : decode cX9_commonMeasure 5 = .ok (.istore 4, 2) := by decide +kernel
theorem dX9_commonMeasure_7 : decode cX9_commonMeasure 7 = .ok (.iload 4, 2) := by decide +kernel
theorem dX9_commonMeasure_9 : decode cX9_commonMeasure 9 = .ok (.bipush 64, 2) := by decide +kernel
theorem dX9_commonMeasure_11 : decode cX9_commonMeasure 11 = .ok (.if_icmp .ge 23, 3) := by decide +kernel
theorem dX9_commonMeasure_14 : decode cX9_commonMeasure 14 = .ok (.iload_n 3, 1) := by decide +kernel
theorem dX9_commonMeasure_15 : decode cX9_commonMeasure 15 = .ok (.ifCond .eq 19, 3) := by decide +kernel
theorem dX9_commonMeasure_18 : decode cX9_commonMeasure 18 = .ok (.iload_n 2, 1) := by decide +kernel
theorem dX9_commonMeasure_19 : decode cX9_commonMeasure 19 = .ok (.iload_n 3, 1) := by decide +kernel
theorem dX9_commonMeasure_20 : decode cX9_commonMeasure 20 = .ok (.irem, 1) := by decide +kernel
theorem dX9_commonMeasure_21 : decode cX9_commonMeasure 21 = .ok (.istore 5, 2) := by decide +kernel
theorem dX9_commonMeasure_23 : decode cX9_commonMeasure 23 = .ok (.iload_n 3, 1) := by decide +kernel
theorem dX9_commonMeasure_24 : decode cX9_commonMeasure 24 = .ok (.istore_n 2, 1) := by decide +kernel
theorem dX9_commonMeasure_25 : decode cX9_commonMeasure 25 = .ok (.iload 5, 2) := by decide +kernel
theorem dX9_commonMeasure_27 : decode cX9_commonMeasure 27 = .ok (.istore_n 3, 1) := by decide +kernel
theorem dX9_commonMeasure_28 : decode cX9_commonMeasure 28 = .ok (.iinc 4 1, 3) := by decide +kernel
theorem dX9_commonMeasure_31 : decode cX9_commonMeasure 31 = .ok (.goto (-24), 3) := by decide +kernel
theorem dX9_commonMeasure_34 : decode cX9_commonMeasure 34 = .ok (.iload_n 2, 1) := by decide +kernel
theorem dX9_commonMeasure_35 : decode cX9_commonMeasure 35 = .ok (.ireturn, 1) := by decide +kernel
theorem dX10_init_0 : decode cX10_init 0 = .ok (.aload_n 0, 1) := by decide +kernel
theorem dX10_init_1 : decode cX10_init 1 = .ok (.invokespecial 1, 3) := by decide +kernel
theorem dX10_init_4 : decode cX10_init 4 = .ok (.aload_n 0, 1) := by decide +kernel
theorem dX10_init_5 : decode cX10_init 5 = .ok (.iconst 5, 1) := by decide +kernel
theorem dX10_init_6 : decode cX10_init 6 = .ok (.newarray .int, 2) := by decide +kernel
theorem dX10_init_8 : decode cX10_init 8 = .ok (.putfield 7, 3) := by decide +kernel
theorem dX10_init_11 : decode cX10_init 11 = .ok (.aload_n 0, 1) := by decide +kernel
theorem dX10_init_12 : decode cX10_init 12 = .ok (.bipush 20, 2) := by decide +kernel
theorem dX10_init_14 : decode cX10_init 14 = .ok (.newarray .int, 2) := by decide +kernel
theorem dX10_init_16 : decode cX10_init 16 = .ok (.putfield 13, 3) := by decide +kernel
theorem dX10_init_19 : decode cX10_init 19 = .ok (.aload_n 0, 1) := by decide +kernel
theorem dX10_init_20 : decode cX10_init 20 = .ok (.iconst 5, 1) := by decide +kernel
theorem dX10_init_21 : decode cX10_init 21 = .ok (.newarray .int, 2) := by decide +kernel
theorem dX10_init_23 : decode cX10_init 23 = .ok (.putfield 16, 3) := by decide +kernel
theorem dX10_init_26 : decode cX10_init 26 = .ok (.aload_n 0, 1) := by decide +kernel
theorem dX10_init_27 : decode cX10_init 27 = .ok (.iconst 4, 1) := by decide +kernel
theorem dX10_init_28 : decode cX10_init 28 = .ok (.newarray .int, 2) := by decide +kernel
theorem dX10_init_30 : decode cX10_init 30 = .ok (.putfield 19, 3) := by decide +kernel
theorem dX10_init_33 : decode cX10_init 33 = .ok (.aload_n 0, 1) := by decide +kernel
theorem dX10_init_34 : decode cX10_init 34 = .ok (.iconst 4, 1) := by decide +kernel
theorem dX10_init_35 : decode cX10_init 35 = .ok (.newarray .int, 2) := by decide +kernel
theorem dX10_init_37 : decode cX10_init 37 = .ok (.putfield 22, 3) := by decide +kernel
theorem dX10_init_40 : decode cX10_init 40 = .ok (.aload_n 0, 1) := by decide +kernel
theorem dX10_init_41 : decode cX10_init 41 = .ok (.bipush 6, 2) := by decide +kernel
theorem dX10_init_43 : decode cX10_init 43 = .ok (.newarray .int, 2) := by decide +kernel
theorem dX10_init_45 : decode cX10_init 45 = .ok (.putfield 25, 3) := by decide +kernel
theorem dX10_init_48 : decode cX10_init 48 = .ok (.aload_n 0, 1) := by decide +kernel
theorem dX10_init_49 : decode cX10_init 49 = .ok (.bipush 6, 2) := by decide +kernel
theorem dX10_init_51 : decode cX10_init 51 = .ok (.newarray .int, 2) := by decide +kernel
theorem dX10_init_53 : decode cX10_init 53 = .ok (.putfield 28, 3) := by decide +kernel
theorem dX10_init_56 : decode cX10_init 56 = .ok (.aload_n 0, 1) := by decide +kernel
theorem dX10_init_57 : decode cX10_init 57 = .ok (.bipush 6, 2) := by decide +kernel
theorem dX10_init_59 : decode cX10_init 59 = .ok (.newarray .int, 2) := by decide +kernel
theorem dX10_init_61 : decode cX10_init 61 = .ok (.putfield 31, 3) := by decide +kernel
theorem dX10_init_64 : decode cX10_init 64 = .ok (.aload_n 0, 1) := by decide +kernel
theorem dX10_init_65 : decode cX10_init 65 = .ok (.bipush 6, 2) := by decide +kernel
theorem dX10_init_67 : decode cX10_init 67 = .ok (.newarray .int, 2) := by decide +kernel
theorem dX10_init_69 : decode cX10_init 69 = .ok (.putfield 34, 3) := by decide +kernel
theorem dX10_init_72 : decode cX10_init 72 = .ok (.aload_n 0, 1) := by decide +kernel
theorem dX10_init_73 : decode cX10_init 73 = .ok (.bipush 6, 2) := by decide +kernel
theorem dX10_init_75 : decode cX10_init 75 = .ok (.newarray .int, 2) := by decide +kernel
theorem dX10_init_77 : decode cX10_init 77 = .ok (.putfield 37, 3) := by decide +kernel
theorem dX10_init_80 : decode cX10_init 80 = .ok (.aload_n 0, 1) := by decide +kernel
theorem dX10_init_81 : decode cX10_init 81 = .ok (.bipush 6, 2) := by decide +kernel
theorem dX10_init_83 : decode cX10_init 83 = .ok (.newarray .int, 2) := by decide +kernel
theorem dX10_init_85 : decode cX10_init 85 = .ok (.putfield 40, 3) := by decide +kernel
theorem dX10_init_88 : decode cX10_init 88 = .ok (.aload_n 0, 1) := by decide +kernel
theorem dX10_init_89 : decode cX10_init 89 = .ok (.bipush 54, 2) := by decide +kernel
theorem dX10_init_91 : decode cX10_init 91 = .ok (.newarray .byte, 2) := by decide +kernel
theorem dX10_init_93 : decode cX10_init 93 = .ok (.putfield 43, 3) := by decide +kernel
theorem dX10_init_96 : decode cX10_init 96 = .ok (.aload_n 0, 1) := by decide +kernel
theorem dX10_init_97 : decode cX10_init 97 = .ok (.iconst 5, 1) := by decide +kernel
theorem dX10_init_98 : decode cX10_init 98 = .ok (.newarray .int, 2) := by decide +kernel
theorem dX10_init_100 : decode cX10_init 100 = .ok (.putfield 47, 3) := by decide +kernel
theorem dX10_init_103 : decode cX10_init 103 = .ok (.aload_n 0, 1) := by decide +kernel
theorem dX10_init_104 : decode cX10_init 104 = .ok (.bipush 15, 2) := by decide +kernel
theorem dX10_init_106 : decode cX10_init 106 = .ok (.newarray .int, 2) := by decide +kernel
theorem dX10_init_108 : decode cX10_init 108 = .ok (.putfield 50, 3) := by decide +kernel
theorem dX10_init_111 : decode cX10_init 111 = .ok (.aload_n 0, 1) := by decide +kernel
theorem dX10_init_112 : decode cX10_init 112 = .ok (.iconst 5, 1) := by decide +kernel
theorem dX10_init_113 : decode cX10_init 113 = .ok (.newarray .int, 2) := by decide +kernel
theorem dX10_init_115 : decode cX10_init 115 = .ok (.putfield 53, 3) := by decide +kernel
theorem dX10_init_118 : decode cX10_init 118 = .ok (.aload_n 0, 1) := by decide +kernel
theorem dX10_init_119 : decode cX10_init 119 = .ok (.iconst 4, 1) := by decide +kernel
theorem dX10_init_120 : decode cX10_init 120 = .ok (.newarray .int, 2) := by decide +kernel
theorem dX10_init_122 : decode cX10_init 122 = .ok (.putfield 56, 3) := by decide +kernel
theorem dX10_init_125 : decode cX10_init 125 = .ok (.aload_n 0, 1) := by decide +kernel
theorem dX10_init_126 : decode cX10_init 126 = .ok (.iconst 4, 1) := by decide +kernel
theorem dX10_init_127 : decode cX10_init 127 = .ok (.newarray .int, 2) := by decide +kernel
theorem dX10_init_129 : decode cX10_init 129 = .ok (.putfield 59, 3) := by decide +kernel
theorem dX10_init_132 : decode cX10_init 132 = .ok (.aload_n 0, 1) := by decide +kernel
theorem dX10_init_133 : decode cX10_init 133 = .ok (.bipush 20, 2) := by decide +kernel
theorem dX10_init_135 : decode cX10_init 135 = .ok (.newarray .int, 2) := by decide +kernel
theorem dX10_init_137 : decode cX10_init 137 = .ok (.putfield 62, 3) := by decide +kernel
theorem dX10_init_140 : decode cX10_init 140 = .ok (.aload_n 0, 1) := by decide +kernel
theorem dX10_init_141 : decode cX10_init 141 = .ok (.iconst 5, 1) := by decide +kernel
theorem dX10_init_142 : decode cX10_init 142 = .ok (.newarray .int, 2) := by decide +kernel
theorem dX10_init_144 : decode cX10_init 144 = .ok (.putfield 65, 3) := by decide +kernel
theorem dX10_init_147 : decode cX10_init 147 = .ok (.aload_n 0, 1) := by decide +kernel
theorem dX10_init_148 : decode cX10_init 148 = .ok (.bipush 7, 2) := by decide +kernel
theorem dX10_init_150 : decode cX10_init 150 = .ok (.newarray .int, 2) := by decide +kernel
theorem dX10_init_152 : decode cX10_init 152 = .ok (.putfield 68, 3) := by decide +kernel
theorem dX10_init_155 : decode cX10_init 155 = .ok (.aload_n 0, 1) := by decide +kernel
theorem dX10_init_156 : decode cX10_init 156 = .ok (.sipush 128, 3) := by decide +kernel
theorem dX10_init_159 : decode cX10_init 159 = .ok (.newarray .int, 2) := by decide +kernel
theorem dX10_init_161 : decode cX10_init 161 = .ok (.putfield 71, 3) := by decide +kernel
theorem dX10_init_164 : decode cX10_init 164 = .ok (.aload_n 0, 1) := by decide +kernel
theorem dX10_init_165 : decode cX10_init 165 = .ok (.iconst 5, 1) := by decide +kernel
theorem dX10_init_166 : decode cX10_init 166 = .ok (.newarray .int, 2) := by decide +kernel
theorem dX10_init_168 : decode cX10_init 168 = .ok (.putfield 74, 3) := by decide +kernel
theorem dX10_init_171 : decode cX10_init 171 = .ok (.aload_n 0, 1) := by decide +kernel
theorem dX10_init_172 : decode cX10_init 172 = .ok (.bipush 20, 2) := by decide +kernel
theorem dX10_init_174 : decode cX10_init 174 = .ok (.newarray .int, 2) := by decide +kernel
theorem dX10_init_176 : decode cX10_init 176 = .ok (.putfield 77, 3) := by decide +kernel
theorem dX10_init_179 : decode cX10_init 179 = .ok (.aload_n 0, 1) := by decide +kernel
theorem dX10_init_180 : decode cX10_init 180 = .ok (.iconst 5, 1) := by decide +kernel
theorem dX10_init_181 : decode cX10_init 181 = .ok (.newarray .int, 2) := by decide +kernel
theorem dX10_init_183 : decode cX10_init 183 = .ok (.putfield 80, 3) := by decide +kernel
theorem dX10_init_186 : decode cX10_init 186 = .ok (.aload_n 0, 1) := by decide +kernel
theorem dX10_init_187 : decode cX10_init 187 = .ok (.bipush 6, 2) := by decide +kernel
theorem dX10_init_189 : decode cX10_init 189 = .ok (.newarray .int, 2) := by decide +kernel
theorem dX10_init_191 : decode cX10_init 191 = .ok (.putfield 83, 3) := by decide +kernel
theorem dX10_init_194 : decode cX10_init 194 = .ok (.aload_n 0, 1) := by decide +kernel
theorem dX10_init_195 : decode cX10_init 195 = .ok (.bipush 6, 2) := by decide +kernel
theorem dX10_init_197 : decode cX10_init 197 = .ok (.newarray .int, 2) := by decide +kernel
theorem dX10_init_199 : decode cX10_init 199 = .ok (.putfield 86, 3) := by decide +kernel
theorem dX10_init_202 : decode cX10_init 202 = .ok (.aload_n 0, 1) := by decide +kernel
theorem dX10_init_203 : decode cX10_init 203 = .ok (.bipush 6, 2) := by decide +kernel
theorem dX10_init_205 : decode cX10_init 205 = .ok (.newarray .int, 2) := by decide +kernel
theorem dX10_init_207 : decode cX10_init 207 = .ok (.putfield 89, 3) := by decide +kernel
theorem dX10_init_210 : decode cX10_init 210 = .ok (.aload_n 0, 1) := by decide +kernel
theorem dX10_init_211 : decode cX10_init 211 = .ok (.bipush 6, 2) := by decide +kernel
theorem dX10_init_213 : decode cX10_init 213 = .ok (.newarray .int, 2) := by decide +kernel
theorem dX10_init_215 : decode cX10_init 215 = .ok (.putfield 92, 3) := by decide +kernel
theorem dX10_init_218 : decode cX10_init 218 = .ok (.aload_n 0, 1) := by decide +kernel
theorem dX10_init_219 : decode cX10_init 219 = .ok (.bipush 6, 2) := by decide +kernel
theorem dX10_init_221 : decode cX10_init 221 = .ok (.newarray .int, 2) := by decide +kernel
theorem dX10_init_223 : decode cX10_init 223 = .ok (.putfield 95, 3) := by decide +kernel
theorem dX10_init_226 : decode cX10_init 226 = .ok (.aload_n 0, 1) := by decide +kernel
theorem dX10_init_227 : decode cX10_init 227 = .ok (.bipush 6, 2) := by decide +kernel
theorem dX10_init_229 : decode cX10_init 229 = .ok (.newarray .int, 2) := by decide +kernel
theorem dX10_init_231 : decode cX10_init 231 = .ok (.putfield 98, 3) := by decide +kernel
theorem dX10_init_234 : decode cX10_init 234 = .ok (.return_, 1) := by decide +kernel
theorem dX10_within_0 : decode cX10_within 0 = .ok (.iload_n 0, 1) := by decide +kernel
theorem dX10_within_1 : decode cX10_within 1 = .ok (.iload_n 1, 1) := by decide +kernel
theorem dX10_within_2 : decode cX10_within 2 = .ok (.if_icmp .lt 12, 3) := by decide +kernel
theorem dX10_within_5 : decode cX10_within 5 = .ok (.iload_n 0, 1) := by decide +kernel
theorem dX10_within_6 : decode cX10_within 6 = .ok (.iload_n 2, 1) := by decide +kernel
theorem dX10_within_7 : decode cX10_within 7 = .ok (.if_icmp .gt 7, 3) := by decide +kernel
theorem dX10_within_10 : decode cX10_within 10 = .ok (.iconst 1, 1) := by decide +kernel
theorem dX10_within_11 : decode cX10_within 11 = .ok (.goto 4, 3) := by decide +kernel
theorem dX10_within_14 : decode cX10_within 14 = .ok (.iconst 0, 1) := by decide +kernel
theorem dX10_within_15 : decode cX10_within 15 = .ok (.ireturn, 1) := by decide +kernel
theorem dX10_isIn_0 : decode cX10_isIn 0 = .ok (.iload_n 0, 1) := by decide +kernel
theorem dX10_isIn_1 : decode cX10_isIn 1 = .ok (.iload_n 1, 1) := by decide +kernel
theorem dX10_isIn_2 : decode cX10_isIn 2 = .ok (.ishr, 1) := by decide +kernel
theorem dX10_isIn_3 : decode cX10_isIn 3 = .ok (.iconst 1, 1) := by decide +kernel
theorem dX10_isIn_4 : decode cX10_isIn 4 = .ok (.iand, 1) := by decide +kernel
theorem dX10_isIn_5 : decode cX10_isIn 5 = .ok (.iconst 1, 1) := by decide +kernel
theorem dX10_isIn_6 : decode cX10_isIn 6 = .ok (.if_icmp .ne 7, 3) := by decide +kernel
theorem dX10_isIn_9 : decode cX10_isIn 9 = .ok (.iconst 1, 1) := by decide +kernel
theorem dX10_isIn_10 : decode cX10_isIn 10 = .ok (.goto 4, 3) := by decide +kernel
