theorem dX10_askOf_13 : decode cX10_askOf 13 = .ok (.istore 5, 2) := by decide +kernel
theorem dX10_askOf_15 : decode cX10_askOf 15 = .ok (.iload 5, 2) := by decide +kernel
theorem dX10_askOf_17 : decode cX10_askOf 17 = .ok (.iconst 4, 1) := by decide +kernel
theorem dX10_askOf_18 : decode cX10_askOf 18 = .ok (.if_icmp .ge 115, 3) := by decide +kernel
theorem dX10_askOf_21 : decode cX10_askOf 21 = .ok (.iload_n 2, 1) := by decide +kernel
theorem dX10_askOf_22 : decode cX10_askOf 22 = .ok (.ifCond .eq 111, 3) := by decide +kernel
theorem dX10_askOf_25 : decode cX10_askOf 25 = .ok (.iconst 0, 1) := by decide +kernel
theorem dX10_askOf_26 : decode cX10_askOf 26 = .ok (.istore 6, 2) := by decide +kernel
theorem dX10_askOf_28 : decode cX10_askOf 28 = .ok (.iconst 0, 1) := by decide +kernel
theorem dX10_askOf_29 : decode cX10_askOf 29 = .ok (.istore 7, 2) := by decide +kernel
theorem dX10_askOf_31 : decode cX10_askOf 31 = .ok (.iload 7, 2) := by decide +kernel
theorem dX10_askOf_33 : decode cX10_askOf 33 = .ok (.iconst 4, 1) := by decide +kernel
theorem dX10_askOf_34 : decode cX10_askOf 34 = .ok (.if_icmp .gt 38, 3) := by decide +kernel
theorem dX10_askOf_37 : decode cX10_askOf 37 = .ok (.iload 6, 2) := by decide +kernel
theorem dX10_askOf_39 : decode cX10_askOf 39 = .ok (.iload_n 2, 1) := by decide +kernel
theorem dX10_askOf_40 : decode cX10_askOf 40 = .ok (.iload 7, 2) := by decide +kernel
theorem dX10_askOf_42 : decode cX10_askOf 42 = .ok (.invokestatic 184, 3) := by decide +kernel
theorem dX10_askOf_45 : decode cX10_askOf 45 = .ok (.ifCond .eq 17, 3) := by decide +kernel
theorem dX10_askOf_48 : decode cX10_askOf 48 = .ok (.iload 7, 2) := by decide +kernel
theorem dX10_askOf_50 : decode cX10_askOf 50 = .ok (.iload 5, 2) := by decide +kernel
theorem dX10_askOf_52 : decode cX10_askOf 52 = .ok (.invokestatic 274, 3) := by decide +kernel
theorem dX10_askOf_55 : decode cX10_askOf 55 = .ok (.ifCond .eq 7, 3) := by decide +kernel
theorem dX10_askOf_58 : decode cX10_askOf 58 = .ok (.iconst 1, 1) := by decide +kernel
theorem dX10_askOf_59 : decode cX10_askOf 59 = .ok (.goto 4, 3) := by decide +kernel
theorem dX10_askOf_62 : decode cX10_askOf 62 = .ok (.iconst 0, 1) := by decide +kernel
theorem dX10_askOf_63 : decode cX10_askOf 63 = .ok (.iadd, 1) := by decide +kernel
theorem dX10_askOf_64 : decode cX10_askOf 64 = .ok (.istore 6, 2) := by decide +kernel
theorem dX10_askOf_66 : decode cX10_askOf 66 = .ok (.iinc 7 1, 3) := by decide +kernel
theorem dX10_askOf_69 : decode cX10_askOf 69 = .ok (.goto (-38), 3) := by decide +kernel
theorem dX10_askOf_72 : decode cX10_askOf 72 = .ok (.iload_n 2, 1) := by decide +kernel
theorem dX10_askOf_73 : decode cX10_askOf 73 = .ok (.invokestatic 243, 3) := by decide +kernel
theorem dX10_askOf_76 : decode cX10_askOf 76 = .ok (.iload 6, 2) := by decide +kernel
theorem dX10_askOf_78 : decode cX10_askOf 78 = .ok (.isub, 1) := by decide +kernel
theorem dX10_askOf_79 : decode cX10_askOf 79 = .ok (.istore 7, 2) := by decide +kernel
theorem dX10_askOf_81 : decode cX10_askOf 81 = .ok (.iload 6, 2) := by decide +kernel
theorem dX10_askOf_83 : decode cX10_askOf 83 = .ok (.iload 7, 2) := by decide +kernel
theorem dX10_askOf_85 : decode cX10_askOf 85 = .ok (.if_icmp .le 8, 3) := by decide +kernel
theorem dX10_askOf_88 : decode cX10_askOf 88 = .ok (.iload 6, 2) := by decide +kernel
theorem dX10_askOf_90 : decode cX10_askOf 90 = .ok (.goto 5, 3) := by decide +kernel
theorem dX10_askOf_93 : decode cX10_askOf 93 = .ok (.iload 7, 2) := by decide +kernel
theorem dX10_askOf_95 : decode cX10_askOf 95 = .ok (.istore 8, 2) := by decide +kernel
theorem dX10_askOf_97 : decode cX10_askOf 97 = .ok (.iload 8, 2) := by decide +kernel
theorem dX10_askOf_99 : decode cX10_askOf 99 = .ok (.iload 4, 2) := by decide +kernel
theorem dX10_askOf_101 : decode cX10_askOf 101 = .ok (.if_icmp .ge 8, 3) := by decide +kernel
theorem dX10_askOf_104 : decode cX10_askOf 104 = .ok (.iload 5, 2) := by decide +kernel
theorem dX10_askOf_106 : decode cX10_askOf 106 = .ok (.goto 4, 3) := by decide +kernel
theorem dX10_askOf_109 : decode cX10_askOf 109 = .ok (.iload_n 3, 1) := by decide +kernel
theorem dX10_askOf_110 : decode cX10_askOf 110 = .ok (.istore_n 3, 1) := by decide +kernel
theorem dX10_askOf_111 : decode cX10_askOf 111 = .ok (.iload 8, 2) := by decide +kernel
theorem dX10_askOf_113 : decode cX10_askOf 113 = .ok (.iload 4, 2) := by decide +kernel
theorem dX10_askOf_115 : decode cX10_askOf 115 = .ok (.if_icmp .ge 8, 3) := by decide +kernel
theorem dX10_askOf_118 : decode cX10_askOf 118 = .ok (.iload 8, 2) := by decide +kernel
theorem dX10_askOf_120 : decode cX10_askOf 120 = .ok (.goto 5, 3) := by decide +kernel
theorem dX10_askOf_123 : decode cX10_askOf 123 = .ok (.iload 4, 2) := by decide +kernel
theorem dX10_askOf_125 : decode cX10_askOf 125 = .ok (.istore 4, 2) := by decide +kernel
theorem dX10_askOf_127 : decode cX10_askOf 127 = .ok (.iinc 5 1, 3) := by decide +kernel
theorem dX10_askOf_130 : decode cX10_askOf 130 = .ok (.goto (-115), 3) := by decide +kernel
theorem dX10_askOf_133 : decode cX10_askOf 133 = .ok (.iload_n 3, 1) := by decide +kernel
theorem dX10_askOf_134 : decode cX10_askOf 134 = .ok (.ireturn, 1) := by decide +kernel
theorem dX10_draw_0 : decode cX10_draw 0 = .ok (.aload_n 0, 1) := by decide +kernel
theorem dX10_draw_1 : decode cX10_draw 1 = .ok (.ldc2_w 277, 3) := by decide +kernel
theorem dX10_draw_4 : decode cX10_draw 4 = .ok (.aload_n 0, 1) := by decide +kernel
theorem dX10_draw_5 : decode cX10_draw 5 = .ok (.getfield 279, 3) := by decide +kernel
theorem dX10_draw_8 : decode cX10_draw 8 = .ok (.lmul, 1) := by decide +kernel
theorem dX10_draw_9 : decode cX10_draw 9 = .ok (.ldc2_w 283, 3) := by decide +kernel
theorem dX10_draw_12 : decode cX10_draw 12 = .ok (.ladd, 1) := by decide +kernel
theorem dX10_draw_13 : decode cX10_draw 13 = .ok (.ldc2_w 285, 3) := by decide +kernel
theorem dX10_draw_16 : decode cX10_draw 16 = .ok (.land, 1) := by decide +kernel
theorem dX10_draw_17 : decode cX10_draw 17 = .ok (.putfield 279, 3) := by decide +kernel
theorem dX10_draw_20 : decode cX10_draw 20 = .ok (.aload_n 0, 1) := by decide +kernel
theorem dX10_draw_21 : decode cX10_draw 21 = .ok (.getfield 279, 3) := by decide +kernel
theorem dX10_draw_24 : decode cX10_draw 24 = .ok (.ldc2_w 287, 3) := by decide +kernel
theorem dX10_draw_27 : decode cX10_draw 27 = .ok (.ldiv, 1) := by decide +kernel
theorem dX10_draw_28 : decode cX10_draw 28 = .ok (.iload_n 1, 1) := by decide +kernel
theorem dX10_draw_29 : decode cX10_draw 29 = .ok (.i2l, 1) := by decide +kernel
theorem dX10_draw_30 : decode cX10_draw 30 = .ok (.lrem, 1) := by decide +kernel
theorem dX10_draw_31 : decode cX10_draw 31 = .ok (.l2i, 1) := by decide +kernel
theorem dX10_draw_32 : decode cX10_draw 32 = .ok (.ireturn, 1) := by decide +kernel
theorem dX10_drawnNow_0 : decode cX10_drawnNow 0 = .ok (.aload_n 0, 1) := by decide +kernel
theorem dX10_drawnNow_1 : decode cX10_drawnNow 1 = .ok (.invokevirtual 224, 3) := by decide +kernel
theorem dX10_drawnNow_4 : decode cX10_drawnNow 4 = .ok (.aload_n 0, 1) := by decide +kernel
theorem dX10_drawnNow_5 : decode cX10_drawnNow 5 = .ok (.iload_n 2, 1) := by decide +kernel
theorem dX10_drawnNow_6 : decode cX10_drawnNow 6 = .ok (.i2l, 1) := by decide +kernel
theorem dX10_drawnNow_7 : decode cX10_drawnNow 7 = .ok (.putfield 279, 3) := by decide +kernel
theorem dX10_drawnNow_10 : decode cX10_drawnNow 10 = .ok (.iconst 0, 1) := by decide +kernel
theorem dX10_drawnNow_11 : decode cX10_drawnNow 11 = .ok (.istore 4, 2) := by decide +kernel
theorem dX10_drawnNow_13 : decode cX10_drawnNow 13 = .ok (.iconst 0, 1) := by decide +kernel
theorem dX10_drawnNow_14 : decode cX10_drawnNow 14 = .ok (.istore 5, 2) := by decide +kernel
theorem dX10_drawnNow_16 : decode cX10_drawnNow 16 = .ok (.iload 5, 2) := by decide +kernel
theorem dX10_drawnNow_18 : decode cX10_drawnNow 18 = .ok (.iload_n 1, 1) := by decide +kernel
theorem dX10_drawnNow_19 : decode cX10_drawnNow 19 = .ok (.if_icmp .ge 56, 3) := by decide +kernel
theorem dX10_drawnNow_22 : decode cX10_drawnNow 22 = .ok (.aload_n 0, 1) := by decide +kernel
theorem dX10_drawnNow_23 : decode cX10_drawnNow 23 = .ok (.aload_n 0, 1) := by decide +kernel
theorem dX10_drawnNow_24 : decode cX10_drawnNow 24 = .ok (.getfield 157, 3) := by decide +kernel
theorem dX10_drawnNow_27 : decode cX10_drawnNow 27 = .ok (.invokevirtual 289, 3) := by decide +kernel
theorem dX10_drawnNow_30 : decode cX10_drawnNow 30 = .ok (.istore 6, 2) := by decide +kernel
theorem dX10_drawnNow_32 : decode cX10_drawnNow 32 = .ok (.aload_n 0, 1) := by decide +kernel
theorem dX10_drawnNow_33 : decode cX10_drawnNow 33 = .ok (.bipush 6, 2) := by decide +kernel
theorem dX10_drawnNow_35 : decode cX10_drawnNow 35 = .ok (.invokevirtual 289, 3) := by decide +kernel
theorem dX10_drawnNow_38 : decode cX10_drawnNow 38 = .ok (.istore 7, 2) := by decide +kernel
theorem dX10_drawnNow_40 : decode cX10_drawnNow 40 = .ok (.iload 4, 2) := by decide +kernel
theorem dX10_drawnNow_42 : decode cX10_drawnNow 42 = .ok (.aload_n 0, 1) := by decide +kernel
theorem dX10_drawnNow_43 : decode cX10_drawnNow 43 = .ok (.iload 6, 2) := by decide +kernel
theorem dX10_drawnNow_45 : decode cX10_drawnNow 45 = .ok (.iconst 4, 1) := by decide +kernel
theorem dX10_drawnNow_46 : decode cX10_drawnNow 46 = .ok (.iload 7, 2) := by decide +kernel
theorem dX10_drawnNow_48 : decode cX10_drawnNow 48 = .ok (.imul, 1) := by decide +kernel
theorem dX10_drawnNow_49 : decode cX10_drawnNow 49 = .ok (.aload_n 0, 1) := by decide +kernel
theorem dX10_drawnNow_50 : decode cX10_drawnNow 50 = .ok (.iconst 4, 1) := by decide +kernel
theorem dX10_drawnNow_51 : decode cX10_drawnNow 51 = .ok (.invokevirtual 289, 3) := by decide +kernel
theorem dX10_drawnNow_54 : decode cX10_drawnNow 54 = .ok (.iadd, 1) := by decide +kernel
theorem dX10_drawnNow_55 : decode cX10_drawnNow 55 = .ok (.invokevirtual 221, 3) := by decide +kernel
theorem dX10_drawnNow_58 : decode cX10_drawnNow 58 = .ok (.ifCond .eq 7, 3) := by decide +kernel
theorem dX10_drawnNow_61 : decode cX10_drawnNow 61 = .ok (.iconst 1, 1) := by decide +kernel
theorem dX10_drawnNow_62 : decode cX10_drawnNow 62 = .ok (.goto 4, 3) := by decide +kernel
theorem dX10_drawnNow_65 : decode cX10_drawnNow 65 = .ok (.iconst 0, 1) := by decide +kernel
theorem dX10_drawnNow_66 : decode cX10_drawnNow 66 = .ok (.iadd, 1) := by decide +kernel
theorem dX10_drawnNow_67 : decode cX10_drawnNow 67 = .ok (.istore 4, 2) := by decide +kernel
theorem dX10_drawnNow_69 : decode cX10_drawnNow 69 = .ok (.iinc 5 1, 3) := by decide +kernel
theorem dX10_drawnNow_72 : decode cX10_drawnNow 72 = .ok (.goto (-56), 3) := by decide +kernel
theorem dX10_drawnNow_75 : decode cX10_drawnNow 75 = .ok (.iload_n 3, 1) := by decide +kernel
theorem dX10_drawnNow_76 : decode cX10_drawnNow 76 = .ok (.ifCond .ne 8, 3) := by decide +kernel
theorem dX10_drawnNow_79 : decode cX10_drawnNow 79 = .ok (.iload 4, 2) := by decide +kernel
theorem dX10_drawnNow_81 : decode cX10_drawnNow 81 = .ok (.goto 24, 3) := by decide +kernel
theorem dX10_drawnNow_84 : decode cX10_drawnNow 84 = .ok (.iload_n 3, 1) := by decide +kernel
theorem dX10_drawnNow_85 : decode cX10_drawnNow 85 = .ok (.iconst 1, 1) := by decide +kernel
theorem dX10_drawnNow_86 : decode cX10_drawnNow 86 = .ok (.if_icmp .ne 14, 3) := by decide +kernel
theorem dX10_drawnNow_89 : decode cX10_drawnNow 89 = .ok (.aload_n 0, 1) := by decide +kernel
theorem dX10_drawnNow_90 : decode cX10_drawnNow 90 = .ok (.aload_n 0, 1) := by decide +kernel
theorem dX10_drawnNow_91 : decode cX10_drawnNow 91 = .ok (.invokevirtual 202, 3) := by decide +kernel
theorem dX10_drawnNow_94 : decode cX10_drawnNow 94 = .ok (.invokevirtual 252, 3) := by decide +kernel
theorem dX10_drawnNow_97 : decode cX10_drawnNow 97 = .ok (.goto 8, 3) := by decide +kernel
theorem dX10_drawnNow_100 : decode cX10_drawnNow 100 = .ok (.aload_n 0, 1) := by decide +kernel
theorem dX10_drawnNow_101 : decode cX10_drawnNow 101 = .ok (.getfield 279, 3) := by decide +kernel
theorem dX10_drawnNow_104 : decode cX10_drawnNow 104 = .ok (.l2i, 1) := by decide +kernel
theorem dX10_drawnNow_105 : decode cX10_drawnNow 105 = .ok (.istore 5, 2) := by decide +kernel
theorem dX10_drawnNow_107 : decode cX10_drawnNow 107 = .ok (.aload_n 0, 1) := by decide +kernel
theorem dX10_drawnNow_108 : decode cX10_drawnNow 108 = .ok (.invokevirtual 227, 3) := by decide +kernel
theorem dX10_drawnNow_111 : decode cX10_drawnNow 111 = .ok (.iload 5, 2) := by decide +kernel
theorem dX10_drawnNow_113 : decode cX10_drawnNow 113 = .ok (.ireturn, 1) := by decide +kernel
theorem dX10_drawn_0 : decode cX10_drawn 0 = .ok (.iload_n 1, 1) := by decide +kernel
theorem dX10_drawn_1 : decode cX10_drawn 1 = .ok (.iconst 1, 1) := by decide +kernel
theorem dX10_drawn_2 : decode cX10_drawn 2 = .ok (.bipush 60, 2) := by decide +kernel
theorem dX10_drawn_4 : decode cX10_drawn 4 = .ok (.invokestatic 101, 3) := by decide +kernel
theorem dX10_drawn_7 : decode cX10_drawn 7 = .ok (.ifCond .eq 16, 3) := by decide +kernel
theorem dX10_drawn_10 : decode cX10_drawn 10 = .ok (.iload_n 2, 1) := by decide +kernel
theorem dX10_drawn_11 : decode cX10_drawn 11 = .ok (.ifCond .lt 12, 3) := by decide +kernel
theorem dX10_drawn_14 : decode cX10_drawn 14 = .ok (.iload_n 3, 1) := by decide +kernel
theorem dX10_drawn_15 : decode cX10_drawn 15 = .ok (.iconst 0, 1) := by decide +kernel
theorem dX10_drawn_16 : decode cX10_drawn 16 = .ok (.iconst 2, 1) := by decide +kernel
theorem dX10_drawn_17 : decode cX10_drawn 17 = .ok (.invokestatic 101, 3) := by decide +kernel
theorem dX10_drawn_20 : decode cX10_drawn 20 = .ok (.ifCond .ne 6, 3) := by decide +kernel
theorem dX10_drawn_23 : decode cX10_drawn 23 = .ok (.bipush (-102), 2) := by decide +kernel
theorem dX10_drawn_25 : decode cX10_drawn 25 = .ok (.ireturn, 1) := by decide +kernel
theorem dX10_drawn_26 : decode cX10_drawn 26 = .ok (.aload_n 0, 1) := by decide +kernel
theorem dX10_drawn_27 : decode cX10_drawn 27 = .ok (.getfield 169, 3) := by decide +kernel
theorem dX10_drawn_30 : decode cX10_drawn 30 = .ok (.ifCond .ne 8, 3) := by decide +kernel
theorem dX10_drawn_33 : decode cX10_drawn 33 = .ok (.bipush (-103), 2) := by decide +kernel
theorem dX10_drawn_35 : decode cX10_drawn 35 = .ok (.goto 10, 3) := by decide +kernel
theorem dX10_drawn_38 : decode cX10_drawn 38 = .ok (.aload_n 0, 1) := by decide +kernel
theorem dX10_drawn_39 : decode cX10_drawn 39 = .ok (.iload_n 1, 1) := by decide +kernel
theorem dX10_drawn_40 : decode cX10_drawn 40 = .ok (.iload_n 2, 1) := by decide +kernel
theorem dX10_drawn_41 : decode cX10_drawn 41 = .ok (.iload_n 3, 1) := by decide +kernel
theorem dX10_drawn_42 : decode cX10_drawn 42 = .ok (.invokevirtual 292, 3) := by decide +kernel
theorem dX10_drawn_45 : decode cX10_drawn 45 = .ok (.ireturn, 1) := by decide +kernel
theorem dX10_image_0 : decode cX10_image 0 = .ok (.aload_n 0, 1) := by decide +kernel
theorem dX10_image_1 : decode cX10_image 1 = .ok (.getfield 169, 3) := by decide +kernel
theorem dX10_image_4 : decode cX10_image 4 = .ok (.ifCond .ne 6, 3) := by decide +kernel
theorem dX10_image_7 : decode cX10_image 7 = .ok (.bipush (-103), 2) := by decide +kernel
theorem dX10_image_9 : decode cX10_image 9 = .ok (.ireturn, 1) := by decide +kernel
theorem dX10_image_10 : decode cX10_image 10 = .ok (.aload_n 0, 1) := by decide +kernel
theorem dX10_image_11 : decode cX10_image 11 = .ok (.iconst 1, 1) := by decide +kernel
theorem dX10_image_12 : decode cX10_image 12 = .ok (.putfield 296, 3) := by decide +kernel
theorem dX10_image_15 : decode cX10_image 15 = .ok (.aload_n 0, 1) := by decide +kernel
theorem dX10_image_16 : decode cX10_image 16 = .ok (.aload_n 0, 1) := by decide +kernel
theorem dX10_image_17 : decode cX10_image 17 = .ok (.getfield 169, 3) := by decide +kernel
theorem dX10_image_20 : decode cX10_image 20 = .ok (.putfield 299, 3) := by decide +kernel
theorem dX10_image_23 : decode cX10_image 23 = .ok (.aload_n 0, 1) := by decide +kernel
theorem dX10_image_24 : decode cX10_image 24 = .ok (.aload_n 0, 1) := by decide +kernel
theorem dX10_image_25 : decode cX10_image 25 = .ok (.getfield 163, 3) := by decide +kernel
theorem dX10_image_28 : decode cX10_image 28 = .ok (.putfield 302, 3) := by decide +kernel
theorem dX10_image_31 : decode cX10_image 31 = .ok (.aload_n 0, 1) := by decide +kernel
theorem dX10_image_32 : decode cX10_image 32 = .ok (.aload_n 0, 1) := by decide +kernel
theorem dX10_image_33 : decode cX10_image 33 = .ok (.getfield 166, 3) := by decide +kernel
theorem dX10_image_36 : decode cX10_image 36 = .ok (.putfield 305, 3) := by decide +kernel
theorem dX10_image_39 : decode cX10_image 39 = .ok (.aload_n 0, 1) := by decide +kernel
theorem dX10_image_40 : decode cX10_image 40 = .ok (.aload_n 0, 1) := by decide +kernel
theorem dX10_image_41 : decode cX10_image 41 = .ok (.getfield 172, 3) := by decide +kernel
theorem dX10_image_44 : decode cX10_image 44 = .ok (.putfield 308, 3) := by decide +kernel
theorem dX10_image_47 : decode cX10_image 47 = .ok (.iconst 0, 1) := by decide +kernel
theorem dX10_image_48 : decode cX10_image 48 = .ok (.istore_n 1, 1) := by decide +kernel
theorem dX10_image_49 : decode cX10_image 49 = .ok (.iload_n 1, 1) := by decide +kernel
theorem dX10_image_50 : decode cX10_image 50 = .ok (.iconst 5, 1) := by decide +kernel
theorem dX10_image_51 : decode cX10_image 51 = .ok (.if_icmp .ge 33, 3) := by decide +kernel
theorem dX10_image_54 : decode cX10_image 54 = .ok (.aload_n 0, 1) := by decide +kernel
theorem dX10_image_55 : decode cX10_image 55 = .ok (.getfield 74, 3) := by decide +kernel
theorem dX10_image_58 : decode cX10_image 58 = .ok (.iload_n 1, 1) := by decide +kernel
theorem dX10_image_59 : decode cX10_image 59 = .ok (.aload_n 0, 1) := by decide +kernel
theorem dX10_image_60 : decode cX10_image 60 = .ok (.getfield 7, 3) := by decide +kernel
theorem dX10_image_63 : decode cX10_image 63 = .ok (.iload_n 1, 1) := by decide +kernel
theorem dX10_image_64 : decode cX10_image 64 = .ok (.iaload, 1) := by decide +kernel
theorem dX10_image_65 : decode cX10_image 65 = .ok (.iastore, 1) := by decide +kernel
theorem dX10_image_66 : decode cX10_image 66 = .ok (.aload_n 0, 1) := by decide +kernel
theorem dX10_image_67 : decode cX10_image 67 = .ok (.getfield 80, 3) := by decide +kernel
theorem dX10_image_70 : decode cX10_image 70 = .ok (.iload_n 1, 1) := by decide +kernel
theorem dX10_image_71 : decode cX10_image 71 = .ok (.aload_n 0, 1) := by decide +kernel
theorem dX10_image_72 : decode cX10_image 72 = .ok (.getfield 16, 3) := by decide +kernel
theorem dX10_image_75 : decode cX10_image 75 = .ok (.iload_n 1, 1) := by decide +kernel
theorem dX10_image_76 : decode cX10_image 76 = .ok (.iaload, 1) := by decide +kernel
theorem dX10_image_77 : decode cX10_image 77 = .ok (.iastore, 1) := by decide +kernel
theorem dX10_image_78 : decode cX10_image 78 = .ok (.iinc 1 1, 3) := by decide +kernel
theorem dX10_image_81 : decode cX10_image 81 = .ok (.goto (-32), 3) := by decide +kernel
theorem dX10_image_84 : decode cX10_image 84 = .ok (.iconst 0, 1) := by decide +kernel
theorem dX10_image_85 : decode cX10_image 85 = .ok (.istore_n 1, 1) := by decide +kernel
theorem dX10_image_86 : decode cX10_image 86 = .ok (.iload_n 1, 1) := by decide +kernel
theorem dX10_image_87 : decode cX10_image 87 = .ok (.bipush 20, 2) := by decide +kernel
theorem dX10_image_89 : decode cX10_image 89 = .ok (.if_icmp .ge 21, 3) := by decide +kernel
theorem dX10_image_92 : decode cX10_image 92 = .ok (.aload_n 0, 1) := by decide +kernel
theorem dX10_image_93 : decode cX10_image 93 = .ok (.getfield 77, 3) := by decide +kernel
theorem dX10_image_96 : decode cX10_image 96 = .ok (.iload_n 1, 1) := by decide +kernel
theorem dX10_image_97 : decode cX10_image 97 = .ok (.aload_n 0, 1) := by decide +kernel
theorem dX10_image_98 : decode cX10_image 98 = .ok (.getfield 13, 3) := by decide +kernel
theorem dX10_image_101 : decode cX10_image 101 = .ok (.iload_n 1, 1) := by decide +kernel
theorem dX10_image_102 : decode cX10_image 102 = .ok (.iaload, 1) := by decide +kernel
theorem dX10_image_103 : decode cX10_image 103 = .ok (.iastore, 1) := by decide +kernel
theorem dX10_image_104 : decode cX10_image 104 = .ok (.iinc 1 1, 3) := by decide +kernel
theorem dX10_image_107 : decode cX10_image 107 = .ok (.goto (-21), 3) := by decide +kernel
theorem dX10_image_110 : decode cX10_image 110 = .ok (.iconst 0, 1) := by decide +kernel
theorem dX10_image_111 : decode cX10_image 111 = .ok (.istore_n 1, 1) := by decide +kernel
theorem dX10_image_112 : decode cX10_image 112 = .ok (.iload_n 1, 1) := by decide +kernel
theorem dX10_image_113 : decode cX10_image 113 = .ok (.bipush 6, 2) := by decide +kernel
theorem dX10_image_115 : decode cX10_image 115 = .ok (.if_icmp .ge 81, 3) := by decide +kernel
theorem dX10_image_118 : decode cX10_image 118 = .ok (.aload_n 0, 1) := by decide +kernel
theorem dX10_image_119 : decode cX10_image 119 = .ok (.getfield 83, 3) := by decide +kernel
theorem dX10_image_122 : decode cX10_image 122 = .ok (.iload_n 1, 1) := by decide +kernel
theorem dX10_image_123 : decode cX10_image 123 = .ok (.aload_n 0, 1) := by decide +kernel
theorem dX10_image_124 : decode cX10_image 124 = .ok (.getfield 25, 3) := by decide +kernel
theorem dX10_image_127 : decode cX10_image 127 = .ok (.iload_n 1, 1) := by decide +kernel
theorem dX10_image_128 : decode cX10_image 128 = .ok (.iaload, 1) := by decide +kernel
theorem dX10_image_129 : decode cX10_image 129 = .ok (.iastore, 1) := by decide +kernel
theorem dX10_image_130 : decode cX10_image 130 = .ok (.aload_n 0, 1) := by decide +kernel
theorem dX10_image_131 : decode cX10_image 131 = .ok (.getfield 86, 3) := by decide +kernel
theorem dX10_image_134 : decode cX10_image 134 = .ok (.iload_n 1, 1) := by decide +kernel
theorem dX10_image_135 : decode cX10_image 135 = .ok (.aload_n 0, 1) := by decide +kernel
theorem dX10_image_136 : decode cX10_image 136 = .ok (.getfield 28, 3) := by decide +kernel
theorem dX10_image_139 : decode cX10_image 139 = .ok (.iload_n 1, 1) := by decide +kernel
theorem dX10_image_140 : decode cX10_image 140 = .ok (.iaload, 1) := by decide +kernel
theorem dX10_image_141 : decode cX10_image 141 = .ok (.iastore, 1) := by decide +kernel
theorem dX10_image_142 : decode cX10_image 142 = .ok (.aload_n 0, 1) := by decide +kernel
theorem dX10_image_143 : decode cX10_image 143 = .ok (.getfield 89, 3) := by decide +kernel
theorem dX10_image_146 : decode cX10_image 146 = .ok (.iload_n 1, 1) := by decide +kernel
theorem dX10_image_147 : decode cX10_image 147 = .ok (.aload_n 0, 1) := by decide +kernel
theorem dX10_image_148 : decode cX10_image 148 = .ok (.getfield 31, 3) := by decide +kernel
theorem dX10_image_151 : decode cX10_image 151 = .ok (.iload_n 1, 1) := by decide +kernel
theorem dX10_image_152 : decode cX10_image 152 = .ok (.iaload, 1) := by decide +kernel
theorem dX10_image_153 : decode cX10_image 153 = .ok (.iastore, 1) := by decide +kernel
theorem dX10_image_154 : decode cX10_image 154 = .ok (.aload_n 0, 1) := by decide +kernel
theorem dX10_image_155 : decode cX10_image 155 = .ok (.getfield 92, 3) := by decide +kernel
theorem dX10_image_158 : decode cX10_image 158 = .ok (.iload_n 1, 1) := by decide +kernel
theorem dX10_image_159 : decode cX10_image 159 = .ok (.aload_n 0, 1) := by decide +kernel
theorem dX10_image_160 : decode cX10_image 160 = .ok (.getfield 34, 3) := by decide +kernel
theorem dX10_image_163 : decode cX10_image 163 = .ok (.iload_n 1, 1) := by decide +kernel
theorem dX10_image_164 : decode cX10_image 164 = .ok (.iaload, 1) := by decide +kernel
theorem dX10_image_165 : decode cX10_image 165 = .ok (.iastore, 1) := by decide +kernel
theorem dX10_image_166 : decode cX10_image 166 = .ok (.aload_n 0, 1) := by decide +kernel
theorem dX10_image_167 : decode cX10_image 167 = .ok (.getfield 95, 3) := by decide +kernel
theorem dX10_image_170 : decode cX10_image 170 = .ok (.iload_n 1, 1) := by decide +kernel
theorem dX10_image_171 : decode cX10_image 171 = .ok (.aload_n 0, 1) := by decide +kernel
theorem dX10_image_172 : decode cX10_image 172 = .ok (.getfield 37, 3) := by decide +kernel
theorem dX10_image_175 : decode cX10_image 175 = .ok (.iload_n 1, 1) := by decide +kernel
theorem dX10_image_176 : decode cX10_image 176 = .ok (.iaload, 1) := by decide +kernel
theorem dX10_image_177 : decode cX10_image 177 = .ok (.iastore, 1) := by decide +kernel
theorem dX10_image_178 : decode cX10_image 178 = .ok (.aload_n 0, 1) := by decide +kernel
theorem dX10_image_179 : decode cX10_image 179 = .ok (.getfield 98, 3) := by decide +kernel
theorem dX10_image_182 : decode cX10_image 182 = .ok (.iload_n 1, 1) := by decide +kernel
theorem dX10_image_183 : decode cX10_image 183 = .ok (.aload_n 0, 1) := by decide +kernel
theorem dX10_image_184 : decode cX10_image 184 = .ok (.getfield 40, 3) := by decide +kernel
theorem dX10_image_187 : decode cX10_image 187 = .ok (.iload_n 1, 1) := by decide +kernel
theorem dX10_image_188 : decode cX10_image 188 = .ok (.iaload, 1) := by decide +kernel
theorem dX10_image_189 : decode cX10_image 189 = .ok (.iastore, 1) := by decide +kernel
theorem dX10_image_190 : decode cX10_image 190 = .ok (.iinc 1 1, 3) := by decide +kernel
theorem dX10_image_193 : decode cX10_image 193 = .ok (.goto (-81), 3) := by decide +kernel
theorem dX10_image_196 : decode cX10_image 196 = .ok (.aload_n 0, 1) := by decide +kernel
theorem dX10_image_197 : decode cX10_image 197 = .ok (.getfield 166, 3) := by decide +kernel
theorem dX10_image_200 : decode cX10_image 200 = .ok (.ireturn, 1) := by decide +kernel
theorem dX10_restore_0 : decode cX10_restore 0 = .ok (.aload_n 0, 1) := by decide +kernel
theorem dX10_restore_1 : decode cX10_restore 1 = .ok (.getfield 296, 3) := by decide +kernel
theorem dX10_restore_4 : decode cX10_restore 4 = .ok (.ifCond .eq 14, 3) := by decide +kernel
theorem dX10_restore_7 : decode cX10_restore 7 = .ok (.aload_n 0, 1) := by decide +kernel
theorem dX10_restore_8 : decode cX10_restore 8 = .ok (.getfield 299, 3) := by decide +kernel
theorem dX10_restore_11 : decode cX10_restore 11 = .ok (.aload_n 0, 1) := by decide +kernel
theorem dX10_restore_12 : decode cX10_restore 12 = .ok (.getfield 169, 3) := by decide +kernel
theorem dX10_restore_15 : decode cX10_restore 15 = .ok (.if_icmp .eq 6, 3) := by decide +kernel
theorem dX10_restore_18 : decode cX10_restore 18 = .ok (.bipush (-103), 2) := by decide +kernel
theorem dX10_restore_20 : decode cX10_restore 20 = .ok (.ireturn, 1) := by decide +kernel
theorem dX10_restore_21 : decode cX10_restore 21 = .ok (.aload_n 0, 1) := by decide +kernel
theorem dX10_restore_22 : decode cX10_restore 22 = .ok (.aload_n 0, 1) := by decide +kernel
theorem dX10_restore_23 : decode cX10_restore 23 = .ok (.getfield 302, 3) := by decide +kernel
theorem dX10_restore_26 : decode cX10_restore 26 = .ok (.putfield 163, 3) := by decide +kernel
theorem dX10_restore_29 : decode cX10_restore 29 = .ok (.aload_n 0, 1) := by decide +kernel
theorem dX10_restore_30 : decode cX10_restore 30 = .ok (.aload_n 0, 1) := by decide +kernel
theorem dX10_restore_31 : decode cX10_restore 31 = .ok (.getfield 305, 3) := by decide +kernel
theorem dX10_restore_34 : decode cX10_restore 34 = .ok (.putfield 166, 3) := by decide +kernel
theorem dX10_restore_37 : decode cX10_restore 37 = .ok (.aload_n 0, 1) := by decide +kernel
theorem dX10_restore_38 : decode cX10_restore 38 = .ok (.aload_n 0, 1) := by decide +kernel
theorem dX10_restore_39 : decode cX10_restore 39 = .ok (.getfield 308, 3) := by decide +kernel
theorem dX10_restore_42 : decode cX10_restore 42 = .ok (.putfield 172, 3) := by decide +kernel
theorem dX10_restore_45 : decode cX10_restore 45 = .ok (.iconst 0, 1) := by decide +kernel
theorem dX10_restore_46 : decode cX10_restore 46 = .ok (.istore_n 1, 1) := by decide +kernel
theorem dX10_restore_47 : decode cX10_restore 47 = .ok (.iload_n 1, 1) := by decide +kernel
theorem dX10_restore_48 : decode cX10_restore 48 = .ok (.iconst 5, 1) := by decide +kernel
theorem dX10_restore_49 : decode cX10_restore 49 = .ok (.if_icmp .ge 33, 3) := by decide +kernel
theorem dX10_restore_52 : decode cX10_restore 52 = .ok (.aload_n 0, 1) := by decide +kernel
theorem dX10_restore_53 : decode cX10_restore 53 = .ok (.getfield 7, 3) := by decide +kernel
theorem dX10_restore_56 : decode cX10_restore 56 = .ok (.iload_n 1, 1) := by decide +kernel
theorem dX10_restore_57 : decode cX10_restore 57 = .ok (.aload_n 0, 1) := by decide +kernel
theorem dX10_restore_58 : decode cX10_restore 58 = .ok (.getfield 74, 3) := by decide +kernel
theorem dX10_restore_61 : decode cX10_restore 61 = .ok (.iload_n 1, 1) := by decide +kernel
theorem dX10_restore_62 : decode cX10_restore 62 = .ok (.iaload, 1) := by decide +kernel
theorem dX10_restore_63 : decode cX10_restore 63 = .ok (.iastore, 1) := by decide +kernel
theorem dX10_restore_64 : decode cX10_restore 64 = .ok (.aload_n 0, 1) := by decide +kernel
theorem dX10_restore_65 : decode cX10_restore 65 = .ok (.getfield 16, 3) := by decide +kernel
theorem dX10_restore_68 : decode cX10_restore 68 = .ok (.iload_n 1, 1) := by decide +kernel
theorem dX10_restore_69 : decode cX10_restore 69 = .ok (.aload_n 0, 1) := by decide +kernel
theorem dX10_restore_70 : decode cX10_restore 70 = .ok (.getfield 80, 3) := by decide +kernel
theorem dX10_restore_73 : decode cX10_restore 73 = .ok (.iload_n 1, 1) := by decide +kernel
theorem dX10_restore_74 : decode cX10_restore 74 = .ok (.iaload, 1) := by decide +kernel
theorem dX10_restore_75 : decode cX10_restore 75 = .ok (.iastore, 1) := by decide +kernel
theorem dX10_restore_76 : decode cX10_restore 76 = .ok (.iinc 1 1, 3) := by decide +kernel
theorem dX10_restore_79 : decode cX10_restore 79 = .ok (.goto (-32), 3) := by decide +kernel
theorem dX10_restore_82 : decode cX10_restore 82 = .ok (.iconst 0, 1) := by decide +kernel
theorem dX10_restore_83 : decode cX10_restore 83 = .ok (.istore_n 1, 1) := by decide +kernel
theorem dX10_restore_84 : decode cX10_restore 84 = .ok (.iload_n 1, 1) := by decide +kernel
theorem dX10_restore_85 : decode cX10_restore 85 = .ok (.bipush 20, 2) := by decide +kernel
theorem dX10_restore_87 : decode cX10_restore 87 = .ok (.if_icmp .ge 21, 3) := by decide +kernel
theorem dX10_restore_90 : decode cX10_restore 90 = .ok (.aload_n 0, 1) := by decide +kernel
theorem dX10_restore_91 : decode cX10_restore 91 = .ok (.getfield 13, 3) := by decide +kernel
theorem dX10_restore_94 : decode cX10_restore 94 = .ok (.iload_n 1, 1) := by decide +kernel
theorem dX10_restore_95 : decode cX10_restore 95 = .ok (.aload_n 0, 1) := by decide +kernel
theorem dX10_restore_96 : decode cX10_restore 96 = .ok (.getfield 77, 3) := by decide +kernel
theorem dX10_restore_99 : decode cX10_restore 99 = .ok (.iload_n 1, 1) := by decide +kernel
theorem dX10_restore_100 : decode cX10_restore 100 = .ok (.iaload, 1) := by decide +kernel
theorem dX10_restore_101 : decode cX10_restore 101 = .ok (.iastore, 1) := by decide +kernel
theorem dX10_restore_102 : decode cX10_restore 102 = .ok (.iinc 1 1, 3) := by decide +kernel
theorem dX10_restore_105 : decode cX10_restore 105 = .ok (.goto (-21), 3) := by decide +kernel
theorem dX10_restore_108 : decode cX10_restore 108 = .ok (.iconst 0, 1) := by decide +kernel
theorem dX10_restore_109 : decode cX10_restore 109 = .ok (.istore_n 1, 1) := by decide +kernel
theorem dX10_restore_110 : decode cX10_restore 110 = .ok (.iload_n 1, 1) := by decide +kernel
theorem dX10_restore_111 : decode cX10_restore 111 = .ok (.bipush 6, 2) := by decide +kernel
theorem dX10_restore_113 : decode cX10_restore 113 = .ok (.if_icmp .ge 81, 3) := by decide +kernel
theorem dX10_restore_116 : decode cX10_restore 116 = .ok (.aload_n 0, 1) := by decide +kernel
theorem dX10_restore_117 : decode cX10_restore 117 = .ok (.getfield 25, 3) := by decide +kernel
theorem dX10_restore_120 : decode cX10_restore 120 = .ok (.iload_n 1, 1) := by decide +kernel
theorem dX10_restore_121 : decode cX10_restore 121 = .ok (.aload_n 0, 1) := by decide +kernel
theorem dX10_restore_122 : decode cX10_restore 122 = .ok (.getfield 83, 3) := by decide +kernel
theorem dX10_restore_125 : decode cX10_restore 125 = .ok (.iload_n 1, 1) := by decide +kernel
theorem dX10_restore_126 : decode cX10_restore 126 = .ok (.iaload, 1) := by decide +kernel
theorem dX10_restore_127 : decode cX10_restore 127 = .ok (.iastore, 1) := by decide +kernel
theorem dX10_restore_128 : decode cX10_restore 128 = .ok (.aload_n 0, 1) := by decide +kernel
theorem dX10_restore_129 : decode cX10_restore 129 = .ok (.getfield 28, 3) := by decide +kernel
theorem dX10_restore_132 : decode cX10_restore 132 = .ok (.iload_n 1, 1) := by decide +kernel
theorem dX10_restore_133 : decode cX10_restore 133 = .ok (.aload_n 0, 1) := by decide +kernel
theorem dX10_restore_134 : decode cX10_restore 134 = .ok (.getfield 86, 3) := by decide +kernel
theorem dX10_restore_137 : decode cX10_restore 137 = .ok (.iload_n 1, 1) := by decide +kernel
theorem dX10_restore_138 : decode cX10_restore 138 = .ok (.iaload, 1) := by decide +kernel
theorem dX10_restore_139 : decode cX10_restore 139 = .ok (.iastore, 1) := by decide +kernel
theorem dX10_restore_140 : decode cX10_restore 140 = .ok (.aload_n 0, 1) := by decide +kernel
theorem dX10_restore_141 : decode cX10_restore 141 = .ok (.getfield 31, 3) := by decide +kernel
theorem dX10_restore_144 : decode cX10_restore 144 = .ok (.iload_n 1, 1) := by decide +kernel
theorem dX10_restore_145 : decode cX10_restore 145 = .ok (.aload_n 0, 1) := by decide +kernel
theorem dX10_restore_146 : decode cX10_restore 146 = .ok (.getfield 89, 3) := by decide +kernel
theorem dX10_restore_149 : decode cX10_restore 149 = .ok (.iload_n 1, 1) := by decide +kernel
theorem dX10_restore_150 : decode cX10_restore 150 = .ok (.iaload, 1) := by decide +kernel
theorem dX10_restore_151 : decode cX10_restore 151 = .ok (.iastore, 1) := by decide +kernel
theorem dX10_restore_152 : decode cX10_restore 152 = .ok (.aload_n 0, 1) := by decide +kernel
theorem dX10_restore_153 : decode cX10_restore 153 = .ok (.getfield 34, 3) := by decide +kernel
theorem dX10_restore_156 : decode cX10_restore 156 = .ok (.iload_n 1, 1) := by decide +kernel
theorem dX10_restore_157 : decode cX10_restore 157 = .ok (.aload_n 0, 1) := by decide +kernel
theorem dX10_restore_158 : decode cX10_restore 158 = .ok (.getfield 92, 3) := by decide +kernel
theorem dX10_restore_161 : decode cX10_restore 161 = .ok (.iload_n 1, 1) := by decide +kernel
theorem dX10_restore_162 : decode cX10_restore 162 = .ok (.iaload, 1) := by decide +kernel
theorem dX10_restore_163 : decode cX10_restore 163 = .ok (.iastore, 1) := by decide +kernel
theorem dX10_restore_164 : decode cX10_restore 164 = .ok (.aload_n 0, 1) := by decide +kernel
theorem dX10_restore_165 : decode cX10_restore 165 = .ok (.getfield 37, 3) := by decide +kernel
theorem dX10_restore_168 : decode cX10_restore 168 = .ok (.iload_n 1, 1) := by decide +kernel
theorem dX10_restore_169 : decode cX10_restore 169 = .ok (.aload_n 0, 1) := by decide +kernel
theorem dX10_restore_170 : decode cX10_restore 170 = .ok (.getfield 95, 3) := by decide +kernel
theorem dX10_restore_173 : decode cX10_restore 173 = .ok (.iload_n 1, 1) := by decide +kernel
theorem dX10_restore_174 : decode cX10_restore 174 = .ok (.iaload, 1) := by decide +kernel
theorem dX10_restore_175 : decode cX10_restore 175 = .ok (.iastore, 1) := by decide +kernel
theorem dX10_restore_176 : decode cX10_restore 176 = .ok (.aload_n 0, 1) := by decide +kernel
theorem dX10_restore_177 : decode cX10_restore 177 = .ok (.getfield 40, 3) := by decide +kernel
theorem dX10_restore_180 : decode cX10_restore 180 = .ok (.iload_n 1, 1) := by decide +kernel
theorem dX10_restore_181 : decode cX10_restore 181 = .ok (.aload_n 0, 1) := by decide +kernel
theorem dX10_restore_182 : decode cX10_restore 182 = .ok (.getfield 98, 3) := by decide +kernel
theorem dX10_restore_185 : decode cX10_restore 185 = .ok (.iload_n 1, 1) := by decide +kernel
theorem dX10_restore_186 : decode cX10_restore 186 = .ok (.iaload, 1) := by decide +kernel
theorem dX10_restore_187 : decode cX10_restore 187 = .ok (.iastore, 1) := by decide +kernel
theorem dX10_restore_188 : decode cX10_restore 188 = .ok (.iinc 1 1, 3) := by decide +kernel
theorem dX10_restore_191 : decode cX10_restore 191 = .ok (.goto (-81), 3) := by decide +kernel
theorem dX10_restore_194 : decode cX10_restore 194 = .ok (.aload_n 0, 1) := by decide +kernel
theorem dX10_restore_195 : decode cX10_restore 195 = .ok (.getfield 166, 3) := by decide +kernel
theorem dX10_restore_198 : decode cX10_restore 198 = .ok (.ireturn, 1) := by decide +kernel
theorem dX10_sightsOfAll_0 : decode cX10_sightsOfAll 0 = .ok (.iconst 0, 1) := by decide +kernel
theorem dX10_sightsOfAll_1 : decode cX10_sightsOfAll 1 = .ok (.istore_n 1, 1) := by decide +kernel
theorem dX10_sightsOfAll_2 : decode cX10_sightsOfAll 2 = .ok (.iconst 0, 1) := by decide +kernel
theorem dX10_sightsOfAll_3 : decode cX10_sightsOfAll 3 = .ok (.istore_n 2, 1) := by decide +kernel
theorem dX10_sightsOfAll_4 : decode cX10_sightsOfAll 4 = .ok (.iload_n 2, 1) := by decide +kernel
theorem dX10_sightsOfAll_5 : decode cX10_sightsOfAll 5 = .ok (.aload_n 0, 1) := by decide +kernel
theorem dX10_sightsOfAll_6 : decode cX10_sightsOfAll 6 = .ok (.getfield 157, 3) := by decide +kernel
theorem dX10_sightsOfAll_9 : decode cX10_sightsOfAll 9 = .ok (.if_icmp .ge 42, 3) := by decide +kernel
theorem dX10_sightsOfAll_12 : decode cX10_sightsOfAll 12 = .ok (.iconst 0, 1) := by decide +kernel
theorem dX10_sightsOfAll_13 : decode cX10_sightsOfAll 13 = .ok (.istore_n 3, 1) := by decide +kernel
theorem dX10_sightsOfAll_14 : decode cX10_sightsOfAll 14 = .ok (.iload_n 3, 1) := by decide +kernel
theorem dX10_sightsOfAll_15 : decode cX10_sightsOfAll 15 = .ok (.aload_n 0, 1) := by decide +kernel
theorem dX10_sightsOfAll_16 : decode cX10_sightsOfAll 16 = .ok (.getfield 16, 3) := by decide +kernel
theorem dX10_sightsOfAll_19 : decode cX10_sightsOfAll 19 = .ok (.iload_n 2, 1) := by decide +kernel
theorem dX10_sightsOfAll_20 : decode cX10_sightsOfAll 20 = .ok (.iaload, 1) := by decide +kernel
theorem dX10_sightsOfAll_21 : decode cX10_sightsOfAll 21 = .ok (.if_icmp .ge 24, 3) := by decide +kernel
theorem dX10_sightsOfAll_24 : decode cX10_sightsOfAll 24 = .ok (.iload_n 1, 1) := by decide +kernel
theorem dX10_sightsOfAll_25 : decode cX10_sightsOfAll 25 = .ok (.iconst 1, 1) := by decide +kernel
theorem dX10_sightsOfAll_26 : decode cX10_sightsOfAll 26 = .ok (.aload_n 0, 1) := by decide +kernel
theorem dX10_sightsOfAll_27 : decode cX10_sightsOfAll 27 = .ok (.getfield 13, 3) := by decide +kernel
theorem dX10_sightsOfAll_30 : decode cX10_sightsOfAll 30 = .ok (.iconst 4, 1) := by decide +kernel
theorem dX10_sightsOfAll_31 : decode cX10_sightsOfAll 31 = .ok (.iload_n 2, 1) := by decide +kernel
theorem dX10_sightsOfAll_32 : decode cX10_sightsOfAll 32 = .ok (.imul, 1) := by decide +kernel
theorem dX10_sightsOfAll_33 : decode cX10_sightsOfAll 33 = .ok (.iload_n 3, 1) := by decide +kernel
theorem dX10_sightsOfAll_34 : decode cX10_sightsOfAll 34 = .ok (.iadd, 1) := by decide +kernel
theorem dX10_sightsOfAll_35 : decode cX10_sightsOfAll 35 = .ok (.iaload, 1) := by decide +kernel
theorem dX10_sightsOfAll_36 : decode cX10_sightsOfAll 36 = .ok (.ishl, 1) := by decide +kernel
theorem dX10_sightsOfAll_37 : decode cX10_sightsOfAll 37 = .ok (.ior, 1) := by decide +kernel
theorem dX10_sightsOfAll_38 : decode cX10_sightsOfAll 38 = .ok (.istore_n 1, 1) := by decide +kernel
theorem dX10_sightsOfAll_39 : decode cX10_sightsOfAll 39 = .ok (.iinc 3 1, 3) := by decide +kernel
theorem dX10_sightsOfAll_42 : decode cX10_sightsOfAll 42 = .ok (.goto (-28), 3) := by decide +kernel
theorem dX10_sightsOfAll_45 : decode cX10_sightsOfAll 45 = .ok (.iinc 2 1, 3) := by decide +kernel
theorem dX10_sightsOfAll_48 : decode cX10_sightsOfAll 48 = .ok (.goto (-44), 3) := by decide +kernel
theorem dX10_sightsOfAll_51 : decode cX10_sightsOfAll 51 = .ok (.iload_n 1, 1) := by decide +kernel
theorem dX10_sightsOfAll_52 : decode cX10_sightsOfAll 52 = .ok (.invokestatic 243, 3) := by decide +kernel
theorem dX10_sightsOfAll_55 : decode cX10_sightsOfAll 55 = .ok (.ireturn, 1) := by decide +kernel
theorem dX10_howMany_0 : decode cX10_howMany 0 = .ok (.iload_n 1, 1) := by decide +kernel
theorem dX10_howMany_1 : decode cX10_howMany 1 = .ok (.tableswitch 100 0 8 #[51, 56, 61, 66, 71, 80, 85, 90, 95], 51) := by decide +kernel
theorem dX10_howMany_52 : decode cX10_howMany 52 = .ok (.aload_n 0, 1) := by decide +kernel
theorem dX10_howMany_53 : decode cX10_howMany 53 = .ok (.getfield 157, 3) := by decide +kernel
theorem dX10_howMany_56 : decode cX10_howMany 56 = .ok (.ireturn, 1) := by decide +kernel
theorem dX10_howMany_57 : decode cX10_howMany 57 = .ok (.aload_n 0, 1) := by decide +kernel
theorem dX10_howMany_58 : decode cX10_howMany 58 = .ok (.getfield 160, 3) := by decide +kernel
theorem dX10_howMany_61 : decode cX10_howMany 61 = .ok (.ireturn, 1) := by decide +kernel
theorem dX10_howMany_62 : decode cX10_howMany 62 = .ok (.aload_n 0, 1) := by decide +kernel
theorem dX10_howMany_63 : decode cX10_howMany 63 = .ok (.getfield 163, 3) := by decide +kernel
theorem dX10_howMany_66 : decode cX10_howMany 66 = .ok (.ireturn, 1) := by decide +kernel
theorem dX10_howMany_67 : decode cX10_howMany 67 = .ok (.aload_n 0, 1) := by decide +kernel
theorem dX10_howMany_68 : decode cX10_howMany 68 = .ok (.invokevirtual 311, 3) := by decide +kernel
theorem dX10_howMany_71 : decode cX10_howMany 71 = .ok (.ireturn, 1) := by decide +kernel
theorem dX10_howMany_72 : decode cX10_howMany 72 = .ok (.aload_n 0, 1) := by decide +kernel
theorem dX10_howMany_73 : decode cX10_howMany 73 = .ok (.aload_n 0, 1) := by decide +kernel
theorem dX10_howMany_74 : decode cX10_howMany 74 = .ok (.invokevirtual 202, 3) := by decide +kernel
theorem dX10_howMany_77 : decode cX10_howMany 77 = .ok (.invokevirtual 252, 3) := by decide +kernel
theorem dX10_howMany_80 : decode cX10_howMany 80 = .ok (.ireturn, 1) := by decide +kernel
theorem dX10_howMany_81 : decode cX10_howMany 81 = .ok (.aload_n 0, 1) := by decide +kernel
theorem dX10_howMany_82 : decode cX10_howMany 82 = .ok (.getfield 166, 3) := by decide +kernel
theorem dX10_howMany_85 : decode cX10_howMany 85 = .ok (.ireturn, 1) := by decide +kernel
theorem dX10_howMany_86 : decode cX10_howMany 86 = .ok (.aload_n 0, 1) := by decide +kernel
theorem dX10_howMany_87 : decode cX10_howMany 87 = .ok (.getfield 172, 3) := by decide +kernel
theorem dX10_howMany_90 : decode cX10_howMany 90 = .ok (.ireturn, 1) := by decide +kernel
theorem dX10_howMany_91 : decode cX10_howMany 91 = .ok (.aload_n 0, 1) := by decide +kernel
theorem dX10_howMany_92 : decode cX10_howMany 92 = .ok (.getfield 105, 3) := by decide +kernel
theorem dX10_howMany_95 : decode cX10_howMany 95 = .ok (.ireturn, 1) := by decide +kernel
theorem dX10_howMany_96 : decode cX10_howMany 96 = .ok (.aload_n 0, 1) := by decide +kernel
theorem dX10_howMany_97 : decode cX10_howMany 97 = .ok (.getfield 169, 3) := by decide +kernel
theorem dX10_howMany_100 : decode cX10_howMany 100 = .ok (.ireturn, 1) := by decide +kernel
theorem dX10_howMany_101 : decode cX10_howMany 101 = .ok (.bipush (-102), 2) := by decide +kernel
theorem dX10_howMany_103 : decode cX10_howMany 103 = .ok (.ireturn, 1) := by decide +kernel
theorem dX10_count_0 : decode cX10_count 0 = .ok (.aload_n 0, 1) := by decide +kernel
theorem dX10_count_1 : decode cX10_count 1 = .ok (.iload_n 1, 1) := by decide +kernel
theorem dX10_count_2 : decode cX10_count 2 = .ok (.invokevirtual 314, 3) := by decide +kernel
theorem dX10_count_5 : decode cX10_count 5 = .ok (.ireturn, 1) := by decide +kernel
theorem dX10_mix_0 : decode cX10_mix 0 = .ok (.aload_n 0, 1) := by decide +kernel
theorem dX10_mix_1 : decode cX10_mix 1 = .ok (.ldc2_w 317, 3) := by decide +kernel
theorem dX10_mix_4 : decode cX10_mix 4 = .ok (.aload_n 0, 1) := by decide +kernel
theorem dX10_mix_5 : decode cX10_mix 5 = .ok (.getfield 319, 3) := by decide +kernel
theorem dX10_mix_8 : decode cX10_mix 8 = .ok (.lmul, 1) := by decide +kernel
theorem dX10_mix_9 : decode cX10_mix 9 = .ok (.lload_n 1, 1) := by decide +kernel
theorem dX10_mix_10 : decode cX10_mix 10 = .ok (.ladd, 1) := by decide +kernel
theorem dX10_mix_11 : decode cX10_mix 11 = .ok (.putfield 319, 3) := by decide +kernel
theorem dX10_mix_14 : decode cX10_mix 14 = .ok (.return_, 1) := by decide +kernel
theorem dX10_mixWall_0 : decode cX10_mixWall 0 = .ok (.iconst 0, 1) := by decide +kernel
theorem dX10_mixWall_1 : decode cX10_mixWall 1 = .ok (.istore_n 1, 1) := by decide +kernel
theorem dX10_mixWall_2 : decode cX10_mixWall 2 = .ok (.iload_n 1, 1) := by decide +kernel
theorem dX10_mixWall_3 : decode cX10_mixWall 3 = .ok (.bipush 6, 2) := by decide +kernel
theorem dX10_mixWall_5 : decode cX10_mixWall 5 = .ok (.if_icmp .ge 23, 3) := by decide +kernel
theorem dX10_mixWall_8 : decode cX10_mixWall 8 = .ok (.aload_n 0, 1) := by decide +kernel
theorem dX10_mixWall_9 : decode cX10_mixWall 9 = .ok (.aload_n 0, 1) := by decide +kernel
theorem dX10_mixWall_10 : decode cX10_mixWall 10 = .ok (.aload_n 0, 1) := by decide +kernel
theorem dX10_mixWall_11 : decode cX10_mixWall 11 = .ok (.invokevirtual 202, 3) := by decide +kernel
theorem dX10_mixWall_14 : decode cX10_mixWall 14 = .ok (.iload_n 1, 1) := by decide +kernel
theorem dX10_mixWall_15 : decode cX10_mixWall 15 = .ok (.invokevirtual 205, 3) := by decide +kernel
theorem dX10_mixWall_18 : decode cX10_mixWall 18 = .ok (.i2l, 1) := by decide +kernel
theorem dX10_mixWall_19 : decode cX10_mixWall 19 = .ok (.invokevirtual 322, 3) := by decide +kernel
theorem dX10_mixWall_22 : decode cX10_mixWall 22 = .ok (.iinc 1 1, 3) := by decide +kernel
theorem dX10_mixWall_25 : decode cX10_mixWall 25 = .ok (.goto (-23), 3) := by decide +kernel
theorem dX10_mixWall_28 : decode cX10_mixWall 28 = .ok (.aload_n 0, 1) := by decide +kernel
theorem dX10_mixWall_29 : decode cX10_mixWall 29 = .ok (.aload_n 0, 1) := by decide +kernel
theorem dX10_mixWall_30 : decode cX10_mixWall 30 = .ok (.iconst 0, 1) := by decide +kernel
theorem dX10_mixWall_31 : decode cX10_mixWall 31 = .ok (.invokevirtual 240, 3) := by decide +kernel
theorem dX10_mixWall_34 : decode cX10_mixWall 34 = .ok (.i2l, 1) := by decide +kernel
theorem dX10_mixWall_35 : decode cX10_mixWall 35 = .ok (.invokevirtual 322, 3) := by decide +kernel
theorem dX10_mixWall_38 : decode cX10_mixWall 38 = .ok (.aload_n 0, 1) := by decide +kernel
theorem dX10_mixWall_39 : decode cX10_mixWall 39 = .ok (.aload_n 0, 1) := by decide +kernel
theorem dX10_mixWall_40 : decode cX10_mixWall 40 = .ok (.iconst 1, 1) := by decide +kernel
theorem dX10_mixWall_41 : decode cX10_mixWall 41 = .ok (.invokevirtual 240, 3) := by decide +kernel
theorem dX10_mixWall_44 : decode cX10_mixWall 44 = .ok (.i2l, 1) := by decide +kernel
theorem dX10_mixWall_45 : decode cX10_mixWall 45 = .ok (.invokevirtual 322, 3) := by decide +kernel
theorem dX10_mixWall_48 : decode cX10_mixWall 48 = .ok (.aload_n 0, 1) := by decide +kernel
theorem dX10_mixWall_49 : decode cX10_mixWall 49 = .ok (.aload_n 0, 1) := by decide +kernel
theorem dX10_mixWall_50 : decode cX10_mixWall 50 = .ok (.invokevirtual 249, 3) := by decide +kernel
theorem dX10_mixWall_53 : decode cX10_mixWall 53 = .ok (.invokestatic 243, 3) := by decide +kernel
theorem dX10_mixWall_56 : decode cX10_mixWall 56 = .ok (.i2l, 1) := by decide +kernel
theorem dX10_mixWall_57 : decode cX10_mixWall 57 = .ok (.invokevirtual 322, 3) := by decide +kernel
theorem dX10_mixWall_60 : decode cX10_mixWall 60 = .ok (.aload_n 0, 1) := by decide +kernel
theorem dX10_mixWall_61 : decode cX10_mixWall 61 = .ok (.aload_n 0, 1) := by decide +kernel
theorem dX10_mixWall_62 : decode cX10_mixWall 62 = .ok (.invokevirtual 249, 3) := by decide +kernel
theorem dX10_mixWall_65 : decode cX10_mixWall 65 = .ok (.i2l, 1) := by decide +kernel
theorem dX10_mixWall_66 : decode cX10_mixWall 66 = .ok (.invokevirtual 322, 3) := by decide +kernel
theorem dX10_mixWall_69 : decode cX10_mixWall 69 = .ok (.aload_n 0, 1) := by decide +kernel
theorem dX10_mixWall_70 : decode cX10_mixWall 70 = .ok (.aload_n 0, 1) := by decide +kernel
theorem dX10_mixWall_71 : decode cX10_mixWall 71 = .ok (.invokevirtual 255, 3) := by decide +kernel
theorem dX10_mixWall_74 : decode cX10_mixWall 74 = .ok (.invokestatic 243, 3) := by decide +kernel
theorem dX10_mixWall_77 : decode cX10_mixWall 77 = .ok (.i2l, 1) := by decide +kernel
theorem dX10_mixWall_78 : decode cX10_mixWall 78 = .ok (.invokevirtual 322, 3) := by decide +kernel
theorem dX10_mixWall_81 : decode cX10_mixWall 81 = .ok (.aload_n 0, 1) := by decide +kernel
theorem dX10_mixWall_82 : decode cX10_mixWall 82 = .ok (.aload_n 0, 1) := by decide +kernel
theorem dX10_mixWall_83 : decode cX10_mixWall 83 = .ok (.invokevirtual 255, 3) := by decide +kernel
theorem dX10_mixWall_86 : decode cX10_mixWall 86 = .ok (.i2l, 1) := by decide +kernel
theorem dX10_mixWall_87 : decode cX10_mixWall 87 = .ok (.invokevirtual 322, 3) := by decide +kernel
theorem dX10_mixWall_90 : decode cX10_mixWall 90 = .ok (.aload_n 0, 1) := by decide +kernel
theorem dX10_mixWall_91 : decode cX10_mixWall 91 = .ok (.aload_n 0, 1) := by decide +kernel
theorem dX10_mixWall_92 : decode cX10_mixWall 92 = .ok (.iconst 1, 1) := by decide +kernel
theorem dX10_mixWall_93 : decode cX10_mixWall 93 = .ok (.invokevirtual 264, 3) := by decide +kernel
theorem dX10_mixWall_96 : decode cX10_mixWall 96 = .ok (.i2l, 1) := by decide +kernel
theorem dX10_mixWall_97 : decode cX10_mixWall 97 = .ok (.invokevirtual 322, 3) := by decide +kernel
theorem dX10_mixWall_100 : decode cX10_mixWall 100 = .ok (.return_, 1) := by decide +kernel
theorem dX10_digest_0 : decode cX10_digest 0 = .ok (.aload_n 0, 1) := by decide +kernel
theorem dX10_digest_1 : decode cX10_digest 1 = .ok (.ldc2_w 326, 3) := by decide +kernel
theorem dX10_digest_4 : decode cX10_digest 4 = .ok (.putfield 319, 3) := by decide +kernel
theorem dX10_digest_7 : decode cX10_digest 7 = .ok (.iconst 0, 1) := by decide +kernel
theorem dX10_digest_8 : decode cX10_digest 8 = .ok (.istore_n 1, 1) := by decide +kernel
theorem dX10_digest_9 : decode cX10_digest 9 = .ok (.iload_n 1, 1) := by decide +kernel
theorem dX10_digest_10 : decode cX10_digest 10 = .ok (.aload_n 0, 1) := by decide +kernel
theorem dX10_digest_11 : decode cX10_digest 11 = .ok (.getfield 157, 3) := by decide +kernel
theorem dX10_digest_14 : decode cX10_digest 14 = .ok (.if_icmp .ge 34, 3) := by decide +kernel
theorem dX10_digest_17 : decode cX10_digest 17 = .ok (.iconst 0, 1) := by decide +kernel
theorem dX10_digest_18 : decode cX10_digest 18 = .ok (.istore_n 2, 1) := by decide +kernel
theorem dX10_digest_19 : decode cX10_digest 19 = .ok (.iload_n 2, 1) := by decide +kernel
theorem dX10_digest_20 : decode cX10_digest 20 = .ok (.bipush 8, 2) := by decide +kernel
theorem dX10_digest_22 : decode cX10_digest 22 = .ok (.if_icmp .ge 20, 3) := by decide +kernel
theorem dX10_digest_25 : decode cX10_digest 25 = .ok (.aload_n 0, 1) := by decide +kernel
theorem dX10_digest_26 : decode cX10_digest 26 = .ok (.aload_n 0, 1) := by decide +kernel
theorem dX10_digest_27 : decode cX10_digest 27 = .ok (.iload_n 1, 1) := by decide +kernel
theorem dX10_digest_28 : decode cX10_digest 28 = .ok (.iload_n 2, 1) := by decide +kernel
theorem dX10_digest_29 : decode cX10_digest 29 = .ok (.invokevirtual 199, 3) := by decide +kernel
theorem dX10_digest_32 : decode cX10_digest 32 = .ok (.i2l, 1) := by decide +kernel
theorem dX10_digest_33 : decode cX10_digest 33 = .ok (.invokevirtual 322, 3) := by decide +kernel
theorem dX10_digest_36 : decode cX10_digest 36 = .ok (.iinc 2 1, 3) := by decide +kernel
theorem dX10_digest_39 : decode cX10_digest 39 = .ok (.goto (-20), 3) := by decide +kernel
theorem dX10_digest_42 : decode cX10_digest 42 = .ok (.iinc 1 1, 3) := by decide +kernel
theorem dX10_digest_45 : decode cX10_digest 45 = .ok (.goto (-36), 3) := by decide +kernel
theorem dX10_digest_48 : decode cX10_digest 48 = .ok (.aload_n 0, 1) := by decide +kernel
theorem dX10_digest_49 : decode cX10_digest 49 = .ok (.getfield 169, 3) := by decide +kernel
theorem dX10_digest_52 : decode cX10_digest 52 = .ok (.ifCond .le 7, 3) := by decide +kernel
theorem dX10_digest_55 : decode cX10_digest 55 = .ok (.aload_n 0, 1) := by decide +kernel
theorem dX10_digest_56 : decode cX10_digest 56 = .ok (.invokevirtual 328, 3) := by decide +kernel
theorem dX10_digest_59 : decode cX10_digest 59 = .ok (.iconst 0, 1) := by decide +kernel
theorem dX10_digest_60 : decode cX10_digest 60 = .ok (.istore_n 1, 1) := by decide +kernel
theorem dX10_digest_61 : decode cX10_digest 61 = .ok (.iload_n 1, 1) := by decide +kernel
theorem dX10_digest_62 : decode cX10_digest 62 = .ok (.aload_n 0, 1) := by decide +kernel
theorem dX10_digest_63 : decode cX10_digest 63 = .ok (.getfield 105, 3) := by decide +kernel
theorem dX10_digest_66 : decode cX10_digest 66 = .ok (.if_icmp .ge 20, 3) := by decide +kernel
theorem dX10_digest_69 : decode cX10_digest 69 = .ok (.aload_n 0, 1) := by decide +kernel
theorem dX10_digest_70 : decode cX10_digest 70 = .ok (.aload_n 0, 1) := by decide +kernel
theorem dX10_digest_71 : decode cX10_digest 71 = .ok (.getfield 43, 3) := by decide +kernel
theorem dX10_digest_74 : decode cX10_digest 74 = .ok (.iload_n 1, 1) := by decide +kernel
theorem dX10_digest_75 : decode cX10_digest 75 = .ok (.baload, 1) := by decide +kernel
theorem dX10_digest_76 : decode cX10_digest 76 = .ok (.i2l, 1) := by decide +kernel
theorem dX10_digest_77 : decode cX10_digest 77 = .ok (.invokevirtual 322, 3) := by decide +kernel
theorem dX10_digest_80 : decode cX10_digest 80 = .ok (.iinc 1 1, 3) := by decide +kernel
theorem dX10_digest_83 : decode cX10_digest 83 = .ok (.goto (-22), 3) := by decide +kernel
theorem dX10_digest_86 : decode cX10_digest 86 = .ok (.iconst 0, 1) := by decide +kernel
theorem dX10_digest_87 : decode cX10_digest 87 = .ok (.istore_n 1, 1) := by decide +kernel
theorem dX10_digest_88 : decode cX10_digest 88 = .ok (.iload_n 1, 1) := by decide +kernel
theorem dX10_digest_89 : decode cX10_digest 89 = .ok (.bipush 9, 2) := by decide +kernel
theorem dX10_digest_91 : decode cX10_digest 91 = .ok (.if_icmp .ge 19, 3) := by decide +kernel
theorem dX10_digest_94 : decode cX10_digest 94 = .ok (.aload_n 0, 1) := by decide +kernel
theorem dX10_digest_95 : decode cX10_digest 95 = .ok (.aload_n 0, 1) := by decide +kernel
theorem dX10_digest_96 : decode cX10_digest 96 = .ok (.iload_n 1, 1) := by decide +kernel
theorem dX10_digest_97 : decode cX10_digest 97 = .ok (.invokevirtual 314, 3) := by decide +kernel
theorem dX10_digest_100 : decode cX10_digest 100 = .ok (.i2l, 1) := by decide +kernel
theorem dX10_digest_101 : decode cX10_digest 101 = .ok (.invokevirtual 322, 3) := by decide +kernel
theorem dX10_digest_104 : decode cX10_digest 104 = .ok (.iinc 1 1, 3) := by decide +kernel
theorem dX10_digest_107 : decode cX10_digest 107 = .ok (.goto (-19), 3) := by decide +kernel
theorem dX10_digest_110 : decode cX10_digest 110 = .ok (.aload_n 0, 1) := by decide +kernel
theorem dX10_digest_111 : decode cX10_digest 111 = .ok (.getfield 319, 3) := by decide +kernel
theorem dX10_digest_114 : decode cX10_digest 114 = .ok (.lreturn, 1) := by decide +kernel
theorem dJ6_bitCount_0f7a4_0 : decode cJ6_bitCount_0f7a4 0 = .ok (.iload_n 0, 1) := by decide +kernel
theorem dJ6_bitCount_0f7a4_1 : decode cJ6_bitCount_0f7a4 1 = .ok (.iload_n 0, 1) := by decide +kernel
theorem dJ6_bitCount_0f7a4_2 : decode cJ6_bitCount_0f7a4 2 = .ok (.iconst 1, 1) := by decide +kernel
theorem dJ6_bitCount_0f7a4_3 : decode cJ6_bitCount_0f7a4 3 = .ok (.iushr, 1) := by decide +kernel
theorem dJ6_bitCount_0f7a4_4 : decode cJ6_bitCount_0f7a4 4 = .ok (.ldc_w 265, 3) := by decide +kernel
theorem dJ6_bitCount_0f7a4_7 : decode cJ6_bitCount_0f7a4 7 = .ok (.iand, 1) := by decide +kernel
theorem dJ6_bitCount_0f7a4_8 : decode cJ6_bitCount_0f7a4 8 = .ok (.isub, 1) := by decide +kernel
theorem dJ6_bitCount_0f7a4_9 : decode cJ6_bitCount_0f7a4 9 = .ok (.istore_n 0, 1) := by decide +kernel
theorem dJ6_bitCount_0f7a4_10 : decode cJ6_bitCount_0f7a4 10 = .ok (.iload_n 0, 1) := by decide +kernel
theorem dJ6_bitCount_0f7a4_11 : decode cJ6_bitCount_0f7a4 11 = .ok (.ldc_w 266, 3) := by decide +kernel
theorem dJ6_bitCount_0f7a4_14 : decode cJ6_bitCount_0f7a4 14 = .ok (.iand, 1) := by decide +kernel
theorem dJ6_bitCount_0f7a4_15 : decode cJ6_bitCount_0f7a4 15 = .ok (.iload_n 0, 1) := by decide +kernel
theorem dJ6_bitCount_0f7a4_16 : decode cJ6_bitCount_0f7a4 16 = .ok (.iconst 2, 1) := by decide +kernel
theorem dJ6_bitCount_0f7a4_17 : decode cJ6_bitCount_0f7a4 17 = .ok (.iushr, 1) := by decide +kernel
theorem dJ6_bitCount_0f7a4_18 : decode cJ6_bitCount_0f7a4 18 = .ok (.ldc_w 266, 3) := by decide +kernel
theorem dJ6_bitCount_0f7a4_21 : decode cJ6_bitCount_0f7a4 21 = .ok (.iand, 1) := by decide +kernel
theorem dJ6_bitCount_0f7a4_22 : decode cJ6_bitCount_0f7a4 22 = .ok (.iadd, 1) := by decide +kernel
theorem dJ6_bitCount_0f7a4_23 : decode cJ6_bitCount_0f7a4 23 = .ok (.istore_n 0, 1) := by decide +kernel
theorem dJ6_bitCount_0f7a4_24 : decode cJ6_bitCount_0f7a4 24 = .ok (.iload_n 0, 1) := by decide +kernel
theorem dJ6_bitCount_0f7a4_25 : decode cJ6_bitCount_0f7a4 25 = .ok (.iload_n 0, 1) := by decide +kernel
theorem dJ6_bitCount_0f7a4_26 : decode cJ6_bitCount_0f7a4 26 = .ok (.iconst 4, 1) := by decide +kernel
theorem dJ6_bitCount_0f7a4_27 : decode cJ6_bitCount_0f7a4 27 = .ok (.iushr, 1) := by decide +kernel
theorem dJ6_bitCount_0f7a4_28 : decode cJ6_bitCount_0f7a4 28 = .ok (.iadd, 1) := by decide +kernel
theorem dJ6_bitCount_0f7a4_29 : decode cJ6_bitCount_0f7a4 29 = .ok (.ldc_w 267, 3) := by decide +kernel
theorem dJ6_bitCount_0f7a4_32 : decode cJ6_bitCount_0f7a4 32 = .ok (.iand, 1) := by decide +kernel
theorem dJ6_bitCount_0f7a4_33 : decode cJ6_bitCount_0f7a4 33 = .ok (.istore_n 0, 1) := by decide +kernel
theorem dJ6_bitCount_0f7a4_34 : decode cJ6_bitCount_0f7a4 34 = .ok (.iload_n 0, 1) := by decide +kernel
theorem dJ6_bitCount_0f7a4_35 : decode cJ6_bitCount_0f7a4 35 = .ok (.iload_n 0, 1) := by decide +kernel
theorem dJ6_bitCount_0f7a4_36 : decode cJ6_bitCount_0f7a4 36 = .ok (.bipush 8, 2) := by decide +kernel
theorem dJ6_bitCount_0f7a4_38 : decode cJ6_bitCount_0f7a4 38 = .ok (.iushr, 1) := by decide +kernel
theorem dJ6_bitCount_0f7a4_39 : decode cJ6_bitCount_0f7a4 39 = .ok (.iadd, 1) := by decide +kernel
theorem dJ6_bitCount_0f7a4_40 : decode cJ6_bitCount_0f7a4 40 = .ok (.istore_n 0, 1) := by decide +kernel
theorem dJ6_bitCount_0f7a4_41 : decode cJ6_bitCount_0f7a4 41 = .ok (.iload_n 0, 1) := by decide +kernel
theorem dJ6_bitCount_0f7a4_42 : decode cJ6_bitCount_0f7a4 42 = .ok (.iload_n 0, 1) := by decide +kernel
theorem dJ6_bitCount_0f7a4_43 : decode cJ6_bitCount_0f7a4 43 = .ok (.bipush 16, 2) := by decide +kernel
theorem dJ6_bitCount_0f7a4_45 : decode cJ6_bitCount_0f7a4 45 = .ok (.iushr, 1) := by decide +kernel
theorem dJ6_bitCount_0f7a4_46 : decode cJ6_bitCount_0f7a4 46 = .ok (.iadd, 1) := by decide +kernel
theorem dJ6_bitCount_0f7a4_47 : decode cJ6_bitCount_0f7a4 47 = .ok (.istore_n 0, 1) := by decide +kernel
theorem dJ6_bitCount_0f7a4_48 : decode cJ6_bitCount_0f7a4 48 = .ok (.iload_n 0, 1) := by decide +kernel
theorem dJ6_bitCount_0f7a4_49 : decode cJ6_bitCount_0f7a4 49 = .ok (.bipush 63, 2) := by decide +kernel
theorem dJ6_bitCount_0f7a4_51 : decode cJ6_bitCount_0f7a4 51 = .ok (.iand, 1) := by decide +kernel
theorem dJ6_bitCount_0f7a4_52 : decode cJ6_bitCount_0f7a4 52 = .ok (.ireturn, 1) := by decide +kernel
theorem dJ9_max_7cf53_0 : decode cJ9_max_7cf53 0 = .ok (.iload_n 0, 1) := by decide +kernel
theorem dJ9_max_7cf53_1 : decode cJ9_max_7cf53 1 = .ok (.iload_n 1, 1) := by decide +kernel
theorem dJ9_max_7cf53_2 : decode cJ9_max_7cf53 2 = .ok (.if_icmp .lt 7, 3) := by decide +kernel
theorem dJ9_max_7cf53_5 : decode cJ9_max_7cf53 5 = .ok (.iload_n 0, 1) := by decide +kernel
theorem dJ9_max_7cf53_6 : decode cJ9_max_7cf53 6 = .ok (.goto 4, 3) := by decide +kernel
theorem dJ9_max_7cf53_9 : decode cJ9_max_7cf53 9 = .ok (.iload_n 1, 1) := by decide +kernel
theorem dJ9_max_7cf53_10 : decode cJ9_max_7cf53 10 = .ok (.ireturn, 1) := by decide +kernel
