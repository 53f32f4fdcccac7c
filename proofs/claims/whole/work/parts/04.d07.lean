theorem dX10_layMost_24 : decode cX10_layMost 24 = .ok (.bipush 6, 2) := by decide +kernel
theorem dX10_layMost_26 : decode cX10_layMost 26 = .ok (.istore_n 1, 1) := by decide +kernel
theorem dX10_layMost_27 : decode cX10_layMost 27 = .ok (.iload_n 1, 1) := by decide +kernel
theorem dX10_layMost_28 : decode cX10_layMost 28 = .ok (.ifCond .le 128, 3) := by decide +kernel
theorem dX10_layMost_31 : decode cX10_layMost 31 = .ok (.iconst 0, 1) := by decide +kernel
theorem dX10_layMost_32 : decode cX10_layMost 32 = .ok (.istore_n 2, 1) := by decide +kernel
theorem dX10_layMost_33 : decode cX10_layMost 33 = .ok (.iload_n 2, 1) := by decide +kernel
theorem dX10_layMost_34 : decode cX10_layMost 34 = .ok (.bipush 16, 2) := by decide +kernel
theorem dX10_layMost_36 : decode cX10_layMost 36 = .ok (.if_icmp .ge 114, 3) := by decide +kernel
theorem dX10_layMost_39 : decode cX10_layMost 39 = .ok (.aload_n 0, 1) := by decide +kernel
theorem dX10_layMost_40 : decode cX10_layMost 40 = .ok (.getfield 71, 3) := by decide +kernel
theorem dX10_layMost_43 : decode cX10_layMost 43 = .ok (.bipush 16, 2) := by decide +kernel
theorem dX10_layMost_45 : decode cX10_layMost 45 = .ok (.iload_n 1, 1) := by decide +kernel
theorem dX10_layMost_46 : decode cX10_layMost 46 = .ok (.iconst 1, 1) := by decide +kernel
theorem dX10_layMost_47 : decode cX10_layMost 47 = .ok (.iadd, 1) := by decide +kernel
theorem dX10_layMost_48 : decode cX10_layMost 48 = .ok (.imul, 1) := by decide +kernel
theorem dX10_layMost_49 : decode cX10_layMost 49 = .ok (.iload_n 2, 1) := by decide +kernel
theorem dX10_layMost_50 : decode cX10_layMost 50 = .ok (.iadd, 1) := by decide +kernel
theorem dX10_layMost_51 : decode cX10_layMost 51 = .ok (.iaload, 1) := by decide +kernel
theorem dX10_layMost_52 : decode cX10_layMost 52 = .ok (.istore_n 3, 1) := by decide +kernel
theorem dX10_layMost_53 : decode cX10_layMost 53 = .ok (.iconst 0, 1) := by decide +kernel
theorem dX10_layMost_54 : decode cX10_layMost 54 = .ok (.istore 4, 2) := by decide +kernel
theorem dX10_layMost_56 : decode cX10_layMost 56 = .ok (.iload 4, 2) := by decide +kernel
theorem dX10_layMost_58 : decode cX10_layMost 58 = .ok (.aload_n 0, 1) := by decide +kernel
theorem dX10_layMost_59 : decode cX10_layMost 59 = .ok (.getfield 160, 3) := by decide +kernel
theorem dX10_layMost_62 : decode cX10_layMost 62 = .ok (.if_icmp .ge 70, 3) := by decide +kernel
theorem dX10_layMost_65 : decode cX10_layMost 65 = .ok (.aload_n 0, 1) := by decide +kernel
theorem dX10_layMost_66 : decode cX10_layMost 66 = .ok (.getfield 68, 3) := by decide +kernel
theorem dX10_layMost_69 : decode cX10_layMost 69 = .ok (.iload_n 1, 1) := by decide +kernel
theorem dX10_layMost_70 : decode cX10_layMost 70 = .ok (.iaload, 1) := by decide +kernel
theorem dX10_layMost_71 : decode cX10_layMost 71 = .ok (.iload_n 2, 1) := by decide +kernel
theorem dX10_layMost_72 : decode cX10_layMost 72 = .ok (.iconst (-1), 1) := by decide +kernel
theorem dX10_layMost_73 : decode cX10_layMost 73 = .ok (.ixor, 1) := by decide +kernel
theorem dX10_layMost_74 : decode cX10_layMost 74 = .ok (.iand, 1) := by decide +kernel
theorem dX10_layMost_75 : decode cX10_layMost 75 = .ok (.iload 4, 2) := by decide +kernel
theorem dX10_layMost_77 : decode cX10_layMost 77 = .ok (.invokestatic 184, 3) := by decide +kernel
theorem dX10_layMost_80 : decode cX10_layMost 80 = .ok (.istore 5, 2) := by decide +kernel
theorem dX10_layMost_82 : decode cX10_layMost 82 = .ok (.iload 5, 2) := by decide +kernel
theorem dX10_layMost_84 : decode cX10_layMost 84 = .ok (.ifCond .eq 26, 3) := by decide +kernel
theorem dX10_layMost_87 : decode cX10_layMost 87 = .ok (.iconst 1, 1) := by decide +kernel
theorem dX10_layMost_88 : decode cX10_layMost 88 = .ok (.aload_n 0, 1) := by decide +kernel
theorem dX10_layMost_89 : decode cX10_layMost 89 = .ok (.getfield 71, 3) := by decide +kernel
theorem dX10_layMost_92 : decode cX10_layMost 92 = .ok (.bipush 16, 2) := by decide +kernel
theorem dX10_layMost_94 : decode cX10_layMost 94 = .ok (.iload_n 1, 1) := by decide +kernel
theorem dX10_layMost_95 : decode cX10_layMost 95 = .ok (.iconst 1, 1) := by decide +kernel
theorem dX10_layMost_96 : decode cX10_layMost 96 = .ok (.iadd, 1) := by decide +kernel
theorem dX10_layMost_97 : decode cX10_layMost 97 = .ok (.imul, 1) := by decide +kernel
theorem dX10_layMost_98 : decode cX10_layMost 98 = .ok (.iload_n 2, 1) := by decide +kernel
theorem dX10_layMost_99 : decode cX10_layMost 99 = .ok (.iconst 1, 1) := by decide +kernel
theorem dX10_layMost_100 : decode cX10_layMost 100 = .ok (.iload 4, 2) := by decide +kernel
theorem dX10_layMost_102 : decode cX10_layMost 102 = .ok (.ishl, 1) := by decide +kernel
theorem dX10_layMost_103 : decode cX10_layMost 103 = .ok (.ior, 1) := by decide +kernel
theorem dX10_layMost_104 : decode cX10_layMost 104 = .ok (.iadd, 1) := by decide +kernel
theorem dX10_layMost_105 : decode cX10_layMost 105 = .ok (.iaload, 1) := by decide +kernel
theorem dX10_layMost_106 : decode cX10_layMost 106 = .ok (.iadd, 1) := by decide +kernel
theorem dX10_layMost_107 : decode cX10_layMost 107 = .ok (.goto 4, 3) := by decide +kernel
theorem dX10_layMost_110 : decode cX10_layMost 110 = .ok (.iconst 0, 1) := by decide +kernel
theorem dX10_layMost_111 : decode cX10_layMost 111 = .ok (.istore 6, 2) := by decide +kernel
theorem dX10_layMost_113 : decode cX10_layMost 113 = .ok (.iload 6, 2) := by decide +kernel
theorem dX10_layMost_115 : decode cX10_layMost 115 = .ok (.iload_n 3, 1) := by decide +kernel
theorem dX10_layMost_116 : decode cX10_layMost 116 = .ok (.if_icmp .le 8, 3) := by decide +kernel
theorem dX10_layMost_119 : decode cX10_layMost 119 = .ok (.iload 6, 2) := by decide +kernel
theorem dX10_layMost_121 : decode cX10_layMost 121 = .ok (.goto 4, 3) := by decide +kernel
theorem dX10_layMost_124 : decode cX10_layMost 124 = .ok (.iload_n 3, 1) := by decide +kernel
theorem dX10_layMost_125 : decode cX10_layMost 125 = .ok (.istore_n 3, 1) := by decide +kernel
theorem dX10_layMost_126 : decode cX10_layMost 126 = .ok (.iinc 4 1, 3) := by decide +kernel
theorem dX10_layMost_129 : decode cX10_layMost 129 = .ok (.goto (-73), 3) := by decide +kernel
theorem dX10_layMost_132 : decode cX10_layMost 132 = .ok (.aload_n 0, 1) := by decide +kernel
theorem dX10_layMost_133 : decode cX10_layMost 133 = .ok (.getfield 71, 3) := by decide +kernel
theorem dX10_layMost_136 : decode cX10_layMost 136 = .ok (.bipush 16, 2) := by decide +kernel
theorem dX10_layMost_138 : decode cX10_layMost 138 = .ok (.iload_n 1, 1) := by decide +kernel
theorem dX10_layMost_139 : decode cX10_layMost 139 = .ok (.imul, 1) := by decide +kernel
theorem dX10_layMost_140 : decode cX10_layMost 140 = .ok (.iload_n 2, 1) := by decide +kernel
theorem dX10_layMost_141 : decode cX10_layMost 141 = .ok (.iadd, 1) := by decide +kernel
theorem dX10_layMost_142 : decode cX10_layMost 142 = .ok (.iload_n 3, 1) := by decide +kernel
theorem dX10_layMost_143 : decode cX10_layMost 143 = .ok (.iastore, 1) := by decide +kernel
theorem dX10_layMost_144 : decode cX10_layMost 144 = .ok (.iinc 2 1, 3) := by decide +kernel
theorem dX10_layMost_147 : decode cX10_layMost 147 = .ok (.goto (-114), 3) := by decide +kernel
theorem dX10_layMost_150 : decode cX10_layMost 150 = .ok (.iinc 1 (-1), 3) := by decide +kernel
theorem dX10_layMost_153 : decode cX10_layMost 153 = .ok (.goto (-126), 3) := by decide +kernel
theorem dX10_layMost_156 : decode cX10_layMost 156 = .ok (.return_, 1) := by decide +kernel
theorem dX10_orderNow_0 : decode cX10_orderNow 0 = .ok (.iconst 0, 1) := by decide +kernel
theorem dX10_orderNow_1 : decode cX10_orderNow 1 = .ok (.istore_n 1, 1) := by decide +kernel
theorem dX10_orderNow_2 : decode cX10_orderNow 2 = .ok (.iconst 0, 1) := by decide +kernel
theorem dX10_orderNow_3 : decode cX10_orderNow 3 = .ok (.istore_n 2, 1) := by decide +kernel
theorem dX10_orderNow_4 : decode cX10_orderNow 4 = .ok (.iconst 1, 1) := by decide +kernel
theorem dX10_orderNow_5 : decode cX10_orderNow 5 = .ok (.istore_n 3, 1) := by decide +kernel
theorem dX10_orderNow_6 : decode cX10_orderNow 6 = .ok (.iload_n 3, 1) := by decide +kernel
theorem dX10_orderNow_7 : decode cX10_orderNow 7 = .ok (.bipush 6, 2) := by decide +kernel
theorem dX10_orderNow_9 : decode cX10_orderNow 9 = .ok (.if_icmp .gt 164, 3) := by decide +kernel
theorem dX10_orderNow_12 : decode cX10_orderNow 12 = .ok (.aload_n 0, 1) := by decide +kernel
theorem dX10_orderNow_13 : decode cX10_orderNow 13 = .ok (.getfield 71, 3) := by decide +kernel
theorem dX10_orderNow_16 : decode cX10_orderNow 16 = .ok (.bipush 16, 2) := by decide +kernel
theorem dX10_orderNow_18 : decode cX10_orderNow 18 = .ok (.iload_n 3, 1) := by decide +kernel
theorem dX10_orderNow_19 : decode cX10_orderNow 19 = .ok (.imul, 1) := by decide +kernel
theorem dX10_orderNow_20 : decode cX10_orderNow 20 = .ok (.iload_n 2, 1) := by decide +kernel
theorem dX10_orderNow_21 : decode cX10_orderNow 21 = .ok (.iadd, 1) := by decide +kernel
theorem dX10_orderNow_22 : decode cX10_orderNow 22 = .ok (.iaload, 1) := by decide +kernel
theorem dX10_orderNow_23 : decode cX10_orderNow 23 = .ok (.istore 4, 2) := by decide +kernel
theorem dX10_orderNow_25 : decode cX10_orderNow 25 = .ok (.aload_n 0, 1) := by decide +kernel
theorem dX10_orderNow_26 : decode cX10_orderNow 26 = .ok (.getfield 71, 3) := by decide +kernel
theorem dX10_orderNow_29 : decode cX10_orderNow 29 = .ok (.bipush 16, 2) := by decide +kernel
theorem dX10_orderNow_31 : decode cX10_orderNow 31 = .ok (.iload_n 3, 1) := by decide +kernel
theorem dX10_orderNow_32 : decode cX10_orderNow 32 = .ok (.iconst 1, 1) := by decide +kernel
theorem dX10_orderNow_33 : decode cX10_orderNow 33 = .ok (.iadd, 1) := by decide +kernel
theorem dX10_orderNow_34 : decode cX10_orderNow 34 = .ok (.imul, 1) := by decide +kernel
theorem dX10_orderNow_35 : decode cX10_orderNow 35 = .ok (.iload_n 2, 1) := by decide +kernel
theorem dX10_orderNow_36 : decode cX10_orderNow 36 = .ok (.iadd, 1) := by decide +kernel
theorem dX10_orderNow_37 : decode cX10_orderNow 37 = .ok (.iaload, 1) := by decide +kernel
theorem dX10_orderNow_38 : decode cX10_orderNow 38 = .ok (.iload 4, 2) := by decide +kernel
theorem dX10_orderNow_40 : decode cX10_orderNow 40 = .ok (.if_icmp .ne 7, 3) := by decide +kernel
theorem dX10_orderNow_43 : decode cX10_orderNow 43 = .ok (.iconst 0, 1) := by decide +kernel
theorem dX10_orderNow_44 : decode cX10_orderNow 44 = .ok (.goto 5, 3) := by decide +kernel
theorem dX10_orderNow_47 : decode cX10_orderNow 47 = .ok (.ldc 230, 2) := by decide +kernel
theorem dX10_orderNow_49 : decode cX10_orderNow 49 = .ok (.istore 5, 2) := by decide +kernel
theorem dX10_orderNow_51 : decode cX10_orderNow 51 = .ok (.aload_n 0, 1) := by decide +kernel
theorem dX10_orderNow_52 : decode cX10_orderNow 52 = .ok (.getfield 160, 3) := by decide +kernel
theorem dX10_orderNow_55 : decode cX10_orderNow 55 = .ok (.iconst 1, 1) := by decide +kernel
theorem dX10_orderNow_56 : decode cX10_orderNow 56 = .ok (.isub, 1) := by decide +kernel
theorem dX10_orderNow_57 : decode cX10_orderNow 57 = .ok (.istore 6, 2) := by decide +kernel
theorem dX10_orderNow_59 : decode cX10_orderNow 59 = .ok (.iload 6, 2) := by decide +kernel
theorem dX10_orderNow_61 : decode cX10_orderNow 61 = .ok (.ifCond .lt 80, 3) := by decide +kernel
theorem dX10_orderNow_64 : decode cX10_orderNow 64 = .ok (.iload 5, 2) := by decide +kernel
theorem dX10_orderNow_66 : decode cX10_orderNow 66 = .ok (.ifCond .eq 75, 3) := by decide +kernel
theorem dX10_orderNow_69 : decode cX10_orderNow 69 = .ok (.aload_n 0, 1) := by decide +kernel
theorem dX10_orderNow_70 : decode cX10_orderNow 70 = .ok (.getfield 68, 3) := by decide +kernel
theorem dX10_orderNow_73 : decode cX10_orderNow 73 = .ok (.iload_n 3, 1) := by decide +kernel
theorem dX10_orderNow_74 : decode cX10_orderNow 74 = .ok (.iaload, 1) := by decide +kernel
theorem dX10_orderNow_75 : decode cX10_orderNow 75 = .ok (.iload_n 2, 1) := by decide +kernel
theorem dX10_orderNow_76 : decode cX10_orderNow 76 = .ok (.iconst (-1), 1) := by decide +kernel
theorem dX10_orderNow_77 : decode cX10_orderNow 77 = .ok (.ixor, 1) := by decide +kernel
theorem dX10_orderNow_78 : decode cX10_orderNow 78 = .ok (.iand, 1) := by decide +kernel
theorem dX10_orderNow_79 : decode cX10_orderNow 79 = .ok (.iload 6, 2) := by decide +kernel
theorem dX10_orderNow_81 : decode cX10_orderNow 81 = .ok (.invokestatic 184, 3) := by decide +kernel
theorem dX10_orderNow_84 : decode cX10_orderNow 84 = .ok (.ifCond .eq 32, 3) := by decide +kernel
theorem dX10_orderNow_87 : decode cX10_orderNow 87 = .ok (.iconst 1, 1) := by decide +kernel
theorem dX10_orderNow_88 : decode cX10_orderNow 88 = .ok (.aload_n 0, 1) := by decide +kernel
theorem dX10_orderNow_89 : decode cX10_orderNow 89 = .ok (.getfield 71, 3) := by decide +kernel
theorem dX10_orderNow_92 : decode cX10_orderNow 92 = .ok (.bipush 16, 2) := by decide +kernel
theorem dX10_orderNow_94 : decode cX10_orderNow 94 = .ok (.iload_n 3, 1) := by decide +kernel
theorem dX10_orderNow_95 : decode cX10_orderNow 95 = .ok (.iconst 1, 1) := by decide +kernel
theorem dX10_orderNow_96 : decode cX10_orderNow 96 = .ok (.iadd, 1) := by decide +kernel
theorem dX10_orderNow_97 : decode cX10_orderNow 97 = .ok (.imul, 1) := by decide +kernel
theorem dX10_orderNow_98 : decode cX10_orderNow 98 = .ok (.iload_n 2, 1) := by decide +kernel
theorem dX10_orderNow_99 : decode cX10_orderNow 99 = .ok (.iconst 1, 1) := by decide +kernel
theorem dX10_orderNow_100 : decode cX10_orderNow 100 = .ok (.iload 6, 2) := by decide +kernel
theorem dX10_orderNow_102 : decode cX10_orderNow 102 = .ok (.ishl, 1) := by decide +kernel
theorem dX10_orderNow_103 : decode cX10_orderNow 103 = .ok (.ior, 1) := by decide +kernel
theorem dX10_orderNow_104 : decode cX10_orderNow 104 = .ok (.iadd, 1) := by decide +kernel
theorem dX10_orderNow_105 : decode cX10_orderNow 105 = .ok (.iaload, 1) := by decide +kernel
theorem dX10_orderNow_106 : decode cX10_orderNow 106 = .ok (.iadd, 1) := by decide +kernel
theorem dX10_orderNow_107 : decode cX10_orderNow 107 = .ok (.iload 4, 2) := by decide +kernel
theorem dX10_orderNow_109 : decode cX10_orderNow 109 = .ok (.if_icmp .ne 7, 3) := by decide +kernel
theorem dX10_orderNow_112 : decode cX10_orderNow 112 = .ok (.iconst 1, 1) := by decide +kernel
theorem dX10_orderNow_113 : decode cX10_orderNow 113 = .ok (.goto 4, 3) := by decide +kernel
theorem dX10_orderNow_116 : decode cX10_orderNow 116 = .ok (.iconst 0, 1) := by decide +kernel
theorem dX10_orderNow_117 : decode cX10_orderNow 117 = .ok (.istore 7, 2) := by decide +kernel
theorem dX10_orderNow_119 : decode cX10_orderNow 119 = .ok (.iload 7, 2) := by decide +kernel
theorem dX10_orderNow_121 : decode cX10_orderNow 121 = .ok (.ifCond .eq 10, 3) := by decide +kernel
theorem dX10_orderNow_124 : decode cX10_orderNow 124 = .ok (.iload 6, 2) := by decide +kernel
theorem dX10_orderNow_126 : decode cX10_orderNow 126 = .ok (.iconst 1, 1) := by decide +kernel
theorem dX10_orderNow_127 : decode cX10_orderNow 127 = .ok (.iadd, 1) := by decide +kernel
theorem dX10_orderNow_128 : decode cX10_orderNow 128 = .ok (.goto 5, 3) := by decide +kernel
theorem dX10_orderNow_131 : decode cX10_orderNow 131 = .ok (.iload 5, 2) := by decide +kernel
theorem dX10_orderNow_133 : decode cX10_orderNow 133 = .ok (.istore 5, 2) := by decide +kernel
theorem dX10_orderNow_135 : decode cX10_orderNow 135 = .ok (.iinc 6 (-1), 3) := by decide +kernel
theorem dX10_orderNow_138 : decode cX10_orderNow 138 = .ok (.goto (-79), 3) := by decide +kernel
theorem dX10_orderNow_141 : decode cX10_orderNow 141 = .ok (.bipush 10, 2) := by decide +kernel
theorem dX10_orderNow_143 : decode cX10_orderNow 143 = .ok (.iload_n 1, 1) := by decide +kernel
theorem dX10_orderNow_144 : decode cX10_orderNow 144 = .ok (.imul, 1) := by decide +kernel
theorem dX10_orderNow_145 : decode cX10_orderNow 145 = .ok (.iload 5, 2) := by decide +kernel
theorem dX10_orderNow_147 : decode cX10_orderNow 147 = .ok (.iadd, 1) := by decide +kernel
theorem dX10_orderNow_148 : decode cX10_orderNow 148 = .ok (.istore_n 1, 1) := by decide +kernel
theorem dX10_orderNow_149 : decode cX10_orderNow 149 = .ok (.iload_n 2, 1) := by decide +kernel
theorem dX10_orderNow_150 : decode cX10_orderNow 150 = .ok (.iload 5, 2) := by decide +kernel
theorem dX10_orderNow_152 : decode cX10_orderNow 152 = .ok (.ifCond .ne 7, 3) := by decide +kernel
theorem dX10_orderNow_155 : decode cX10_orderNow 155 = .ok (.iconst 0, 1) := by decide +kernel
theorem dX10_orderNow_156 : decode cX10_orderNow 156 = .ok (.goto 9, 3) := by decide +kernel
theorem dX10_orderNow_159 : decode cX10_orderNow 159 = .ok (.iconst 1, 1) := by decide +kernel
theorem dX10_orderNow_160 : decode cX10_orderNow 160 = .ok (.iload 5, 2) := by decide +kernel
theorem dX10_orderNow_162 : decode cX10_orderNow 162 = .ok (.iconst 1, 1) := by decide +kernel
theorem dX10_orderNow_163 : decode cX10_orderNow 163 = .ok (.isub, 1) := by decide +kernel
theorem dX10_orderNow_164 : decode cX10_orderNow 164 = .ok (.ishl, 1) := by decide +kernel
theorem dX10_orderNow_165 : decode cX10_orderNow 165 = .ok (.ior, 1) := by decide +kernel
theorem dX10_orderNow_166 : decode cX10_orderNow 166 = .ok (.istore_n 2, 1) := by decide +kernel
theorem dX10_orderNow_167 : decode cX10_orderNow 167 = .ok (.iinc 3 1, 3) := by decide +kernel
theorem dX10_orderNow_170 : decode cX10_orderNow 170 = .ok (.goto (-164), 3) := by decide +kernel
theorem dX10_orderNow_173 : decode cX10_orderNow 173 = .ok (.iload_n 1, 1) := by decide +kernel
theorem dX10_orderNow_174 : decode cX10_orderNow 174 = .ok (.ireturn, 1) := by decide +kernel
theorem dX10_termNow_0 : decode cX10_termNow 0 = .ok (.aload_n 0, 1) := by decide +kernel
theorem dX10_termNow_1 : decode cX10_termNow 1 = .ok (.invokevirtual 231, 3) := by decide +kernel
theorem dX10_termNow_4 : decode cX10_termNow 4 = .ok (.aload_n 0, 1) := by decide +kernel
theorem dX10_termNow_5 : decode cX10_termNow 5 = .ok (.invokevirtual 234, 3) := by decide +kernel
theorem dX10_termNow_8 : decode cX10_termNow 8 = .ok (.iload_n 1, 1) := by decide +kernel
theorem dX10_termNow_9 : decode cX10_termNow 9 = .ok (.ifCond .ne 13, 3) := by decide +kernel
theorem dX10_termNow_12 : decode cX10_termNow 12 = .ok (.aload_n 0, 1) := by decide +kernel
theorem dX10_termNow_13 : decode cX10_termNow 13 = .ok (.getfield 71, 3) := by decide +kernel
theorem dX10_termNow_16 : decode cX10_termNow 16 = .ok (.bipush 16, 2) := by decide +kernel
theorem dX10_termNow_18 : decode cX10_termNow 18 = .ok (.iaload, 1) := by decide +kernel
theorem dX10_termNow_19 : decode cX10_termNow 19 = .ok (.goto 7, 3) := by decide +kernel
theorem dX10_termNow_22 : decode cX10_termNow 22 = .ok (.aload_n 0, 1) := by decide +kernel
theorem dX10_termNow_23 : decode cX10_termNow 23 = .ok (.invokevirtual 237, 3) := by decide +kernel
theorem dX10_termNow_26 : decode cX10_termNow 26 = .ok (.ireturn, 1) := by decide +kernel
theorem dX10_term_0 : decode cX10_term 0 = .ok (.iload_n 1, 1) := by decide +kernel
theorem dX10_term_1 : decode cX10_term 1 = .ok (.iconst 0, 1) := by decide +kernel
theorem dX10_term_2 : decode cX10_term 2 = .ok (.iconst 1, 1) := by decide +kernel
theorem dX10_term_3 : decode cX10_term 3 = .ok (.invokestatic 101, 3) := by decide +kernel
theorem dX10_term_6 : decode cX10_term 6 = .ok (.ifCond .ne 6, 3) := by decide +kernel
theorem dX10_term_9 : decode cX10_term 9 = .ok (.bipush (-102), 2) := by decide +kernel
theorem dX10_term_11 : decode cX10_term 11 = .ok (.ireturn, 1) := by decide +kernel
theorem dX10_term_12 : decode cX10_term 12 = .ok (.aload_n 0, 1) := by decide +kernel
theorem dX10_term_13 : decode cX10_term 13 = .ok (.getfield 169, 3) := by decide +kernel
theorem dX10_term_16 : decode cX10_term 16 = .ok (.ifCond .ne 8, 3) := by decide +kernel
theorem dX10_term_19 : decode cX10_term 19 = .ok (.bipush (-103), 2) := by decide +kernel
theorem dX10_term_21 : decode cX10_term 21 = .ok (.goto 8, 3) := by decide +kernel
theorem dX10_term_24 : decode cX10_term 24 = .ok (.aload_n 0, 1) := by decide +kernel
theorem dX10_term_25 : decode cX10_term 25 = .ok (.iload_n 1, 1) := by decide +kernel
theorem dX10_term_26 : decode cX10_term 26 = .ok (.invokevirtual 240, 3) := by decide +kernel
theorem dX10_term_29 : decode cX10_term 29 = .ok (.ireturn, 1) := by decide +kernel
theorem dX10_isSaidSo_0 : decode cX10_isSaidSo 0 = .ok (.iconst 1, 1) := by decide +kernel
theorem dX10_isSaidSo_1 : decode cX10_isSaidSo 1 = .ok (.istore_n 2, 1) := by decide +kernel
theorem dX10_isSaidSo_2 : decode cX10_isSaidSo 2 = .ok (.iconst 0, 1) := by decide +kernel
theorem dX10_isSaidSo_3 : decode cX10_isSaidSo 3 = .ok (.istore_n 3, 1) := by decide +kernel
theorem dX10_isSaidSo_4 : decode cX10_isSaidSo 4 = .ok (.iload_n 3, 1) := by decide +kernel
theorem dX10_isSaidSo_5 : decode cX10_isSaidSo 5 = .ok (.bipush 6, 2) := by decide +kernel
theorem dX10_isSaidSo_7 : decode cX10_isSaidSo 7 = .ok (.if_icmp .ge 37, 3) := by decide +kernel
theorem dX10_isSaidSo_10 : decode cX10_isSaidSo 10 = .ok (.iload_n 2, 1) := by decide +kernel
theorem dX10_isSaidSo_11 : decode cX10_isSaidSo 11 = .ok (.ifCond .eq 25, 3) := by decide +kernel
theorem dX10_isSaidSo_14 : decode cX10_isSaidSo 14 = .ok (.aload_n 0, 1) := by decide +kernel
theorem dX10_isSaidSo_15 : decode cX10_isSaidSo 15 = .ok (.iload_n 1, 1) := by decide +kernel
theorem dX10_isSaidSo_16 : decode cX10_isSaidSo 16 = .ok (.iload_n 3, 1) := by decide +kernel
theorem dX10_isSaidSo_17 : decode cX10_isSaidSo 17 = .ok (.invokevirtual 205, 3) := by decide +kernel
theorem dX10_isSaidSo_20 : decode cX10_isSaidSo 20 = .ok (.aload_n 0, 1) := by decide +kernel
theorem dX10_isSaidSo_21 : decode cX10_isSaidSo 21 = .ok (.aload_n 0, 1) := by decide +kernel
theorem dX10_isSaidSo_22 : decode cX10_isSaidSo 22 = .ok (.invokevirtual 202, 3) := by decide +kernel
theorem dX10_isSaidSo_25 : decode cX10_isSaidSo 25 = .ok (.iload_n 3, 1) := by decide +kernel
theorem dX10_isSaidSo_26 : decode cX10_isSaidSo 26 = .ok (.invokevirtual 205, 3) := by decide +kernel
theorem dX10_isSaidSo_29 : decode cX10_isSaidSo 29 = .ok (.if_icmp .ne 7, 3) := by decide +kernel
theorem dX10_isSaidSo_32 : decode cX10_isSaidSo 32 = .ok (.iconst 1, 1) := by decide +kernel
theorem dX10_isSaidSo_33 : decode cX10_isSaidSo 33 = .ok (.goto 4, 3) := by decide +kernel
theorem dX10_isSaidSo_36 : decode cX10_isSaidSo 36 = .ok (.iconst 0, 1) := by decide +kernel
theorem dX10_isSaidSo_37 : decode cX10_isSaidSo 37 = .ok (.istore_n 2, 1) := by decide +kernel
theorem dX10_isSaidSo_38 : decode cX10_isSaidSo 38 = .ok (.iinc 3 1, 3) := by decide +kernel
theorem dX10_isSaidSo_41 : decode cX10_isSaidSo 41 = .ok (.goto (-37), 3) := by decide +kernel
theorem dX10_isSaidSo_44 : decode cX10_isSaidSo 44 = .ok (.iload_n 2, 1) := by decide +kernel
theorem dX10_isSaidSo_45 : decode cX10_isSaidSo 45 = .ok (.ireturn, 1) := by decide +kernel
theorem dX10_keepSet_0 : decode cX10_keepSet 0 = .ok (.aload_n 0, 1) := by decide +kernel
theorem dX10_keepSet_1 : decode cX10_keepSet 1 = .ok (.invokevirtual 202, 3) := by decide +kernel
theorem dX10_keepSet_4 : decode cX10_keepSet 4 = .ok (.istore_n 1, 1) := by decide +kernel
theorem dX10_keepSet_5 : decode cX10_keepSet 5 = .ok (.aload_n 0, 1) := by decide +kernel
theorem dX10_keepSet_6 : decode cX10_keepSet 6 = .ok (.invokevirtual 202, 3) := by decide +kernel
theorem dX10_keepSet_9 : decode cX10_keepSet 9 = .ok (.istore_n 2, 1) := by decide +kernel
theorem dX10_keepSet_10 : decode cX10_keepSet 10 = .ok (.iload_n 2, 1) := by decide +kernel
theorem dX10_keepSet_11 : decode cX10_keepSet 11 = .ok (.ifCond .lt 34, 3) := by decide +kernel
theorem dX10_keepSet_14 : decode cX10_keepSet 14 = .ok (.iload_n 2, 1) := by decide +kernel
theorem dX10_keepSet_15 : decode cX10_keepSet 15 = .ok (.invokestatic 243, 3) := by decide +kernel
theorem dX10_keepSet_18 : decode cX10_keepSet 18 = .ok (.iload_n 1, 1) := by decide +kernel
theorem dX10_keepSet_19 : decode cX10_keepSet 19 = .ok (.invokestatic 243, 3) := by decide +kernel
theorem dX10_keepSet_22 : decode cX10_keepSet 22 = .ok (.if_icmp .gt 15, 3) := by decide +kernel
theorem dX10_keepSet_25 : decode cX10_keepSet 25 = .ok (.aload_n 0, 1) := by decide +kernel
theorem dX10_keepSet_26 : decode cX10_keepSet 26 = .ok (.iload_n 2, 1) := by decide +kernel
theorem dX10_keepSet_27 : decode cX10_keepSet 27 = .ok (.invokevirtual 246, 3) := by decide +kernel
theorem dX10_keepSet_30 : decode cX10_keepSet 30 = .ok (.ifCond .eq 7, 3) := by decide +kernel
theorem dX10_keepSet_33 : decode cX10_keepSet 33 = .ok (.iload_n 2, 1) := by decide +kernel
theorem dX10_keepSet_34 : decode cX10_keepSet 34 = .ok (.goto 4, 3) := by decide +kernel
theorem dX10_keepSet_37 : decode cX10_keepSet 37 = .ok (.iload_n 1, 1) := by decide +kernel
theorem dX10_keepSet_38 : decode cX10_keepSet 38 = .ok (.istore_n 1, 1) := by decide +kernel
theorem dX10_keepSet_39 : decode cX10_keepSet 39 = .ok (.iinc 2 (-1), 3) := by decide +kernel
theorem dX10_keepSet_42 : decode cX10_keepSet 42 = .ok (.goto (-32), 3) := by decide +kernel
theorem dX10_keepSet_45 : decode cX10_keepSet 45 = .ok (.iload_n 1, 1) := by decide +kernel
theorem dX10_keepSet_46 : decode cX10_keepSet 46 = .ok (.ireturn, 1) := by decide +kernel
theorem dX10_keep_0 : decode cX10_keep 0 = .ok (.iload_n 1, 1) := by decide +kernel
theorem dX10_keep_1 : decode cX10_keep 1 = .ok (.iconst 0, 1) := by decide +kernel
theorem dX10_keep_2 : decode cX10_keep 2 = .ok (.iconst 1, 1) := by decide +kernel
theorem dX10_keep_3 : decode cX10_keep 3 = .ok (.invokestatic 101, 3) := by decide +kernel
theorem dX10_keep_6 : decode cX10_keep 6 = .ok (.ifCond .ne 6, 3) := by decide +kernel
theorem dX10_keep_9 : decode cX10_keep 9 = .ok (.bipush (-102), 2) := by decide +kernel
theorem dX10_keep_11 : decode cX10_keep 11 = .ok (.ireturn, 1) := by decide +kernel
theorem dX10_keep_12 : decode cX10_keep 12 = .ok (.aload_n 0, 1) := by decide +kernel
theorem dX10_keep_13 : decode cX10_keep 13 = .ok (.getfield 169, 3) := by decide +kernel
theorem dX10_keep_16 : decode cX10_keep 16 = .ok (.ifCond .ne 8, 3) := by decide +kernel
theorem dX10_keep_19 : decode cX10_keep 19 = .ok (.bipush (-103), 2) := by decide +kernel
theorem dX10_keep_21 : decode cX10_keep 21 = .ok (.goto 21, 3) := by decide +kernel
theorem dX10_keep_24 : decode cX10_keep 24 = .ok (.iload_n 1, 1) := by decide +kernel
theorem dX10_keep_25 : decode cX10_keep 25 = .ok (.ifCond .ne 13, 3) := by decide +kernel
theorem dX10_keep_28 : decode cX10_keep 28 = .ok (.aload_n 0, 1) := by decide +kernel
theorem dX10_keep_29 : decode cX10_keep 29 = .ok (.invokevirtual 249, 3) := by decide +kernel
theorem dX10_keep_32 : decode cX10_keep 32 = .ok (.invokestatic 243, 3) := by decide +kernel
theorem dX10_keep_35 : decode cX10_keep 35 = .ok (.goto 7, 3) := by decide +kernel
theorem dX10_keep_38 : decode cX10_keep 38 = .ok (.aload_n 0, 1) := by decide +kernel
theorem dX10_keep_39 : decode cX10_keep 39 = .ok (.invokevirtual 249, 3) := by decide +kernel
theorem dX10_keep_42 : decode cX10_keep 42 = .ok (.ireturn, 1) := by decide +kernel
theorem dX10_peaceSet_0 : decode cX10_peaceSet 0 = .ok (.aload_n 0, 1) := by decide +kernel
theorem dX10_peaceSet_1 : decode cX10_peaceSet 1 = .ok (.invokevirtual 202, 3) := by decide +kernel
theorem dX10_peaceSet_4 : decode cX10_peaceSet 4 = .ok (.istore_n 1, 1) := by decide +kernel
theorem dX10_peaceSet_5 : decode cX10_peaceSet 5 = .ok (.aload_n 0, 1) := by decide +kernel
theorem dX10_peaceSet_6 : decode cX10_peaceSet 6 = .ok (.invokevirtual 202, 3) := by decide +kernel
theorem dX10_peaceSet_9 : decode cX10_peaceSet 9 = .ok (.istore_n 2, 1) := by decide +kernel
theorem dX10_peaceSet_10 : decode cX10_peaceSet 10 = .ok (.iload_n 2, 1) := by decide +kernel
theorem dX10_peaceSet_11 : decode cX10_peaceSet 11 = .ok (.ifCond .lt 41, 3) := by decide +kernel
theorem dX10_peaceSet_14 : decode cX10_peaceSet 14 = .ok (.iload_n 2, 1) := by decide +kernel
theorem dX10_peaceSet_15 : decode cX10_peaceSet 15 = .ok (.invokestatic 243, 3) := by decide +kernel
theorem dX10_peaceSet_18 : decode cX10_peaceSet 18 = .ok (.iload_n 1, 1) := by decide +kernel
theorem dX10_peaceSet_19 : decode cX10_peaceSet 19 = .ok (.invokestatic 243, 3) := by decide +kernel
theorem dX10_peaceSet_22 : decode cX10_peaceSet 22 = .ok (.if_icmp .gt 22, 3) := by decide +kernel
theorem dX10_peaceSet_25 : decode cX10_peaceSet 25 = .ok (.aload_n 0, 1) := by decide +kernel
theorem dX10_peaceSet_26 : decode cX10_peaceSet 26 = .ok (.aload_n 0, 1) := by decide +kernel
theorem dX10_peaceSet_27 : decode cX10_peaceSet 27 = .ok (.invokevirtual 202, 3) := by decide +kernel
theorem dX10_peaceSet_30 : decode cX10_peaceSet 30 = .ok (.iload_n 2, 1) := by decide +kernel
theorem dX10_peaceSet_31 : decode cX10_peaceSet 31 = .ok (.iconst (-1), 1) := by decide +kernel
theorem dX10_peaceSet_32 : decode cX10_peaceSet 32 = .ok (.ixor, 1) := by decide +kernel
theorem dX10_peaceSet_33 : decode cX10_peaceSet 33 = .ok (.iand, 1) := by decide +kernel
theorem dX10_peaceSet_34 : decode cX10_peaceSet 34 = .ok (.invokevirtual 252, 3) := by decide +kernel
theorem dX10_peaceSet_37 : decode cX10_peaceSet 37 = .ok (.ifCond .ne 7, 3) := by decide +kernel
theorem dX10_peaceSet_40 : decode cX10_peaceSet 40 = .ok (.iload_n 2, 1) := by decide +kernel
theorem dX10_peaceSet_41 : decode cX10_peaceSet 41 = .ok (.goto 4, 3) := by decide +kernel
theorem dX10_peaceSet_44 : decode cX10_peaceSet 44 = .ok (.iload_n 1, 1) := by decide +kernel
theorem dX10_peaceSet_45 : decode cX10_peaceSet 45 = .ok (.istore_n 1, 1) := by decide +kernel
theorem dX10_peaceSet_46 : decode cX10_peaceSet 46 = .ok (.iinc 2 (-1), 3) := by decide +kernel
theorem dX10_peaceSet_49 : decode cX10_peaceSet 49 = .ok (.goto (-39), 3) := by decide +kernel
theorem dX10_peaceSet_52 : decode cX10_peaceSet 52 = .ok (.iload_n 1, 1) := by decide +kernel
theorem dX10_peaceSet_53 : decode cX10_peaceSet 53 = .ok (.ireturn, 1) := by decide +kernel
theorem dX10_peace_0 : decode cX10_peace 0 = .ok (.iload_n 1, 1) := by decide +kernel
theorem dX10_peace_1 : decode cX10_peace 1 = .ok (.iconst 0, 1) := by decide +kernel
theorem dX10_peace_2 : decode cX10_peace 2 = .ok (.iconst 1, 1) := by decide +kernel
theorem dX10_peace_3 : decode cX10_peace 3 = .ok (.invokestatic 101, 3) := by decide +kernel
theorem dX10_peace_6 : decode cX10_peace 6 = .ok (.ifCond .ne 6, 3) := by decide +kernel
theorem dX10_peace_9 : decode cX10_peace 9 = .ok (.bipush (-102), 2) := by decide +kernel
theorem dX10_peace_11 : decode cX10_peace 11 = .ok (.ireturn, 1) := by decide +kernel
theorem dX10_peace_12 : decode cX10_peace 12 = .ok (.aload_n 0, 1) := by decide +kernel
theorem dX10_peace_13 : decode cX10_peace 13 = .ok (.getfield 169, 3) := by decide +kernel
theorem dX10_peace_16 : decode cX10_peace 16 = .ok (.ifCond .ne 8, 3) := by decide +kernel
theorem dX10_peace_19 : decode cX10_peace 19 = .ok (.bipush (-103), 2) := by decide +kernel
theorem dX10_peace_21 : decode cX10_peace 21 = .ok (.goto 21, 3) := by decide +kernel
theorem dX10_peace_24 : decode cX10_peace 24 = .ok (.iload_n 1, 1) := by decide +kernel
theorem dX10_peace_25 : decode cX10_peace 25 = .ok (.ifCond .ne 13, 3) := by decide +kernel
theorem dX10_peace_28 : decode cX10_peace 28 = .ok (.aload_n 0, 1) := by decide +kernel
theorem dX10_peace_29 : decode cX10_peace 29 = .ok (.invokevirtual 255, 3) := by decide +kernel
theorem dX10_peace_32 : decode cX10_peace 32 = .ok (.invokestatic 243, 3) := by decide +kernel
theorem dX10_peace_35 : decode cX10_peace 35 = .ok (.goto 7, 3) := by decide +kernel
theorem dX10_peace_38 : decode cX10_peace 38 = .ok (.aload_n 0, 1) := by decide +kernel
theorem dX10_peace_39 : decode cX10_peace 39 = .ok (.invokevirtual 255, 3) := by decide +kernel
theorem dX10_peace_42 : decode cX10_peace 42 = .ok (.ireturn, 1) := by decide +kernel
theorem dX10_isWrong_0 : decode cX10_isWrong 0 = .ok (.iconst 0, 1) := by decide +kernel
theorem dX10_isWrong_1 : decode cX10_isWrong 1 = .ok (.istore_n 3, 1) := by decide +kernel
theorem dX10_isWrong_2 : decode cX10_isWrong 2 = .ok (.iconst 0, 1) := by decide +kernel
theorem dX10_isWrong_3 : decode cX10_isWrong 3 = .ok (.istore 4, 2) := by decide +kernel
theorem dX10_isWrong_5 : decode cX10_isWrong 5 = .ok (.iload 4, 2) := by decide +kernel
theorem dX10_isWrong_7 : decode cX10_isWrong 7 = .ok (.aload_n 0, 1) := by decide +kernel
theorem dX10_isWrong_8 : decode cX10_isWrong 8 = .ok (.getfield 16, 3) := by decide +kernel
theorem dX10_isWrong_11 : decode cX10_isWrong 11 = .ok (.iload_n 1, 1) := by decide +kernel
theorem dX10_isWrong_12 : decode cX10_isWrong 12 = .ok (.iaload, 1) := by decide +kernel
theorem dX10_isWrong_13 : decode cX10_isWrong 13 = .ok (.if_icmp .ge 54, 3) := by decide +kernel
theorem dX10_isWrong_16 : decode cX10_isWrong 16 = .ok (.iload_n 3, 1) := by decide +kernel
theorem dX10_isWrong_17 : decode cX10_isWrong 17 = .ok (.ifCond .ne 38, 3) := by decide +kernel
theorem dX10_isWrong_20 : decode cX10_isWrong 20 = .ok (.iload_n 2, 1) := by decide +kernel
theorem dX10_isWrong_21 : decode cX10_isWrong 21 = .ok (.iconst 2, 1) := by decide +kernel
theorem dX10_isWrong_22 : decode cX10_isWrong 22 = .ok (.aload_n 0, 1) := by decide +kernel
theorem dX10_isWrong_23 : decode cX10_isWrong 23 = .ok (.getfield 13, 3) := by decide +kernel
theorem dX10_isWrong_26 : decode cX10_isWrong 26 = .ok (.iconst 4, 1) := by decide +kernel
theorem dX10_isWrong_27 : decode cX10_isWrong 27 = .ok (.iload_n 1, 1) := by decide +kernel
theorem dX10_isWrong_28 : decode cX10_isWrong 28 = .ok (.imul, 1) := by decide +kernel
theorem dX10_isWrong_29 : decode cX10_isWrong 29 = .ok (.iload 4, 2) := by decide +kernel
theorem dX10_isWrong_31 : decode cX10_isWrong 31 = .ok (.iadd, 1) := by decide +kernel
theorem dX10_isWrong_32 : decode cX10_isWrong 32 = .ok (.iaload, 1) := by decide +kernel
theorem dX10_isWrong_33 : decode cX10_isWrong 33 = .ok (.iconst 4, 1) := by decide +kernel
theorem dX10_isWrong_34 : decode cX10_isWrong 34 = .ok (.idiv, 1) := by decide +kernel
theorem dX10_isWrong_35 : decode cX10_isWrong 35 = .ok (.imul, 1) := by decide +kernel
theorem dX10_isWrong_36 : decode cX10_isWrong 36 = .ok (.ishr, 1) := by decide +kernel
theorem dX10_isWrong_37 : decode cX10_isWrong 37 = .ok (.iconst 3, 1) := by decide +kernel
theorem dX10_isWrong_38 : decode cX10_isWrong 38 = .ok (.iand, 1) := by decide +kernel
theorem dX10_isWrong_39 : decode cX10_isWrong 39 = .ok (.aload_n 0, 1) := by decide +kernel
theorem dX10_isWrong_40 : decode cX10_isWrong 40 = .ok (.getfield 13, 3) := by decide +kernel
theorem dX10_isWrong_43 : decode cX10_isWrong 43 = .ok (.iconst 4, 1) := by decide +kernel
theorem dX10_isWrong_44 : decode cX10_isWrong 44 = .ok (.iload_n 1, 1) := by decide +kernel
theorem dX10_isWrong_45 : decode cX10_isWrong 45 = .ok (.imul, 1) := by decide +kernel
theorem dX10_isWrong_46 : decode cX10_isWrong 46 = .ok (.iload 4, 2) := by decide +kernel
theorem dX10_isWrong_48 : decode cX10_isWrong 48 = .ok (.iadd, 1) := by decide +kernel
theorem dX10_isWrong_49 : decode cX10_isWrong 49 = .ok (.iaload, 1) := by decide +kernel
theorem dX10_isWrong_50 : decode cX10_isWrong 50 = .ok (.iconst 4, 1) := by decide +kernel
theorem dX10_isWrong_51 : decode cX10_isWrong 51 = .ok (.irem, 1) := by decide +kernel
theorem dX10_isWrong_52 : decode cX10_isWrong 52 = .ok (.if_icmp .eq 7, 3) := by decide +kernel
theorem dX10_isWrong_55 : decode cX10_isWrong 55 = .ok (.iconst 1, 1) := by decide +kernel
theorem dX10_isWrong_56 : decode cX10_isWrong 56 = .ok (.goto 4, 3) := by decide +kernel
theorem dX10_isWrong_59 : decode cX10_isWrong 59 = .ok (.iconst 0, 1) := by decide +kernel
theorem dX10_isWrong_60 : decode cX10_isWrong 60 = .ok (.istore_n 3, 1) := by decide +kernel
theorem dX10_isWrong_61 : decode cX10_isWrong 61 = .ok (.iinc 4 1, 3) := by decide +kernel
theorem dX10_isWrong_64 : decode cX10_isWrong 64 = .ok (.goto (-59), 3) := by decide +kernel
theorem dX10_isWrong_67 : decode cX10_isWrong 67 = .ok (.iload_n 3, 1) := by decide +kernel
theorem dX10_isWrong_68 : decode cX10_isWrong 68 = .ok (.ireturn, 1) := by decide +kernel
theorem dX10_isWorld_0 : decode cX10_isWorld 0 = .ok (.iconst 0, 1) := by decide +kernel
theorem dX10_isWorld_1 : decode cX10_isWorld 1 = .ok (.istore_n 3, 1) := by decide +kernel
theorem dX10_isWorld_2 : decode cX10_isWorld 2 = .ok (.iconst 0, 1) := by decide +kernel
theorem dX10_isWorld_3 : decode cX10_isWorld 3 = .ok (.istore 4, 2) := by decide +kernel
theorem dX10_isWorld_5 : decode cX10_isWorld 5 = .ok (.iload 4, 2) := by decide +kernel
theorem dX10_isWorld_7 : decode cX10_isWorld 7 = .ok (.aload_n 0, 1) := by decide +kernel
theorem dX10_isWorld_8 : decode cX10_isWorld 8 = .ok (.getfield 157, 3) := by decide +kernel
theorem dX10_isWorld_11 : decode cX10_isWorld 11 = .ok (.if_icmp .ge 27, 3) := by decide +kernel
theorem dX10_isWorld_14 : decode cX10_isWorld 14 = .ok (.iload_n 3, 1) := by decide +kernel
theorem dX10_isWorld_15 : decode cX10_isWorld 15 = .ok (.aload_n 0, 1) := by decide +kernel
theorem dX10_isWorld_16 : decode cX10_isWorld 16 = .ok (.iload 4, 2) := by decide +kernel
theorem dX10_isWorld_18 : decode cX10_isWorld 18 = .ok (.iload_n 1, 1) := by decide +kernel
theorem dX10_isWorld_19 : decode cX10_isWorld 19 = .ok (.invokevirtual 258, 3) := by decide +kernel
theorem dX10_isWorld_22 : decode cX10_isWorld 22 = .ok (.ifCond .eq 7, 3) := by decide +kernel
theorem dX10_isWorld_25 : decode cX10_isWorld 25 = .ok (.iconst 1, 1) := by decide +kernel
theorem dX10_isWorld_26 : decode cX10_isWorld 26 = .ok (.goto 4, 3) := by decide +kernel
theorem dX10_isWorld_29 : decode cX10_isWorld 29 = .ok (.iconst 0, 1) := by decide +kernel
theorem dX10_isWorld_30 : decode cX10_isWorld 30 = .ok (.iadd, 1) := by decide +kernel
theorem dX10_isWorld_31 : decode cX10_isWorld 31 = .ok (.istore_n 3, 1) := by decide +kernel
theorem dX10_isWorld_32 : decode cX10_isWorld 32 = .ok (.iinc 4 1, 3) := by decide +kernel
theorem dX10_isWorld_35 : decode cX10_isWorld 35 = .ok (.goto (-30), 3) := by decide +kernel
theorem dX10_isWorld_38 : decode cX10_isWorld 38 = .ok (.iload_n 3, 1) := by decide +kernel
theorem dX10_isWorld_39 : decode cX10_isWorld 39 = .ok (.iload_n 2, 1) := by decide +kernel
theorem dX10_isWorld_40 : decode cX10_isWorld 40 = .ok (.if_icmp .gt 7, 3) := by decide +kernel
theorem dX10_isWorld_43 : decode cX10_isWorld 43 = .ok (.iconst 1, 1) := by decide +kernel
theorem dX10_isWorld_44 : decode cX10_isWorld 44 = .ok (.goto 4, 3) := by decide +kernel
theorem dX10_isWorld_47 : decode cX10_isWorld 47 = .ok (.iconst 0, 1) := by decide +kernel
theorem dX10_isWorld_48 : decode cX10_isWorld 48 = .ok (.ireturn, 1) := by decide +kernel
theorem dX10_worldsNow_0 : decode cX10_worldsNow 0 = .ok (.iconst 0, 1) := by decide +kernel
theorem dX10_worldsNow_1 : decode cX10_worldsNow 1 = .ok (.istore_n 2, 1) := by decide +kernel
theorem dX10_worldsNow_2 : decode cX10_worldsNow 2 = .ok (.iconst 0, 1) := by decide +kernel
theorem dX10_worldsNow_3 : decode cX10_worldsNow 3 = .ok (.istore_n 3, 1) := by decide +kernel
theorem dX10_worldsNow_4 : decode cX10_worldsNow 4 = .ok (.iload_n 3, 1) := by decide +kernel
theorem dX10_worldsNow_5 : decode cX10_worldsNow 5 = .ok (.sipush 4096, 3) := by decide +kernel
theorem dX10_worldsNow_8 : decode cX10_worldsNow 8 = .ok (.if_icmp .ge 26, 3) := by decide +kernel
theorem dX10_worldsNow_11 : decode cX10_worldsNow 11 = .ok (.iload_n 2, 1) := by decide +kernel
theorem dX10_worldsNow_12 : decode cX10_worldsNow 12 = .ok (.aload_n 0, 1) := by decide +kernel
theorem dX10_worldsNow_13 : decode cX10_worldsNow 13 = .ok (.iload_n 3, 1) := by decide +kernel
theorem dX10_worldsNow_14 : decode cX10_worldsNow 14 = .ok (.iload_n 1, 1) := by decide +kernel
theorem dX10_worldsNow_15 : decode cX10_worldsNow 15 = .ok (.invokevirtual 261, 3) := by decide +kernel
theorem dX10_worldsNow_18 : decode cX10_worldsNow 18 = .ok (.ifCond .eq 7, 3) := by decide +kernel
theorem dX10_worldsNow_21 : decode cX10_worldsNow 21 = .ok (.iconst 1, 1) := by decide +kernel
theorem dX10_worldsNow_22 : decode cX10_worldsNow 22 = .ok (.goto 4, 3) := by decide +kernel
theorem dX10_worldsNow_25 : decode cX10_worldsNow 25 = .ok (.iconst 0, 1) := by decide +kernel
theorem dX10_worldsNow_26 : decode cX10_worldsNow 26 = .ok (.iadd, 1) := by decide +kernel
theorem dX10_worldsNow_27 : decode cX10_worldsNow 27 = .ok (.istore_n 2, 1) := by decide +kernel
theorem dX10_worldsNow_28 : decode cX10_worldsNow 28 = .ok (.iinc 3 1, 3) := by decide +kernel
theorem dX10_worldsNow_31 : decode cX10_worldsNow 31 = .ok (.goto (-27), 3) := by decide +kernel
theorem dX10_worldsNow_34 : decode cX10_worldsNow 34 = .ok (.iload_n 2, 1) := by decide +kernel
theorem dX10_worldsNow_35 : decode cX10_worldsNow 35 = .ok (.ireturn, 1) := by decide +kernel
theorem dX10_worlds_0 : decode cX10_worlds 0 = .ok (.iload_n 1, 1) := by decide +kernel
theorem dX10_worlds_1 : decode cX10_worlds 1 = .ok (.iconst 0, 1) := by decide +kernel
theorem dX10_worlds_2 : decode cX10_worlds 2 = .ok (.iconst 5, 1) := by decide +kernel
theorem dX10_worlds_3 : decode cX10_worlds 3 = .ok (.invokestatic 101, 3) := by decide +kernel
theorem dX10_worlds_6 : decode cX10_worlds 6 = .ok (.ifCond .ne 6, 3) := by decide +kernel
theorem dX10_worlds_9 : decode cX10_worlds 9 = .ok (.bipush (-102), 2) := by decide +kernel
theorem dX10_worlds_11 : decode cX10_worlds 11 = .ok (.ireturn, 1) := by decide +kernel
theorem dX10_worlds_12 : decode cX10_worlds 12 = .ok (.aload_n 0, 1) := by decide +kernel
theorem dX10_worlds_13 : decode cX10_worlds 13 = .ok (.getfield 169, 3) := by decide +kernel
theorem dX10_worlds_16 : decode cX10_worlds 16 = .ok (.ifCond .ne 8, 3) := by decide +kernel
theorem dX10_worlds_19 : decode cX10_worlds 19 = .ok (.bipush (-103), 2) := by decide +kernel
theorem dX10_worlds_21 : decode cX10_worlds 21 = .ok (.goto 8, 3) := by decide +kernel
theorem dX10_worlds_24 : decode cX10_worlds 24 = .ok (.aload_n 0, 1) := by decide +kernel
theorem dX10_worlds_25 : decode cX10_worlds 25 = .ok (.iload_n 1, 1) := by decide +kernel
theorem dX10_worlds_26 : decode cX10_worlds 26 = .ok (.invokevirtual 264, 3) := by decide +kernel
theorem dX10_worlds_29 : decode cX10_worlds 29 = .ok (.ireturn, 1) := by decide +kernel
theorem dX10_oddsNow_0 : decode cX10_oddsNow 0 = .ok (.iconst 0, 1) := by decide +kernel
theorem dX10_oddsNow_1 : decode cX10_oddsNow 1 = .ok (.istore 5, 2) := by decide +kernel
theorem dX10_oddsNow_3 : decode cX10_oddsNow 3 = .ok (.iconst 0, 1) := by decide +kernel
theorem dX10_oddsNow_4 : decode cX10_oddsNow 4 = .ok (.istore 6, 2) := by decide +kernel
theorem dX10_oddsNow_6 : decode cX10_oddsNow 6 = .ok (.iload 6, 2) := by decide +kernel
theorem dX10_oddsNow_8 : decode cX10_oddsNow 8 = .ok (.sipush 4096, 3) := by decide +kernel
theorem dX10_oddsNow_11 : decode cX10_oddsNow 11 = .ok (.if_icmp .ge 41, 3) := by decide +kernel
theorem dX10_oddsNow_14 : decode cX10_oddsNow 14 = .ok (.iload 5, 2) := by decide +kernel
theorem dX10_oddsNow_16 : decode cX10_oddsNow 16 = .ok (.iload 6, 2) := by decide +kernel
theorem dX10_oddsNow_18 : decode cX10_oddsNow 18 = .ok (.iconst 2, 1) := by decide +kernel
theorem dX10_oddsNow_19 : decode cX10_oddsNow 19 = .ok (.iload_n 1, 1) := by decide +kernel
theorem dX10_oddsNow_20 : decode cX10_oddsNow 20 = .ok (.imul, 1) := by decide +kernel
theorem dX10_oddsNow_21 : decode cX10_oddsNow 21 = .ok (.ishr, 1) := by decide +kernel
theorem dX10_oddsNow_22 : decode cX10_oddsNow 22 = .ok (.iconst 3, 1) := by decide +kernel
theorem dX10_oddsNow_23 : decode cX10_oddsNow 23 = .ok (.iand, 1) := by decide +kernel
theorem dX10_oddsNow_24 : decode cX10_oddsNow 24 = .ok (.iload_n 2, 1) := by decide +kernel
theorem dX10_oddsNow_25 : decode cX10_oddsNow 25 = .ok (.if_icmp .ne 17, 3) := by decide +kernel
theorem dX10_oddsNow_28 : decode cX10_oddsNow 28 = .ok (.aload_n 0, 1) := by decide +kernel
theorem dX10_oddsNow_29 : decode cX10_oddsNow 29 = .ok (.iload 6, 2) := by decide +kernel
theorem dX10_oddsNow_31 : decode cX10_oddsNow 31 = .ok (.iload_n 3, 1) := by decide +kernel
theorem dX10_oddsNow_32 : decode cX10_oddsNow 32 = .ok (.invokevirtual 261, 3) := by decide +kernel
theorem dX10_oddsNow_35 : decode cX10_oddsNow 35 = .ok (.ifCond .eq 7, 3) := by decide +kernel
theorem dX10_oddsNow_38 : decode cX10_oddsNow 38 = .ok (.iconst 1, 1) := by decide +kernel
theorem dX10_oddsNow_39 : decode cX10_oddsNow 39 = .ok (.goto 4, 3) := by decide +kernel
theorem dX10_oddsNow_42 : decode cX10_oddsNow 42 = .ok (.iconst 0, 1) := by decide +kernel
theorem dX10_oddsNow_43 : decode cX10_oddsNow 43 = .ok (.iadd, 1) := by decide +kernel
theorem dX10_oddsNow_44 : decode cX10_oddsNow 44 = .ok (.istore 5, 2) := by decide +kernel
theorem dX10_oddsNow_46 : decode cX10_oddsNow 46 = .ok (.iinc 6 1, 3) := by decide +kernel
theorem dX10_oddsNow_49 : decode cX10_oddsNow 49 = .ok (.goto (-43), 3) := by decide +kernel
theorem dX10_oddsNow_52 : decode cX10_oddsNow 52 = .ok (.iload 5, 2) := by decide +kernel
theorem dX10_oddsNow_54 : decode cX10_oddsNow 54 = .ok (.ifCond .ne 6, 3) := by decide +kernel
theorem dX10_oddsNow_57 : decode cX10_oddsNow 57 = .ok (.iload 4, 2) := by decide +kernel
theorem dX10_oddsNow_59 : decode cX10_oddsNow 59 = .ok (.ireturn, 1) := by decide +kernel
theorem dX10_oddsNow_60 : decode cX10_oddsNow 60 = .ok (.aload_n 0, 1) := by decide +kernel
theorem dX10_oddsNow_61 : decode cX10_oddsNow 61 = .ok (.iload_n 3, 1) := by decide +kernel
theorem dX10_oddsNow_62 : decode cX10_oddsNow 62 = .ok (.invokevirtual 264, 3) := by decide +kernel
theorem dX10_oddsNow_65 : decode cX10_oddsNow 65 = .ok (.istore 6, 2) := by decide +kernel
theorem dX10_oddsNow_67 : decode cX10_oddsNow 67 = .ok (.iload 5, 2) := by decide +kernel
theorem dX10_oddsNow_69 : decode cX10_oddsNow 69 = .ok (.iload 6, 2) := by decide +kernel
theorem dX10_oddsNow_71 : decode cX10_oddsNow 71 = .ok (.invokestatic 267, 3) := by decide +kernel
theorem dX10_oddsNow_74 : decode cX10_oddsNow 74 = .ok (.istore 7, 2) := by decide +kernel
theorem dX10_oddsNow_76 : decode cX10_oddsNow 76 = .ok (.iload 4, 2) := by decide +kernel
theorem dX10_oddsNow_78 : decode cX10_oddsNow 78 = .ok (.ifCond .ne 11, 3) := by decide +kernel
theorem dX10_oddsNow_81 : decode cX10_oddsNow 81 = .ok (.iload 5, 2) := by decide +kernel
theorem dX10_oddsNow_83 : decode cX10_oddsNow 83 = .ok (.iload 7, 2) := by decide +kernel
theorem dX10_oddsNow_85 : decode cX10_oddsNow 85 = .ok (.idiv, 1) := by decide +kernel
theorem dX10_oddsNow_86 : decode cX10_oddsNow 86 = .ok (.goto 8, 3) := by decide +kernel
theorem dX10_oddsNow_89 : decode cX10_oddsNow 89 = .ok (.iload 6, 2) := by decide +kernel
theorem dX10_oddsNow_91 : decode cX10_oddsNow 91 = .ok (.iload 7, 2) := by decide +kernel
theorem dX10_oddsNow_93 : decode cX10_oddsNow 93 = .ok (.idiv, 1) := by decide +kernel
theorem dX10_oddsNow_94 : decode cX10_oddsNow 94 = .ok (.ireturn, 1) := by decide +kernel
theorem dX10_odds_0 : decode cX10_odds 0 = .ok (.iload_n 1, 1) := by decide +kernel
theorem dX10_odds_1 : decode cX10_odds 1 = .ok (.iload_n 2, 1) := by decide +kernel
theorem dX10_odds_2 : decode cX10_odds 2 = .ok (.invokestatic 208, 3) := by decide +kernel
theorem dX10_odds_5 : decode cX10_odds 5 = .ok (.ifCond .eq 22, 3) := by decide +kernel
theorem dX10_odds_8 : decode cX10_odds 8 = .ok (.iload_n 3, 1) := by decide +kernel
theorem dX10_odds_9 : decode cX10_odds 9 = .ok (.iconst 0, 1) := by decide +kernel
theorem dX10_odds_10 : decode cX10_odds 10 = .ok (.iconst 5, 1) := by decide +kernel
theorem dX10_odds_11 : decode cX10_odds 11 = .ok (.invokestatic 101, 3) := by decide +kernel
theorem dX10_odds_14 : decode cX10_odds 14 = .ok (.ifCond .eq 13, 3) := by decide +kernel
theorem dX10_odds_17 : decode cX10_odds 17 = .ok (.iload 4, 2) := by decide +kernel
theorem dX10_odds_19 : decode cX10_odds 19 = .ok (.iconst 0, 1) := by decide +kernel
theorem dX10_odds_20 : decode cX10_odds 20 = .ok (.iconst 1, 1) := by decide +kernel
theorem dX10_odds_21 : decode cX10_odds 21 = .ok (.invokestatic 101, 3) := by decide +kernel
theorem dX10_odds_24 : decode cX10_odds 24 = .ok (.ifCond .ne 6, 3) := by decide +kernel
theorem dX10_odds_27 : decode cX10_odds 27 = .ok (.bipush (-102), 2) := by decide +kernel
theorem dX10_odds_29 : decode cX10_odds 29 = .ok (.ireturn, 1) := by decide +kernel
theorem dX10_odds_30 : decode cX10_odds 30 = .ok (.aload_n 0, 1) := by decide +kernel
theorem dX10_odds_31 : decode cX10_odds 31 = .ok (.getfield 169, 3) := by decide +kernel
theorem dX10_odds_34 : decode cX10_odds 34 = .ok (.ifCond .ne 8, 3) := by decide +kernel
theorem dX10_odds_37 : decode cX10_odds 37 = .ok (.bipush (-103), 2) := by decide +kernel
theorem dX10_odds_39 : decode cX10_odds 39 = .ok (.goto 12, 3) := by decide +kernel
theorem dX10_odds_42 : decode cX10_odds 42 = .ok (.aload_n 0, 1) := by decide +kernel
theorem dX10_odds_43 : decode cX10_odds 43 = .ok (.iload_n 1, 1) := by decide +kernel
theorem dX10_odds_44 : decode cX10_odds 44 = .ok (.iload_n 2, 1) := by decide +kernel
theorem dX10_odds_45 : decode cX10_odds 45 = .ok (.iload_n 3, 1) := by decide +kernel
theorem dX10_odds_46 : decode cX10_odds 46 = .ok (.iload 4, 2) := by decide +kernel
theorem dX10_odds_48 : decode cX10_odds 48 = .ok (.invokevirtual 270, 3) := by decide +kernel
theorem dX10_odds_51 : decode cX10_odds 51 = .ok (.ireturn, 1) := by decide +kernel
theorem dX10_could_0 : decode cX10_could 0 = .ok (.iload_n 1, 1) := by decide +kernel
theorem dX10_could_1 : decode cX10_could 1 = .ok (.tableswitch 78 0 2 #[27, 47, 67], 27) := by decide +kernel
theorem dX10_could_28 : decode cX10_could 28 = .ok (.iload_n 0, 1) := by decide +kernel
theorem dX10_could_29 : decode cX10_could 29 = .ok (.ifCond .eq 13, 3) := by decide +kernel
theorem dX10_could_32 : decode cX10_could 32 = .ok (.iload_n 0, 1) := by decide +kernel
theorem dX10_could_33 : decode cX10_could 33 = .ok (.iconst 3, 1) := by decide +kernel
theorem dX10_could_34 : decode cX10_could 34 = .ok (.if_icmp .eq 8, 3) := by decide +kernel
theorem dX10_could_37 : decode cX10_could 37 = .ok (.iload_n 0, 1) := by decide +kernel
theorem dX10_could_38 : decode cX10_could 38 = .ok (.iconst 4, 1) := by decide +kernel
theorem dX10_could_39 : decode cX10_could 39 = .ok (.if_icmp .ne 7, 3) := by decide +kernel
theorem dX10_could_42 : decode cX10_could 42 = .ok (.iconst 1, 1) := by decide +kernel
theorem dX10_could_43 : decode cX10_could 43 = .ok (.goto 4, 3) := by decide +kernel
theorem dX10_could_46 : decode cX10_could 46 = .ok (.iconst 0, 1) := by decide +kernel
theorem dX10_could_47 : decode cX10_could 47 = .ok (.ireturn, 1) := by decide +kernel
theorem dX10_could_48 : decode cX10_could 48 = .ok (.iload_n 0, 1) := by decide +kernel
theorem dX10_could_49 : decode cX10_could 49 = .ok (.ifCond .eq 13, 3) := by decide +kernel
theorem dX10_could_52 : decode cX10_could 52 = .ok (.iload_n 0, 1) := by decide +kernel
theorem dX10_could_53 : decode cX10_could 53 = .ok (.iconst 1, 1) := by decide +kernel
theorem dX10_could_54 : decode cX10_could 54 = .ok (.if_icmp .eq 8, 3) := by decide +kernel
theorem dX10_could_57 : decode cX10_could 57 = .ok (.iload_n 0, 1) := by decide +kernel
theorem dX10_could_58 : decode cX10_could 58 = .ok (.iconst 3, 1) := by decide +kernel
theorem dX10_could_59 : decode cX10_could 59 = .ok (.if_icmp .ne 7, 3) := by decide +kernel
theorem dX10_could_62 : decode cX10_could 62 = .ok (.iconst 1, 1) := by decide +kernel
theorem dX10_could_63 : decode cX10_could 63 = .ok (.goto 4, 3) := by decide +kernel
theorem dX10_could_66 : decode cX10_could 66 = .ok (.iconst 0, 1) := by decide +kernel
theorem dX10_could_67 : decode cX10_could 67 = .ok (.ireturn, 1) := by decide +kernel
theorem dX10_could_68 : decode cX10_could 68 = .ok (.iload_n 0, 1) := by decide +kernel
theorem dX10_could_69 : decode cX10_could 69 = .ok (.iconst 2, 1) := by decide +kernel
theorem dX10_could_70 : decode cX10_could 70 = .ok (.if_icmp .eq 7, 3) := by decide +kernel
theorem dX10_could_73 : decode cX10_could 73 = .ok (.iconst 1, 1) := by decide +kernel
theorem dX10_could_74 : decode cX10_could 74 = .ok (.goto 4, 3) := by decide +kernel
theorem dX10_could_77 : decode cX10_could 77 = .ok (.iconst 0, 1) := by decide +kernel
theorem dX10_could_78 : decode cX10_could 78 = .ok (.ireturn, 1) := by decide +kernel
theorem dX10_could_79 : decode cX10_could 79 = .ok (.iload_n 0, 1) := by decide +kernel
theorem dX10_could_80 : decode cX10_could 80 = .ok (.ifCond .ne 7, 3) := by decide +kernel
theorem dX10_could_83 : decode cX10_could 83 = .ok (.iconst 1, 1) := by decide +kernel
theorem dX10_could_84 : decode cX10_could 84 = .ok (.goto 4, 3) := by decide +kernel
theorem dX10_could_87 : decode cX10_could 87 = .ok (.iconst 0, 1) := by decide +kernel
theorem dX10_could_88 : decode cX10_could 88 = .ok (.ireturn, 1) := by decide +kernel
theorem dX10_see_0 : decode cX10_see 0 = .ok (.aload_n 0, 1) := by decide +kernel
theorem dX10_see_1 : decode cX10_see 1 = .ok (.iload_n 1, 1) := by decide +kernel
theorem dX10_see_2 : decode cX10_see 2 = .ok (.invokevirtual 196, 3) := by decide +kernel
theorem dX10_see_5 : decode cX10_see 5 = .ok (.ifCond .ne 6, 3) := by decide +kernel
theorem dX10_see_8 : decode cX10_see 8 = .ok (.bipush (-101), 2) := by decide +kernel
theorem dX10_see_10 : decode cX10_see 10 = .ok (.ireturn, 1) := by decide +kernel
theorem dX10_see_11 : decode cX10_see 11 = .ok (.iload_n 2, 1) := by decide +kernel
theorem dX10_see_12 : decode cX10_see 12 = .ok (.iconst 0, 1) := by decide +kernel
theorem dX10_see_13 : decode cX10_see 13 = .ok (.iconst 3, 1) := by decide +kernel
theorem dX10_see_14 : decode cX10_see 14 = .ok (.invokestatic 101, 3) := by decide +kernel
theorem dX10_see_17 : decode cX10_see 17 = .ok (.ifCond .ne 6, 3) := by decide +kernel
theorem dX10_see_20 : decode cX10_see 20 = .ok (.bipush (-102), 2) := by decide +kernel
theorem dX10_see_22 : decode cX10_see 22 = .ok (.ireturn, 1) := by decide +kernel
theorem dX10_see_23 : decode cX10_see 23 = .ok (.aload_n 0, 1) := by decide +kernel
theorem dX10_see_24 : decode cX10_see 24 = .ok (.getfield 172, 3) := by decide +kernel
theorem dX10_see_27 : decode cX10_see 27 = .ok (.bipush 6, 2) := by decide +kernel
theorem dX10_see_29 : decode cX10_see 29 = .ok (.if_icmp .ne 6, 3) := by decide +kernel
theorem dX10_see_32 : decode cX10_see 32 = .ok (.bipush (-104), 2) := by decide +kernel
theorem dX10_see_34 : decode cX10_see 34 = .ok (.ireturn, 1) := by decide +kernel
theorem dX10_see_35 : decode cX10_see 35 = .ok (.aload_n 0, 1) := by decide +kernel
theorem dX10_see_36 : decode cX10_see 36 = .ok (.getfield 34, 3) := by decide +kernel
theorem dX10_see_39 : decode cX10_see 39 = .ok (.aload_n 0, 1) := by decide +kernel
theorem dX10_see_40 : decode cX10_see 40 = .ok (.getfield 172, 3) := by decide +kernel
theorem dX10_see_43 : decode cX10_see 43 = .ok (.iload_n 1, 1) := by decide +kernel
theorem dX10_see_44 : decode cX10_see 44 = .ok (.iastore, 1) := by decide +kernel
theorem dX10_see_45 : decode cX10_see 45 = .ok (.aload_n 0, 1) := by decide +kernel
theorem dX10_see_46 : decode cX10_see 46 = .ok (.getfield 37, 3) := by decide +kernel
theorem dX10_see_49 : decode cX10_see 49 = .ok (.aload_n 0, 1) := by decide +kernel
theorem dX10_see_50 : decode cX10_see 50 = .ok (.getfield 172, 3) := by decide +kernel
theorem dX10_see_53 : decode cX10_see 53 = .ok (.iload_n 2, 1) := by decide +kernel
theorem dX10_see_54 : decode cX10_see 54 = .ok (.iastore, 1) := by decide +kernel
theorem dX10_see_55 : decode cX10_see 55 = .ok (.aload_n 0, 1) := by decide +kernel
theorem dX10_see_56 : decode cX10_see 56 = .ok (.getfield 40, 3) := by decide +kernel
theorem dX10_see_59 : decode cX10_see 59 = .ok (.aload_n 0, 1) := by decide +kernel
theorem dX10_see_60 : decode cX10_see 60 = .ok (.getfield 172, 3) := by decide +kernel
theorem dX10_see_63 : decode cX10_see 63 = .ok (.iload_n 3, 1) := by decide +kernel
theorem dX10_see_64 : decode cX10_see 64 = .ok (.ifCond .eq 7, 3) := by decide +kernel
theorem dX10_see_67 : decode cX10_see 67 = .ok (.iconst 1, 1) := by decide +kernel
theorem dX10_see_68 : decode cX10_see 68 = .ok (.goto 4, 3) := by decide +kernel
theorem dX10_see_71 : decode cX10_see 71 = .ok (.iconst 0, 1) := by decide +kernel
theorem dX10_see_72 : decode cX10_see 72 = .ok (.iastore, 1) := by decide +kernel
theorem dX10_see_73 : decode cX10_see 73 = .ok (.aload_n 0, 1) := by decide +kernel
theorem dX10_see_74 : decode cX10_see 74 = .ok (.dup, 1) := by decide +kernel
theorem dX10_see_75 : decode cX10_see 75 = .ok (.getfield 172, 3) := by decide +kernel
theorem dX10_see_78 : decode cX10_see 78 = .ok (.iconst 1, 1) := by decide +kernel
theorem dX10_see_79 : decode cX10_see 79 = .ok (.iadd, 1) := by decide +kernel
theorem dX10_see_80 : decode cX10_see 80 = .ok (.putfield 172, 3) := by decide +kernel
theorem dX10_see_83 : decode cX10_see 83 = .ok (.aload_n 0, 1) := by decide +kernel
theorem dX10_see_84 : decode cX10_see 84 = .ok (.getfield 172, 3) := by decide +kernel
theorem dX10_see_87 : decode cX10_see 87 = .ok (.ireturn, 1) := by decide +kernel
theorem dX10_forget_0 : decode cX10_forget 0 = .ok (.aload_n 0, 1) := by decide +kernel
theorem dX10_forget_1 : decode cX10_forget 1 = .ok (.getfield 172, 3) := by decide +kernel
theorem dX10_forget_4 : decode cX10_forget 4 = .ok (.istore_n 1, 1) := by decide +kernel
theorem dX10_forget_5 : decode cX10_forget 5 = .ok (.aload_n 0, 1) := by decide +kernel
theorem dX10_forget_6 : decode cX10_forget 6 = .ok (.iconst 0, 1) := by decide +kernel
theorem dX10_forget_7 : decode cX10_forget 7 = .ok (.putfield 172, 3) := by decide +kernel
theorem dX10_forget_10 : decode cX10_forget 10 = .ok (.iload_n 1, 1) := by decide +kernel
theorem dX10_forget_11 : decode cX10_forget 11 = .ok (.ireturn, 1) := by decide +kernel
theorem dX10_sortsOf_0 : decode cX10_sortsOf 0 = .ok (.iconst 0, 1) := by decide +kernel
theorem dX10_sortsOf_1 : decode cX10_sortsOf 1 = .ok (.istore_n 2, 1) := by decide +kernel
theorem dX10_sortsOf_2 : decode cX10_sortsOf 2 = .ok (.iconst 0, 1) := by decide +kernel
theorem dX10_sortsOf_3 : decode cX10_sortsOf 3 = .ok (.istore_n 3, 1) := by decide +kernel
theorem dX10_sortsOf_4 : decode cX10_sortsOf 4 = .ok (.iload_n 3, 1) := by decide +kernel
theorem dX10_sortsOf_5 : decode cX10_sortsOf 5 = .ok (.iconst 4, 1) := by decide +kernel
theorem dX10_sortsOf_6 : decode cX10_sortsOf 6 = .ok (.if_icmp .gt 98, 3) := by decide +kernel
theorem dX10_sortsOf_9 : decode cX10_sortsOf 9 = .ok (.iconst 1, 1) := by decide +kernel
theorem dX10_sortsOf_10 : decode cX10_sortsOf 10 = .ok (.istore 4, 2) := by decide +kernel
theorem dX10_sortsOf_12 : decode cX10_sortsOf 12 = .ok (.iconst 0, 1) := by decide +kernel
theorem dX10_sortsOf_13 : decode cX10_sortsOf 13 = .ok (.istore 5, 2) := by decide +kernel
theorem dX10_sortsOf_15 : decode cX10_sortsOf 15 = .ok (.iload 5, 2) := by decide +kernel
theorem dX10_sortsOf_17 : decode cX10_sortsOf 17 = .ok (.aload_n 0, 1) := by decide +kernel
theorem dX10_sortsOf_18 : decode cX10_sortsOf 18 = .ok (.getfield 172, 3) := by decide +kernel
theorem dX10_sortsOf_21 : decode cX10_sortsOf 21 = .ok (.if_icmp .ge 62, 3) := by decide +kernel
theorem dX10_sortsOf_24 : decode cX10_sortsOf 24 = .ok (.iload 4, 2) := by decide +kernel
theorem dX10_sortsOf_26 : decode cX10_sortsOf 26 = .ok (.ifCond .eq 48, 3) := by decide +kernel
theorem dX10_sortsOf_29 : decode cX10_sortsOf 29 = .ok (.aload_n 0, 1) := by decide +kernel
theorem dX10_sortsOf_30 : decode cX10_sortsOf 30 = .ok (.getfield 34, 3) := by decide +kernel
theorem dX10_sortsOf_33 : decode cX10_sortsOf 33 = .ok (.iload 5, 2) := by decide +kernel
theorem dX10_sortsOf_35 : decode cX10_sortsOf 35 = .ok (.iaload, 1) := by decide +kernel
theorem dX10_sortsOf_36 : decode cX10_sortsOf 36 = .ok (.iload_n 1, 1) := by decide +kernel
theorem dX10_sortsOf_37 : decode cX10_sortsOf 37 = .ok (.if_icmp .ne 33, 3) := by decide +kernel
theorem dX10_sortsOf_40 : decode cX10_sortsOf 40 = .ok (.iload_n 3, 1) := by decide +kernel
theorem dX10_sortsOf_41 : decode cX10_sortsOf 41 = .ok (.aload_n 0, 1) := by decide +kernel
theorem dX10_sortsOf_42 : decode cX10_sortsOf 42 = .ok (.getfield 37, 3) := by decide +kernel
theorem dX10_sortsOf_45 : decode cX10_sortsOf 45 = .ok (.iload 5, 2) := by decide +kernel
theorem dX10_sortsOf_47 : decode cX10_sortsOf 47 = .ok (.iaload, 1) := by decide +kernel
theorem dX10_sortsOf_48 : decode cX10_sortsOf 48 = .ok (.invokestatic 274, 3) := by decide +kernel
theorem dX10_sortsOf_51 : decode cX10_sortsOf 51 = .ok (.aload_n 0, 1) := by decide +kernel
theorem dX10_sortsOf_52 : decode cX10_sortsOf 52 = .ok (.getfield 40, 3) := by decide +kernel
theorem dX10_sortsOf_55 : decode cX10_sortsOf 55 = .ok (.iload 5, 2) := by decide +kernel
theorem dX10_sortsOf_57 : decode cX10_sortsOf 57 = .ok (.iaload, 1) := by decide +kernel
theorem dX10_sortsOf_58 : decode cX10_sortsOf 58 = .ok (.iconst 1, 1) := by decide +kernel
theorem dX10_sortsOf_59 : decode cX10_sortsOf 59 = .ok (.if_icmp .ne 7, 3) := by decide +kernel
theorem dX10_sortsOf_62 : decode cX10_sortsOf 62 = .ok (.iconst 1, 1) := by decide +kernel
theorem dX10_sortsOf_63 : decode cX10_sortsOf 63 = .ok (.goto 4, 3) := by decide +kernel
theorem dX10_sortsOf_66 : decode cX10_sortsOf 66 = .ok (.iconst 0, 1) := by decide +kernel
theorem dX10_sortsOf_67 : decode cX10_sortsOf 67 = .ok (.if_icmp .ne 7, 3) := by decide +kernel
theorem dX10_sortsOf_70 : decode cX10_sortsOf 70 = .ok (.iconst 1, 1) := by decide +kernel
theorem dX10_sortsOf_71 : decode cX10_sortsOf 71 = .ok (.goto 4, 3) := by decide +kernel
theorem dX10_sortsOf_74 : decode cX10_sortsOf 74 = .ok (.iconst 0, 1) := by decide +kernel
theorem dX10_sortsOf_75 : decode cX10_sortsOf 75 = .ok (.istore 4, 2) := by decide +kernel
theorem dX10_sortsOf_77 : decode cX10_sortsOf 77 = .ok (.iinc 5 1, 3) := by decide +kernel
theorem dX10_sortsOf_80 : decode cX10_sortsOf 80 = .ok (.goto (-65), 3) := by decide +kernel
theorem dX10_sortsOf_83 : decode cX10_sortsOf 83 = .ok (.iload_n 2, 1) := by decide +kernel
theorem dX10_sortsOf_84 : decode cX10_sortsOf 84 = .ok (.iload 4, 2) := by decide +kernel
theorem dX10_sortsOf_86 : decode cX10_sortsOf 86 = .ok (.ifCond .eq 9, 3) := by decide +kernel
theorem dX10_sortsOf_89 : decode cX10_sortsOf 89 = .ok (.iconst 1, 1) := by decide +kernel
theorem dX10_sortsOf_90 : decode cX10_sortsOf 90 = .ok (.iload_n 3, 1) := by decide +kernel
theorem dX10_sortsOf_91 : decode cX10_sortsOf 91 = .ok (.ishl, 1) := by decide +kernel
theorem dX10_sortsOf_92 : decode cX10_sortsOf 92 = .ok (.goto 4, 3) := by decide +kernel
theorem dX10_sortsOf_95 : decode cX10_sortsOf 95 = .ok (.iconst 0, 1) := by decide +kernel
theorem dX10_sortsOf_96 : decode cX10_sortsOf 96 = .ok (.ior, 1) := by decide +kernel
theorem dX10_sortsOf_97 : decode cX10_sortsOf 97 = .ok (.istore_n 2, 1) := by decide +kernel
theorem dX10_sortsOf_98 : decode cX10_sortsOf 98 = .ok (.iinc 3 1, 3) := by decide +kernel
theorem dX10_sortsOf_101 : decode cX10_sortsOf 101 = .ok (.goto (-97), 3) := by decide +kernel
theorem dX10_sortsOf_104 : decode cX10_sortsOf 104 = .ok (.iload_n 2, 1) := by decide +kernel
theorem dX10_sortsOf_105 : decode cX10_sortsOf 105 = .ok (.ireturn, 1) := by decide +kernel
theorem dX10_askOf_0 : decode cX10_askOf 0 = .ok (.aload_n 0, 1) := by decide +kernel
theorem dX10_askOf_1 : decode cX10_askOf 1 = .ok (.iload_n 1, 1) := by decide +kernel
theorem dX10_askOf_2 : decode cX10_askOf 2 = .ok (.invokevirtual 187, 3) := by decide +kernel
theorem dX10_askOf_5 : decode cX10_askOf 5 = .ok (.istore_n 2, 1) := by decide +kernel
theorem dX10_askOf_6 : decode cX10_askOf 6 = .ok (.iconst (-1), 1) := by decide +kernel
theorem dX10_askOf_7 : decode cX10_askOf 7 = .ok (.istore_n 3, 1) := by decide +kernel
theorem dX10_askOf_8 : decode cX10_askOf 8 = .ok (.ldc 230, 2) := by decide +kernel
theorem dX10_askOf_10 : decode cX10_askOf 10 = .ok (.istore 4, 2) := by decide +kernel
theorem dX10_askOf_12 : decode cX10_askOf 12 = .ok (.iconst 0, 1) := by decide +kernel
