theorem dX6_turn_55 : decode cX6_turn 55 = .ok (.iaload, 1) := by decide +kernel
theorem dX6_turn_56 : decode cX6_turn 56 = .ok (.if_icmp .ge 35, 3) := by decide +kernel
theorem dX6_turn_59 : decode cX6_turn 59 = .ok (.aload_n 0, 1) := by decide +kernel
theorem dX6_turn_60 : decode cX6_turn 60 = .ok (.iload_n 1, 1) := by decide +kernel
theorem dX6_turn_61 : decode cX6_turn 61 = .ok (.iload_n 3, 1) := by decide +kernel
theorem dX6_turn_62 : decode cX6_turn 62 = .ok (.iload 4, 2) := by decide +kernel
theorem dX6_turn_64 : decode cX6_turn 64 = .ok (.invokevirtual 61, 3) := by decide +kernel
theorem dX6_turn_67 : decode cX6_turn 67 = .ok (.ifCond .eq 18, 3) := by decide +kernel
theorem dX6_turn_70 : decode cX6_turn 70 = .ok (.aload_n 0, 1) := by decide +kernel
theorem dX6_turn_71 : decode cX6_turn 71 = .ok (.iload 4, 2) := by decide +kernel
theorem dX6_turn_73 : decode cX6_turn 73 = .ok (.iload_n 3, 1) := by decide +kernel
theorem dX6_turn_74 : decode cX6_turn 74 = .ok (.aload_n 0, 1) := by decide +kernel
theorem dX6_turn_75 : decode cX6_turn 75 = .ok (.iload_n 1, 1) := by decide +kernel
theorem dX6_turn_76 : decode cX6_turn 76 = .ok (.iload_n 3, 1) := by decide +kernel
theorem dX6_turn_77 : decode cX6_turn 77 = .ok (.iload 4, 2) := by decide +kernel
theorem dX6_turn_79 : decode cX6_turn 79 = .ok (.invokevirtual 85, 3) := by decide +kernel
theorem dX6_turn_82 : decode cX6_turn 82 = .ok (.invokevirtual 93, 3) := by decide +kernel
theorem dX6_turn_85 : decode cX6_turn 85 = .ok (.iinc 4 1, 3) := by decide +kernel
theorem dX6_turn_88 : decode cX6_turn 88 = .ok (.goto (-40), 3) := by decide +kernel
theorem dX6_turn_91 : decode cX6_turn 91 = .ok (.iinc 3 1, 3) := by decide +kernel
theorem dX6_turn_94 : decode cX6_turn 94 = .ok (.goto (-59), 3) := by decide +kernel
theorem dX6_turn_97 : decode cX6_turn 97 = .ok (.aload_n 0, 1) := by decide +kernel
theorem dX6_turn_98 : decode cX6_turn 98 = .ok (.iload_n 2, 1) := by decide +kernel
theorem dX6_turn_99 : decode cX6_turn 99 = .ok (.invokevirtual 68, 3) := by decide +kernel
theorem dX6_turn_102 : decode cX6_turn 102 = .ok (.ireturn, 1) := by decide +kernel
theorem dX6_rows_0 : decode cX6_rows 0 = .ok (.iload_n 2, 1) := by decide +kernel
theorem dX6_rows_1 : decode cX6_rows 1 = .ok (.invokestatic 45, 3) := by decide +kernel
theorem dX6_rows_4 : decode cX6_rows 4 = .ok (.ifCond .eq 11, 3) := by decide +kernel
theorem dX6_rows_7 : decode cX6_rows 7 = .ok (.aload_n 0, 1) := by decide +kernel
theorem dX6_rows_8 : decode cX6_rows 8 = .ok (.iload_n 1, 1) := by decide +kernel
theorem dX6_rows_9 : decode cX6_rows 9 = .ok (.invokevirtual 78, 3) := by decide +kernel
theorem dX6_rows_12 : decode cX6_rows 12 = .ok (.ifCond .ne 5, 3) := by decide +kernel
theorem dX6_rows_15 : decode cX6_rows 15 = .ok (.iconst (-1), 1) := by decide +kernel
theorem dX6_rows_16 : decode cX6_rows 16 = .ok (.ireturn, 1) := by decide +kernel
theorem dX6_rows_17 : decode cX6_rows 17 = .ok (.aload_n 0, 1) := by decide +kernel
theorem dX6_rows_18 : decode cX6_rows 18 = .ok (.getfield 75, 3) := by decide +kernel
theorem dX6_rows_21 : decode cX6_rows 21 = .ok (.istore_n 3, 1) := by decide +kernel
theorem dX6_rows_22 : decode cX6_rows 22 = .ok (.aload_n 0, 1) := by decide +kernel
theorem dX6_rows_23 : decode cX6_rows 23 = .ok (.iconst 0, 1) := by decide +kernel
theorem dX6_rows_24 : decode cX6_rows 24 = .ok (.putfield 75, 3) := by decide +kernel
theorem dX6_rows_27 : decode cX6_rows 27 = .ok (.iload_n 3, 1) := by decide +kernel
theorem dX6_rows_28 : decode cX6_rows 28 = .ok (.ifCond .ne 6, 3) := by decide +kernel
theorem dX6_rows_31 : decode cX6_rows 31 = .ok (.bipush (-3), 2) := by decide +kernel
theorem dX6_rows_33 : decode cX6_rows 33 = .ok (.ireturn, 1) := by decide +kernel
theorem dX6_rows_34 : decode cX6_rows 34 = .ok (.aload_n 0, 1) := by decide +kernel
theorem dX6_rows_35 : decode cX6_rows 35 = .ok (.iload_n 3, 1) := by decide +kernel
theorem dX6_rows_36 : decode cX6_rows 36 = .ok (.aload_n 0, 1) := by decide +kernel
theorem dX6_rows_37 : decode cX6_rows 37 = .ok (.getfield 17, 3) := by decide +kernel
theorem dX6_rows_40 : decode cX6_rows 40 = .ok (.iload_n 1, 1) := by decide +kernel
theorem dX6_rows_41 : decode cX6_rows 41 = .ok (.iaload, 1) := by decide +kernel
theorem dX6_rows_42 : decode cX6_rows 42 = .ok (.invokevirtual 64, 3) := by decide +kernel
theorem dX6_rows_45 : decode cX6_rows 45 = .ok (.iconst 0, 1) := by decide +kernel
theorem dX6_rows_46 : decode cX6_rows 46 = .ok (.istore 4, 2) := by decide +kernel
theorem dX6_rows_48 : decode cX6_rows 48 = .ok (.iload 4, 2) := by decide +kernel
theorem dX6_rows_50 : decode cX6_rows 50 = .ok (.iload_n 3, 1) := by decide +kernel
theorem dX6_rows_51 : decode cX6_rows 51 = .ok (.if_icmp .ge 87, 3) := by decide +kernel
theorem dX6_rows_54 : decode cX6_rows 54 = .ok (.aload_n 0, 1) := by decide +kernel
theorem dX6_rows_55 : decode cX6_rows 55 = .ok (.getfield 33, 3) := by decide +kernel
theorem dX6_rows_58 : decode cX6_rows 58 = .ok (.iload 4, 2) := by decide +kernel
theorem dX6_rows_60 : decode cX6_rows 60 = .ok (.iaload, 1) := by decide +kernel
theorem dX6_rows_61 : decode cX6_rows 61 = .ok (.aload_n 0, 1) := by decide +kernel
theorem dX6_rows_62 : decode cX6_rows 62 = .ok (.getfield 13, 3) := by decide +kernel
theorem dX6_rows_65 : decode cX6_rows 65 = .ok (.iload_n 1, 1) := by decide +kernel
theorem dX6_rows_66 : decode cX6_rows 66 = .ok (.iaload, 1) := by decide +kernel
theorem dX6_rows_67 : decode cX6_rows 67 = .ok (.if_icmp .lt 6, 3) := by decide +kernel
theorem dX6_rows_70 : decode cX6_rows 70 = .ok (.bipush (-3), 2) := by decide +kernel
theorem dX6_rows_72 : decode cX6_rows 72 = .ok (.ireturn, 1) := by decide +kernel
theorem dX6_rows_73 : decode cX6_rows 73 = .ok (.iconst 0, 1) := by decide +kernel
theorem dX6_rows_74 : decode cX6_rows 74 = .ok (.istore 5, 2) := by decide +kernel
theorem dX6_rows_76 : decode cX6_rows 76 = .ok (.iload 5, 2) := by decide +kernel
theorem dX6_rows_78 : decode cX6_rows 78 = .ok (.aload_n 0, 1) := by decide +kernel
theorem dX6_rows_79 : decode cX6_rows 79 = .ok (.getfield 17, 3) := by decide +kernel
theorem dX6_rows_82 : decode cX6_rows 82 = .ok (.iload_n 1, 1) := by decide +kernel
theorem dX6_rows_83 : decode cX6_rows 83 = .ok (.iaload, 1) := by decide +kernel
theorem dX6_rows_84 : decode cX6_rows 84 = .ok (.if_icmp .ge 48, 3) := by decide +kernel
theorem dX6_rows_87 : decode cX6_rows 87 = .ok (.aload_n 0, 1) := by decide +kernel
theorem dX6_rows_88 : decode cX6_rows 88 = .ok (.iload_n 1, 1) := by decide +kernel
theorem dX6_rows_89 : decode cX6_rows 89 = .ok (.aload_n 0, 1) := by decide +kernel
theorem dX6_rows_90 : decode cX6_rows 90 = .ok (.getfield 33, 3) := by decide +kernel
theorem dX6_rows_93 : decode cX6_rows 93 = .ok (.iload 4, 2) := by decide +kernel
theorem dX6_rows_95 : decode cX6_rows 95 = .ok (.iaload, 1) := by decide +kernel
theorem dX6_rows_96 : decode cX6_rows 96 = .ok (.iload 5, 2) := by decide +kernel
theorem dX6_rows_98 : decode cX6_rows 98 = .ok (.invokevirtual 61, 3) := by decide +kernel
theorem dX6_rows_101 : decode cX6_rows 101 = .ok (.ifCond .eq 25, 3) := by decide +kernel
theorem dX6_rows_104 : decode cX6_rows 104 = .ok (.aload_n 0, 1) := by decide +kernel
theorem dX6_rows_105 : decode cX6_rows 105 = .ok (.iload 4, 2) := by decide +kernel
theorem dX6_rows_107 : decode cX6_rows 107 = .ok (.iload 5, 2) := by decide +kernel
theorem dX6_rows_109 : decode cX6_rows 109 = .ok (.aload_n 0, 1) := by decide +kernel
theorem dX6_rows_110 : decode cX6_rows 110 = .ok (.iload_n 1, 1) := by decide +kernel
theorem dX6_rows_111 : decode cX6_rows 111 = .ok (.aload_n 0, 1) := by decide +kernel
theorem dX6_rows_112 : decode cX6_rows 112 = .ok (.getfield 33, 3) := by decide +kernel
theorem dX6_rows_115 : decode cX6_rows 115 = .ok (.iload 4, 2) := by decide +kernel
theorem dX6_rows_117 : decode cX6_rows 117 = .ok (.iaload, 1) := by decide +kernel
theorem dX6_rows_118 : decode cX6_rows 118 = .ok (.iload 5, 2) := by decide +kernel
theorem dX6_rows_120 : decode cX6_rows 120 = .ok (.invokevirtual 85, 3) := by decide +kernel
theorem dX6_rows_123 : decode cX6_rows 123 = .ok (.invokevirtual 93, 3) := by decide +kernel
theorem dX6_rows_126 : decode cX6_rows 126 = .ok (.iinc 5 1, 3) := by decide +kernel
theorem dX6_rows_129 : decode cX6_rows 129 = .ok (.goto (-53), 3) := by decide +kernel
theorem dX6_rows_132 : decode cX6_rows 132 = .ok (.iinc 4 1, 3) := by decide +kernel
theorem dX6_rows_135 : decode cX6_rows 135 = .ok (.goto (-87), 3) := by decide +kernel
theorem dX6_rows_138 : decode cX6_rows 138 = .ok (.aload_n 0, 1) := by decide +kernel
theorem dX6_rows_139 : decode cX6_rows 139 = .ok (.iload_n 2, 1) := by decide +kernel
theorem dX6_rows_140 : decode cX6_rows 140 = .ok (.invokevirtual 68, 3) := by decide +kernel
theorem dX6_rows_143 : decode cX6_rows 143 = .ok (.ireturn, 1) := by decide +kernel
theorem dX6_slopes_0 : decode cX6_slopes 0 = .ok (.iload 4, 2) := by decide +kernel
theorem dX6_slopes_2 : decode cX6_slopes 2 = .ok (.invokestatic 45, 3) := by decide +kernel
theorem dX6_slopes_5 : decode cX6_slopes 5 = .ok (.ifCond .eq 27, 3) := by decide +kernel
theorem dX6_slopes_8 : decode cX6_slopes 8 = .ok (.aload_n 0, 1) := by decide +kernel
theorem dX6_slopes_9 : decode cX6_slopes 9 = .ok (.iload_n 1, 1) := by decide +kernel
theorem dX6_slopes_10 : decode cX6_slopes 10 = .ok (.invokevirtual 78, 3) := by decide +kernel
theorem dX6_slopes_13 : decode cX6_slopes 13 = .ok (.ifCond .eq 19, 3) := by decide +kernel
theorem dX6_slopes_16 : decode cX6_slopes 16 = .ok (.aload_n 0, 1) := by decide +kernel
theorem dX6_slopes_17 : decode cX6_slopes 17 = .ok (.iload_n 2, 1) := by decide +kernel
theorem dX6_slopes_18 : decode cX6_slopes 18 = .ok (.invokevirtual 78, 3) := by decide +kernel
theorem dX6_slopes_21 : decode cX6_slopes 21 = .ok (.ifCond .eq 11, 3) := by decide +kernel
theorem dX6_slopes_24 : decode cX6_slopes 24 = .ok (.aload_n 0, 1) := by decide +kernel
theorem dX6_slopes_25 : decode cX6_slopes 25 = .ok (.iload_n 3, 1) := by decide +kernel
theorem dX6_slopes_26 : decode cX6_slopes 26 = .ok (.invokevirtual 78, 3) := by decide +kernel
theorem dX6_slopes_29 : decode cX6_slopes 29 = .ok (.ifCond .ne 5, 3) := by decide +kernel
theorem dX6_slopes_32 : decode cX6_slopes 32 = .ok (.iconst (-1), 1) := by decide +kernel
theorem dX6_slopes_33 : decode cX6_slopes 33 = .ok (.ireturn, 1) := by decide +kernel
theorem dX6_slopes_34 : decode cX6_slopes 34 = .ok (.aload_n 0, 1) := by decide +kernel
theorem dX6_slopes_35 : decode cX6_slopes 35 = .ok (.getfield 17, 3) := by decide +kernel
theorem dX6_slopes_38 : decode cX6_slopes 38 = .ok (.iload_n 1, 1) := by decide +kernel
theorem dX6_slopes_39 : decode cX6_slopes 39 = .ok (.iaload, 1) := by decide +kernel
theorem dX6_slopes_40 : decode cX6_slopes 40 = .ok (.aload_n 0, 1) := by decide +kernel
theorem dX6_slopes_41 : decode cX6_slopes 41 = .ok (.getfield 13, 3) := by decide +kernel
theorem dX6_slopes_44 : decode cX6_slopes 44 = .ok (.iload_n 2, 1) := by decide +kernel
theorem dX6_slopes_45 : decode cX6_slopes 45 = .ok (.iaload, 1) := by decide +kernel
theorem dX6_slopes_46 : decode cX6_slopes 46 = .ok (.if_icmp .ne 33, 3) := by decide +kernel
theorem dX6_slopes_49 : decode cX6_slopes 49 = .ok (.aload_n 0, 1) := by decide +kernel
theorem dX6_slopes_50 : decode cX6_slopes 50 = .ok (.getfield 13, 3) := by decide +kernel
theorem dX6_slopes_53 : decode cX6_slopes 53 = .ok (.iload_n 3, 1) := by decide +kernel
theorem dX6_slopes_54 : decode cX6_slopes 54 = .ok (.iaload, 1) := by decide +kernel
theorem dX6_slopes_55 : decode cX6_slopes 55 = .ok (.aload_n 0, 1) := by decide +kernel
theorem dX6_slopes_56 : decode cX6_slopes 56 = .ok (.getfield 13, 3) := by decide +kernel
theorem dX6_slopes_59 : decode cX6_slopes 59 = .ok (.iload_n 1, 1) := by decide +kernel
theorem dX6_slopes_60 : decode cX6_slopes 60 = .ok (.iaload, 1) := by decide +kernel
theorem dX6_slopes_61 : decode cX6_slopes 61 = .ok (.if_icmp .ne 18, 3) := by decide +kernel
theorem dX6_slopes_64 : decode cX6_slopes 64 = .ok (.aload_n 0, 1) := by decide +kernel
theorem dX6_slopes_65 : decode cX6_slopes 65 = .ok (.getfield 17, 3) := by decide +kernel
theorem dX6_slopes_68 : decode cX6_slopes 68 = .ok (.iload_n 3, 1) := by decide +kernel
theorem dX6_slopes_69 : decode cX6_slopes 69 = .ok (.iaload, 1) := by decide +kernel
theorem dX6_slopes_70 : decode cX6_slopes 70 = .ok (.aload_n 0, 1) := by decide +kernel
theorem dX6_slopes_71 : decode cX6_slopes 71 = .ok (.getfield 17, 3) := by decide +kernel
theorem dX6_slopes_74 : decode cX6_slopes 74 = .ok (.iload_n 2, 1) := by decide +kernel
theorem dX6_slopes_75 : decode cX6_slopes 75 = .ok (.iaload, 1) := by decide +kernel
theorem dX6_slopes_76 : decode cX6_slopes 76 = .ok (.if_icmp .eq 6, 3) := by decide +kernel
theorem dX6_slopes_79 : decode cX6_slopes 79 = .ok (.bipush (-3), 2) := by decide +kernel
theorem dX6_slopes_81 : decode cX6_slopes 81 = .ok (.ireturn, 1) := by decide +kernel
theorem dX6_slopes_82 : decode cX6_slopes 82 = .ok (.iload 5, 2) := by decide +kernel
theorem dX6_slopes_84 : decode cX6_slopes 84 = .ok (.ifCond .eq 7, 3) := by decide +kernel
theorem dX6_slopes_87 : decode cX6_slopes 87 = .ok (.iload_n 1, 1) := by decide +kernel
theorem dX6_slopes_88 : decode cX6_slopes 88 = .ok (.goto 4, 3) := by decide +kernel
theorem dX6_slopes_91 : decode cX6_slopes 91 = .ok (.iload_n 2, 1) := by decide +kernel
theorem dX6_slopes_92 : decode cX6_slopes 92 = .ok (.istore 6, 2) := by decide +kernel
theorem dX6_slopes_94 : decode cX6_slopes 94 = .ok (.aload_n 0, 1) := by decide +kernel
theorem dX6_slopes_95 : decode cX6_slopes 95 = .ok (.aload_n 0, 1) := by decide +kernel
theorem dX6_slopes_96 : decode cX6_slopes 96 = .ok (.getfield 13, 3) := by decide +kernel
theorem dX6_slopes_99 : decode cX6_slopes 99 = .ok (.iload 6, 2) := by decide +kernel
theorem dX6_slopes_101 : decode cX6_slopes 101 = .ok (.iaload, 1) := by decide +kernel
theorem dX6_slopes_102 : decode cX6_slopes 102 = .ok (.aload_n 0, 1) := by decide +kernel
theorem dX6_slopes_103 : decode cX6_slopes 103 = .ok (.getfield 17, 3) := by decide +kernel
theorem dX6_slopes_106 : decode cX6_slopes 106 = .ok (.iload 6, 2) := by decide +kernel
theorem dX6_slopes_108 : decode cX6_slopes 108 = .ok (.iaload, 1) := by decide +kernel
theorem dX6_slopes_109 : decode cX6_slopes 109 = .ok (.invokevirtual 64, 3) := by decide +kernel
theorem dX6_slopes_112 : decode cX6_slopes 112 = .ok (.iconst 0, 1) := by decide +kernel
theorem dX6_slopes_113 : decode cX6_slopes 113 = .ok (.istore 7, 2) := by decide +kernel
theorem dX6_slopes_115 : decode cX6_slopes 115 = .ok (.iload 7, 2) := by decide +kernel
theorem dX6_slopes_117 : decode cX6_slopes 117 = .ok (.aload_n 0, 1) := by decide +kernel
theorem dX6_slopes_118 : decode cX6_slopes 118 = .ok (.getfield 13, 3) := by decide +kernel
theorem dX6_slopes_121 : decode cX6_slopes 121 = .ok (.iload 6, 2) := by decide +kernel
theorem dX6_slopes_123 : decode cX6_slopes 123 = .ok (.iaload, 1) := by decide +kernel
theorem dX6_slopes_124 : decode cX6_slopes 124 = .ok (.if_icmp .ge 152, 3) := by decide +kernel
theorem dX6_slopes_127 : decode cX6_slopes 127 = .ok (.iconst 0, 1) := by decide +kernel
theorem dX6_slopes_128 : decode cX6_slopes 128 = .ok (.istore 8, 2) := by decide +kernel
theorem dX6_slopes_130 : decode cX6_slopes 130 = .ok (.iload 8, 2) := by decide +kernel
theorem dX6_slopes_132 : decode cX6_slopes 132 = .ok (.aload_n 0, 1) := by decide +kernel
theorem dX6_slopes_133 : decode cX6_slopes 133 = .ok (.getfield 17, 3) := by decide +kernel
theorem dX6_slopes_136 : decode cX6_slopes 136 = .ok (.iload 6, 2) := by decide +kernel
theorem dX6_slopes_138 : decode cX6_slopes 138 = .ok (.iaload, 1) := by decide +kernel
theorem dX6_slopes_139 : decode cX6_slopes 139 = .ok (.if_icmp .ge 131, 3) := by decide +kernel
theorem dX6_slopes_142 : decode cX6_slopes 142 = .ok (.aload_n 0, 1) := by decide +kernel
theorem dX6_slopes_143 : decode cX6_slopes 143 = .ok (.iload 6, 2) := by decide +kernel
theorem dX6_slopes_145 : decode cX6_slopes 145 = .ok (.iload 7, 2) := by decide +kernel
theorem dX6_slopes_147 : decode cX6_slopes 147 = .ok (.iload 8, 2) := by decide +kernel
theorem dX6_slopes_149 : decode cX6_slopes 149 = .ok (.invokevirtual 61, 3) := by decide +kernel
theorem dX6_slopes_152 : decode cX6_slopes 152 = .ok (.ifCond .eq 112, 3) := by decide +kernel
theorem dX6_slopes_155 : decode cX6_slopes 155 = .ok (.lconst 0, 1) := by decide +kernel
theorem dX6_slopes_156 : decode cX6_slopes 156 = .ok (.lstore 9, 2) := by decide +kernel
theorem dX6_slopes_158 : decode cX6_slopes 158 = .ok (.iload 5, 2) := by decide +kernel
theorem dX6_slopes_160 : decode cX6_slopes 160 = .ok (.ifCond .eq 50, 3) := by decide +kernel
theorem dX6_slopes_163 : decode cX6_slopes 163 = .ok (.iconst 0, 1) := by decide +kernel
theorem dX6_slopes_164 : decode cX6_slopes 164 = .ok (.istore 11, 2) := by decide +kernel
theorem dX6_slopes_166 : decode cX6_slopes 166 = .ok (.iload 11, 2) := by decide +kernel
theorem dX6_slopes_168 : decode cX6_slopes 168 = .ok (.aload_n 0, 1) := by decide +kernel
theorem dX6_slopes_169 : decode cX6_slopes 169 = .ok (.getfield 17, 3) := by decide +kernel
theorem dX6_slopes_172 : decode cX6_slopes 172 = .ok (.iload_n 2, 1) := by decide +kernel
theorem dX6_slopes_173 : decode cX6_slopes 173 = .ok (.iaload, 1) := by decide +kernel
theorem dX6_slopes_174 : decode cX6_slopes 174 = .ok (.if_icmp .ge 33, 3) := by decide +kernel
theorem dX6_slopes_177 : decode cX6_slopes 177 = .ok (.lload 9, 2) := by decide +kernel
theorem dX6_slopes_179 : decode cX6_slopes 179 = .ok (.aload_n 0, 1) := by decide +kernel
theorem dX6_slopes_180 : decode cX6_slopes 180 = .ok (.iload_n 3, 1) := by decide +kernel
theorem dX6_slopes_181 : decode cX6_slopes 181 = .ok (.iload 7, 2) := by decide +kernel
theorem dX6_slopes_183 : decode cX6_slopes 183 = .ok (.iload 11, 2) := by decide +kernel
theorem dX6_slopes_185 : decode cX6_slopes 185 = .ok (.invokevirtual 85, 3) := by decide +kernel
theorem dX6_slopes_188 : decode cX6_slopes 188 = .ok (.aload_n 0, 1) := by decide +kernel
theorem dX6_slopes_189 : decode cX6_slopes 189 = .ok (.iload_n 2, 1) := by decide +kernel
theorem dX6_slopes_190 : decode cX6_slopes 190 = .ok (.iload 8, 2) := by decide +kernel
theorem dX6_slopes_192 : decode cX6_slopes 192 = .ok (.iload 11, 2) := by decide +kernel
theorem dX6_slopes_194 : decode cX6_slopes 194 = .ok (.invokevirtual 85, 3) := by decide +kernel
theorem dX6_slopes_197 : decode cX6_slopes 197 = .ok (.lmul, 1) := by decide +kernel
theorem dX6_slopes_198 : decode cX6_slopes 198 = .ok (.ladd, 1) := by decide +kernel
theorem dX6_slopes_199 : decode cX6_slopes 199 = .ok (.lstore 9, 2) := by decide +kernel
theorem dX6_slopes_201 : decode cX6_slopes 201 = .ok (.iinc 11 1, 3) := by decide +kernel
theorem dX6_slopes_204 : decode cX6_slopes 204 = .ok (.goto (-38), 3) := by decide +kernel
theorem dX6_slopes_207 : decode cX6_slopes 207 = .ok (.goto 47, 3) := by decide +kernel
theorem dX6_slopes_210 : decode cX6_slopes 210 = .ok (.iconst 0, 1) := by decide +kernel
theorem dX6_slopes_211 : decode cX6_slopes 211 = .ok (.istore 11, 2) := by decide +kernel
theorem dX6_slopes_213 : decode cX6_slopes 213 = .ok (.iload 11, 2) := by decide +kernel
theorem dX6_slopes_215 : decode cX6_slopes 215 = .ok (.aload_n 0, 1) := by decide +kernel
theorem dX6_slopes_216 : decode cX6_slopes 216 = .ok (.getfield 13, 3) := by decide +kernel
theorem dX6_slopes_219 : decode cX6_slopes 219 = .ok (.iload_n 1, 1) := by decide +kernel
theorem dX6_slopes_220 : decode cX6_slopes 220 = .ok (.iaload, 1) := by decide +kernel
theorem dX6_slopes_221 : decode cX6_slopes 221 = .ok (.if_icmp .ge 33, 3) := by decide +kernel
theorem dX6_slopes_224 : decode cX6_slopes 224 = .ok (.lload 9, 2) := by decide +kernel
theorem dX6_slopes_226 : decode cX6_slopes 226 = .ok (.aload_n 0, 1) := by decide +kernel
theorem dX6_slopes_227 : decode cX6_slopes 227 = .ok (.iload_n 3, 1) := by decide +kernel
theorem dX6_slopes_228 : decode cX6_slopes 228 = .ok (.iload 11, 2) := by decide +kernel
theorem dX6_slopes_230 : decode cX6_slopes 230 = .ok (.iload 8, 2) := by decide +kernel
theorem dX6_slopes_232 : decode cX6_slopes 232 = .ok (.invokevirtual 85, 3) := by decide +kernel
theorem dX6_slopes_235 : decode cX6_slopes 235 = .ok (.aload_n 0, 1) := by decide +kernel
theorem dX6_slopes_236 : decode cX6_slopes 236 = .ok (.iload_n 1, 1) := by decide +kernel
theorem dX6_slopes_237 : decode cX6_slopes 237 = .ok (.iload 11, 2) := by decide +kernel
theorem dX6_slopes_239 : decode cX6_slopes 239 = .ok (.iload 7, 2) := by decide +kernel
theorem dX6_slopes_241 : decode cX6_slopes 241 = .ok (.invokevirtual 85, 3) := by decide +kernel
theorem dX6_slopes_244 : decode cX6_slopes 244 = .ok (.lmul, 1) := by decide +kernel
theorem dX6_slopes_245 : decode cX6_slopes 245 = .ok (.ladd, 1) := by decide +kernel
theorem dX6_slopes_246 : decode cX6_slopes 246 = .ok (.lstore 9, 2) := by decide +kernel
theorem dX6_slopes_248 : decode cX6_slopes 248 = .ok (.iinc 11 1, 3) := by decide +kernel
theorem dX6_slopes_251 : decode cX6_slopes 251 = .ok (.goto (-38), 3) := by decide +kernel
theorem dX6_slopes_254 : decode cX6_slopes 254 = .ok (.aload_n 0, 1) := by decide +kernel
theorem dX6_slopes_255 : decode cX6_slopes 255 = .ok (.iload 7, 2) := by decide +kernel
theorem dX6_slopes_257 : decode cX6_slopes 257 = .ok (.iload 8, 2) := by decide +kernel
theorem dX6_slopes_259 : decode cX6_slopes 259 = .ok (.lload 9, 2) := by decide +kernel
theorem dX6_slopes_261 : decode cX6_slopes 261 = .ok (.invokevirtual 93, 3) := by decide +kernel
theorem dX6_slopes_264 : decode cX6_slopes 264 = .ok (.iinc 8 1, 3) := by decide +kernel
theorem dX6_slopes_267 : decode cX6_slopes 267 = .ok (.goto (-137), 3) := by decide +kernel
theorem dX6_slopes_270 : decode cX6_slopes 270 = .ok (.iinc 7 1, 3) := by decide +kernel
theorem dX6_slopes_273 : decode cX6_slopes 273 = .ok (.goto (-158), 3) := by decide +kernel
theorem dX6_slopes_276 : decode cX6_slopes 276 = .ok (.aload_n 0, 1) := by decide +kernel
theorem dX6_slopes_277 : decode cX6_slopes 277 = .ok (.iload 4, 2) := by decide +kernel
theorem dX6_slopes_279 : decode cX6_slopes 279 = .ok (.invokevirtual 68, 3) := by decide +kernel
theorem dX6_slopes_282 : decode cX6_slopes 282 = .ok (.ireturn, 1) := by decide +kernel
theorem dX6_sum_0 : decode cX6_sum 0 = .ok (.lconst 0, 1) := by decide +kernel
theorem dX6_sum_1 : decode cX6_sum 1 = .ok (.lstore 4, 2) := by decide +kernel
theorem dX6_sum_3 : decode cX6_sum 3 = .ok (.iconst 0, 1) := by decide +kernel
theorem dX6_sum_4 : decode cX6_sum 4 = .ok (.istore 6, 2) := by decide +kernel
theorem dX6_sum_6 : decode cX6_sum 6 = .ok (.iload 6, 2) := by decide +kernel
theorem dX6_sum_8 : decode cX6_sum 8 = .ok (.bipush 16, 2) := by decide +kernel
theorem dX6_sum_10 : decode cX6_sum 10 = .ok (.if_icmp .ge 45, 3) := by decide +kernel
theorem dX6_sum_13 : decode cX6_sum 13 = .ok (.aload_n 0, 1) := by decide +kernel
theorem dX6_sum_14 : decode cX6_sum 14 = .ok (.iload_n 1, 1) := by decide +kernel
theorem dX6_sum_15 : decode cX6_sum 15 = .ok (.invokevirtual 78, 3) := by decide +kernel
theorem dX6_sum_18 : decode cX6_sum 18 = .ok (.ifCond .eq 37, 3) := by decide +kernel
theorem dX6_sum_21 : decode cX6_sum 21 = .ok (.lload 4, 2) := by decide +kernel
theorem dX6_sum_23 : decode cX6_sum 23 = .ok (.iload_n 2, 1) := by decide +kernel
theorem dX6_sum_24 : decode cX6_sum 24 = .ok (.ifCond .eq 14, 3) := by decide +kernel
theorem dX6_sum_27 : decode cX6_sum 27 = .ok (.aload_n 0, 1) := by decide +kernel
theorem dX6_sum_28 : decode cX6_sum 28 = .ok (.iload_n 1, 1) := by decide +kernel
theorem dX6_sum_29 : decode cX6_sum 29 = .ok (.iload_n 3, 1) := by decide +kernel
theorem dX6_sum_30 : decode cX6_sum 30 = .ok (.iload 6, 2) := by decide +kernel
theorem dX6_sum_32 : decode cX6_sum 32 = .ok (.invokevirtual 85, 3) := by decide +kernel
theorem dX6_sum_35 : decode cX6_sum 35 = .ok (.goto 11, 3) := by decide +kernel
theorem dX6_sum_38 : decode cX6_sum 38 = .ok (.aload_n 0, 1) := by decide +kernel
theorem dX6_sum_39 : decode cX6_sum 39 = .ok (.iload_n 1, 1) := by decide +kernel
theorem dX6_sum_40 : decode cX6_sum 40 = .ok (.iload 6, 2) := by decide +kernel
theorem dX6_sum_42 : decode cX6_sum 42 = .ok (.iload_n 3, 1) := by decide +kernel
theorem dX6_sum_43 : decode cX6_sum 43 = .ok (.invokevirtual 85, 3) := by decide +kernel
theorem dX6_sum_46 : decode cX6_sum 46 = .ok (.ladd, 1) := by decide +kernel
theorem dX6_sum_47 : decode cX6_sum 47 = .ok (.lstore 4, 2) := by decide +kernel
theorem dX6_sum_49 : decode cX6_sum 49 = .ok (.iinc 6 1, 3) := by decide +kernel
theorem dX6_sum_52 : decode cX6_sum 52 = .ok (.goto (-46), 3) := by decide +kernel
theorem dX6_sum_55 : decode cX6_sum 55 = .ok (.lload 4, 2) := by decide +kernel
theorem dX6_sum_57 : decode cX6_sum 57 = .ok (.lreturn, 1) := by decide +kernel
theorem dX6_lay_0 : decode cX6_lay 0 = .ok (.aload_n 0, 1) := by decide +kernel
theorem dX6_lay_1 : decode cX6_lay 1 = .ok (.getfield 36, 3) := by decide +kernel
theorem dX6_lay_4 : decode cX6_lay 4 = .ok (.aload_n 0, 1) := by decide +kernel
theorem dX6_lay_5 : decode cX6_lay 5 = .ok (.getfield 97, 3) := by decide +kernel
theorem dX6_lay_8 : decode cX6_lay 8 = .ok (.lload_n 1, 1) := by decide +kernel
theorem dX6_lay_9 : decode cX6_lay 9 = .ok (.lastore, 1) := by decide +kernel
theorem dX6_lay_10 : decode cX6_lay 10 = .ok (.aload_n 0, 1) := by decide +kernel
theorem dX6_lay_11 : decode cX6_lay 11 = .ok (.dup, 1) := by decide +kernel
theorem dX6_lay_12 : decode cX6_lay 12 = .ok (.getfield 97, 3) := by decide +kernel
theorem dX6_lay_15 : decode cX6_lay 15 = .ok (.iconst 1, 1) := by decide +kernel
theorem dX6_lay_16 : decode cX6_lay 16 = .ok (.iadd, 1) := by decide +kernel
theorem dX6_lay_17 : decode cX6_lay 17 = .ok (.putfield 97, 3) := by decide +kernel
theorem dX6_lay_20 : decode cX6_lay 20 = .ok (.return_, 1) := by decide +kernel
theorem dX6_byRows_0 : decode cX6_byRows 0 = .ok (.iconst 0, 1) := by decide +kernel
theorem dX6_byRows_1 : decode cX6_byRows 1 = .ok (.istore_n 2, 1) := by decide +kernel
theorem dX6_byRows_2 : decode cX6_byRows 2 = .ok (.iconst 0, 1) := by decide +kernel
theorem dX6_byRows_3 : decode cX6_byRows 3 = .ok (.istore_n 3, 1) := by decide +kernel
theorem dX6_byRows_4 : decode cX6_byRows 4 = .ok (.iload_n 3, 1) := by decide +kernel
theorem dX6_byRows_5 : decode cX6_byRows 5 = .ok (.aload_n 0, 1) := by decide +kernel
theorem dX6_byRows_6 : decode cX6_byRows 6 = .ok (.getfield 13, 3) := by decide +kernel
theorem dX6_byRows_9 : decode cX6_byRows 9 = .ok (.iload_n 1, 1) := by decide +kernel
theorem dX6_byRows_10 : decode cX6_byRows 10 = .ok (.iaload, 1) := by decide +kernel
theorem dX6_byRows_11 : decode cX6_byRows 11 = .ok (.if_icmp .ge 54, 3) := by decide +kernel
theorem dX6_byRows_14 : decode cX6_byRows 14 = .ok (.aload_n 0, 1) := by decide +kernel
theorem dX6_byRows_15 : decode cX6_byRows 15 = .ok (.iload_n 2, 1) := by decide +kernel
theorem dX6_byRows_16 : decode cX6_byRows 16 = .ok (.i2l, 1) := by decide +kernel
theorem dX6_byRows_17 : decode cX6_byRows 17 = .ok (.invokevirtual 100, 3) := by decide +kernel
theorem dX6_byRows_20 : decode cX6_byRows 20 = .ok (.iconst 0, 1) := by decide +kernel
theorem dX6_byRows_21 : decode cX6_byRows 21 = .ok (.istore 4, 2) := by decide +kernel
theorem dX6_byRows_23 : decode cX6_byRows 23 = .ok (.iload 4, 2) := by decide +kernel
theorem dX6_byRows_25 : decode cX6_byRows 25 = .ok (.aload_n 0, 1) := by decide +kernel
theorem dX6_byRows_26 : decode cX6_byRows 26 = .ok (.getfield 17, 3) := by decide +kernel
theorem dX6_byRows_29 : decode cX6_byRows 29 = .ok (.iload_n 1, 1) := by decide +kernel
theorem dX6_byRows_30 : decode cX6_byRows 30 = .ok (.iaload, 1) := by decide +kernel
theorem dX6_byRows_31 : decode cX6_byRows 31 = .ok (.if_icmp .ge 28, 3) := by decide +kernel
theorem dX6_byRows_34 : decode cX6_byRows 34 = .ok (.iload_n 2, 1) := by decide +kernel
theorem dX6_byRows_35 : decode cX6_byRows 35 = .ok (.aload_n 0, 1) := by decide +kernel
theorem dX6_byRows_36 : decode cX6_byRows 36 = .ok (.iload_n 1, 1) := by decide +kernel
theorem dX6_byRows_37 : decode cX6_byRows 37 = .ok (.iload_n 3, 1) := by decide +kernel
theorem dX6_byRows_38 : decode cX6_byRows 38 = .ok (.iload 4, 2) := by decide +kernel
theorem dX6_byRows_40 : decode cX6_byRows 40 = .ok (.invokevirtual 61, 3) := by decide +kernel
theorem dX6_byRows_43 : decode cX6_byRows 43 = .ok (.ifCond .eq 7, 3) := by decide +kernel
theorem dX6_byRows_46 : decode cX6_byRows 46 = .ok (.iconst 1, 1) := by decide +kernel
theorem dX6_byRows_47 : decode cX6_byRows 47 = .ok (.goto 4, 3) := by decide +kernel
theorem dX6_byRows_50 : decode cX6_byRows 50 = .ok (.iconst 0, 1) := by decide +kernel
theorem dX6_byRows_51 : decode cX6_byRows 51 = .ok (.iadd, 1) := by decide +kernel
theorem dX6_byRows_52 : decode cX6_byRows 52 = .ok (.istore_n 2, 1) := by decide +kernel
theorem dX6_byRows_53 : decode cX6_byRows 53 = .ok (.iinc 4 1, 3) := by decide +kernel
theorem dX6_byRows_56 : decode cX6_byRows 56 = .ok (.goto (-33), 3) := by decide +kernel
theorem dX6_byRows_59 : decode cX6_byRows 59 = .ok (.iinc 3 1, 3) := by decide +kernel
theorem dX6_byRows_62 : decode cX6_byRows 62 = .ok (.goto (-58), 3) := by decide +kernel
theorem dX6_byRows_65 : decode cX6_byRows 65 = .ok (.aload_n 0, 1) := by decide +kernel
theorem dX6_byRows_66 : decode cX6_byRows 66 = .ok (.iload_n 2, 1) := by decide +kernel
theorem dX6_byRows_67 : decode cX6_byRows 67 = .ok (.i2l, 1) := by decide +kernel
theorem dX6_byRows_68 : decode cX6_byRows 68 = .ok (.invokevirtual 100, 3) := by decide +kernel
theorem dX6_byRows_71 : decode cX6_byRows 71 = .ok (.iconst 0, 1) := by decide +kernel
theorem dX6_byRows_72 : decode cX6_byRows 72 = .ok (.istore_n 3, 1) := by decide +kernel
theorem dX6_byRows_73 : decode cX6_byRows 73 = .ok (.iload_n 3, 1) := by decide +kernel
theorem dX6_byRows_74 : decode cX6_byRows 74 = .ok (.iconst 2, 1) := by decide +kernel
theorem dX6_byRows_75 : decode cX6_byRows 75 = .ok (.if_icmp .ge 72, 3) := by decide +kernel
theorem dX6_byRows_78 : decode cX6_byRows 78 = .ok (.iconst 0, 1) := by decide +kernel
theorem dX6_byRows_79 : decode cX6_byRows 79 = .ok (.istore 4, 2) := by decide +kernel
theorem dX6_byRows_81 : decode cX6_byRows 81 = .ok (.iload 4, 2) := by decide +kernel
theorem dX6_byRows_83 : decode cX6_byRows 83 = .ok (.sipush 256, 3) := by decide +kernel
theorem dX6_byRows_86 : decode cX6_byRows 86 = .ok (.if_icmp .ge 55, 3) := by decide +kernel
theorem dX6_byRows_89 : decode cX6_byRows 89 = .ok (.aload_n 0, 1) := by decide +kernel
theorem dX6_byRows_90 : decode cX6_byRows 90 = .ok (.getfield 20, 3) := by decide +kernel
theorem dX6_byRows_93 : decode cX6_byRows 93 = .ok (.sipush 256, 3) := by decide +kernel
theorem dX6_byRows_96 : decode cX6_byRows 96 = .ok (.iload_n 1, 1) := by decide +kernel
theorem dX6_byRows_97 : decode cX6_byRows 97 = .ok (.imul, 1) := by decide +kernel
theorem dX6_byRows_98 : decode cX6_byRows 98 = .ok (.iload 4, 2) := by decide +kernel
theorem dX6_byRows_100 : decode cX6_byRows 100 = .ok (.iadd, 1) := by decide +kernel
theorem dX6_byRows_101 : decode cX6_byRows 101 = .ok (.baload, 1) := by decide +kernel
theorem dX6_byRows_102 : decode cX6_byRows 102 = .ok (.ifCond .eq 33, 3) := by decide +kernel
theorem dX6_byRows_105 : decode cX6_byRows 105 = .ok (.aload_n 0, 1) := by decide +kernel
theorem dX6_byRows_106 : decode cX6_byRows 106 = .ok (.iload_n 3, 1) := by decide +kernel
theorem dX6_byRows_107 : decode cX6_byRows 107 = .ok (.ifCond .ne 12, 3) := by decide +kernel
theorem dX6_byRows_110 : decode cX6_byRows 110 = .ok (.iload 4, 2) := by decide +kernel
theorem dX6_byRows_112 : decode cX6_byRows 112 = .ok (.bipush 16, 2) := by decide +kernel
theorem dX6_byRows_114 : decode cX6_byRows 114 = .ok (.irem, 1) := by decide +kernel
theorem dX6_byRows_115 : decode cX6_byRows 115 = .ok (.i2l, 1) := by decide +kernel
theorem dX6_byRows_116 : decode cX6_byRows 116 = .ok (.goto 16, 3) := by decide +kernel
theorem dX6_byRows_119 : decode cX6_byRows 119 = .ok (.aload_n 0, 1) := by decide +kernel
theorem dX6_byRows_120 : decode cX6_byRows 120 = .ok (.getfield 23, 3) := by decide +kernel
theorem dX6_byRows_123 : decode cX6_byRows 123 = .ok (.sipush 256, 3) := by decide +kernel
theorem dX6_byRows_126 : decode cX6_byRows 126 = .ok (.iload_n 1, 1) := by decide +kernel
theorem dX6_byRows_127 : decode cX6_byRows 127 = .ok (.imul, 1) := by decide +kernel
theorem dX6_byRows_128 : decode cX6_byRows 128 = .ok (.iload 4, 2) := by decide +kernel
theorem dX6_byRows_130 : decode cX6_byRows 130 = .ok (.iadd, 1) := by decide +kernel
theorem dX6_byRows_131 : decode cX6_byRows 131 = .ok (.laload, 1) := by decide +kernel
theorem dX6_byRows_132 : decode cX6_byRows 132 = .ok (.invokevirtual 100, 3) := by decide +kernel
theorem dX6_byRows_135 : decode cX6_byRows 135 = .ok (.iinc 4 1, 3) := by decide +kernel
theorem dX6_byRows_138 : decode cX6_byRows 138 = .ok (.goto (-57), 3) := by decide +kernel
theorem dX6_byRows_141 : decode cX6_byRows 141 = .ok (.iinc 3 1, 3) := by decide +kernel
theorem dX6_byRows_144 : decode cX6_byRows 144 = .ok (.goto (-71), 3) := by decide +kernel
theorem dX6_byRows_147 : decode cX6_byRows 147 = .ok (.return_, 1) := by decide +kernel
theorem dX6_byColumns_0 : decode cX6_byColumns 0 = .ok (.iconst 0, 1) := by decide +kernel
theorem dX6_byColumns_1 : decode cX6_byColumns 1 = .ok (.istore_n 2, 1) := by decide +kernel
theorem dX6_byColumns_2 : decode cX6_byColumns 2 = .ok (.iconst 0, 1) := by decide +kernel
theorem dX6_byColumns_3 : decode cX6_byColumns 3 = .ok (.istore_n 3, 1) := by decide +kernel
theorem dX6_byColumns_4 : decode cX6_byColumns 4 = .ok (.iload_n 3, 1) := by decide +kernel
theorem dX6_byColumns_5 : decode cX6_byColumns 5 = .ok (.aload_n 0, 1) := by decide +kernel
theorem dX6_byColumns_6 : decode cX6_byColumns 6 = .ok (.getfield 17, 3) := by decide +kernel
theorem dX6_byColumns_9 : decode cX6_byColumns 9 = .ok (.iload_n 1, 1) := by decide +kernel
theorem dX6_byColumns_10 : decode cX6_byColumns 10 = .ok (.iaload, 1) := by decide +kernel
theorem dX6_byColumns_11 : decode cX6_byColumns 11 = .ok (.if_icmp .ge 54, 3) := by decide +kernel
theorem dX6_byColumns_14 : decode cX6_byColumns 14 = .ok (.aload_n 0, 1) := by decide +kernel
theorem dX6_byColumns_15 : decode cX6_byColumns 15 = .ok (.iload_n 2, 1) := by decide +kernel
theorem dX6_byColumns_16 : decode cX6_byColumns 16 = .ok (.i2l, 1) := by decide +kernel
theorem dX6_byColumns_17 : decode cX6_byColumns 17 = .ok (.invokevirtual 100, 3) := by decide +kernel
theorem dX6_byColumns_20 : decode cX6_byColumns 20 = .ok (.iconst 0, 1) := by decide +kernel
theorem dX6_byColumns_21 : decode cX6_byColumns 21 = .ok (.istore 4, 2) := by decide +kernel
theorem dX6_byColumns_23 : decode cX6_byColumns 23 = .ok (.iload 4, 2) := by decide +kernel
theorem dX6_byColumns_25 : decode cX6_byColumns 25 = .ok (.aload_n 0, 1) := by decide +kernel
theorem dX6_byColumns_26 : decode cX6_byColumns 26 = .ok (.getfield 13, 3) := by decide +kernel
theorem dX6_byColumns_29 : decode cX6_byColumns 29 = .ok (.iload_n 1, 1) := by decide +kernel
theorem dX6_byColumns_30 : decode cX6_byColumns 30 = .ok (.iaload, 1) := by decide +kernel
theorem dX6_byColumns_31 : decode cX6_byColumns 31 = .ok (.if_icmp .ge 28, 3) := by decide +kernel
theorem dX6_byColumns_34 : decode cX6_byColumns 34 = .ok (.iload_n 2, 1) := by decide +kernel
theorem dX6_byColumns_35 : decode cX6_byColumns 35 = .ok (.aload_n 0, 1) := by decide +kernel
theorem dX6_byColumns_36 : decode cX6_byColumns 36 = .ok (.iload_n 1, 1) := by decide +kernel
theorem dX6_byColumns_37 : decode cX6_byColumns 37 = .ok (.iload 4, 2) := by decide +kernel
theorem dX6_byColumns_39 : decode cX6_byColumns 39 = .ok (.iload_n 3, 1) := by decide +kernel
theorem dX6_byColumns_40 : decode cX6_byColumns 40 = .ok (.invokevirtual 61, 3) := by decide +kernel
theorem dX6_byColumns_43 : decode cX6_byColumns 43 = .ok (.ifCond .eq 7, 3) := by decide +kernel
theorem dX6_byColumns_46 : decode cX6_byColumns 46 = .ok (.iconst 1, 1) := by decide +kernel
theorem dX6_byColumns_47 : decode cX6_byColumns 47 = .ok (.goto 4, 3) := by decide +kernel
theorem dX6_byColumns_50 : decode cX6_byColumns 50 = .ok (.iconst 0, 1) := by decide +kernel
theorem dX6_byColumns_51 : decode cX6_byColumns 51 = .ok (.iadd, 1) := by decide +kernel
theorem dX6_byColumns_52 : decode cX6_byColumns 52 = .ok (.istore_n 2, 1) := by decide +kernel
theorem dX6_byColumns_53 : decode cX6_byColumns 53 = .ok (.iinc 4 1, 3) := by decide +kernel
theorem dX6_byColumns_56 : decode cX6_byColumns 56 = .ok (.goto (-33), 3) := by decide +kernel
theorem dX6_byColumns_59 : decode cX6_byColumns 59 = .ok (.iinc 3 1, 3) := by decide +kernel
theorem dX6_byColumns_62 : decode cX6_byColumns 62 = .ok (.goto (-58), 3) := by decide +kernel
theorem dX6_byColumns_65 : decode cX6_byColumns 65 = .ok (.aload_n 0, 1) := by decide +kernel
theorem dX6_byColumns_66 : decode cX6_byColumns 66 = .ok (.iload_n 2, 1) := by decide +kernel
theorem dX6_byColumns_67 : decode cX6_byColumns 67 = .ok (.i2l, 1) := by decide +kernel
theorem dX6_byColumns_68 : decode cX6_byColumns 68 = .ok (.invokevirtual 100, 3) := by decide +kernel
theorem dX6_byColumns_71 : decode cX6_byColumns 71 = .ok (.iconst 0, 1) := by decide +kernel
theorem dX6_byColumns_72 : decode cX6_byColumns 72 = .ok (.istore_n 3, 1) := by decide +kernel
theorem dX6_byColumns_73 : decode cX6_byColumns 73 = .ok (.iload_n 3, 1) := by decide +kernel
theorem dX6_byColumns_74 : decode cX6_byColumns 74 = .ok (.iconst 2, 1) := by decide +kernel
theorem dX6_byColumns_75 : decode cX6_byColumns 75 = .ok (.if_icmp .ge 83, 3) := by decide +kernel
theorem dX6_byColumns_78 : decode cX6_byColumns 78 = .ok (.iconst 0, 1) := by decide +kernel
theorem dX6_byColumns_79 : decode cX6_byColumns 79 = .ok (.istore 4, 2) := by decide +kernel
theorem dX6_byColumns_81 : decode cX6_byColumns 81 = .ok (.iload 4, 2) := by decide +kernel
theorem dX6_byColumns_83 : decode cX6_byColumns 83 = .ok (.sipush 256, 3) := by decide +kernel
theorem dX6_byColumns_86 : decode cX6_byColumns 86 = .ok (.if_icmp .ge 66, 3) := by decide +kernel
theorem dX6_byColumns_89 : decode cX6_byColumns 89 = .ok (.iload 4, 2) := by decide +kernel
theorem dX6_byColumns_91 : decode cX6_byColumns 91 = .ok (.bipush 16, 2) := by decide +kernel
theorem dX6_byColumns_93 : decode cX6_byColumns 93 = .ok (.irem, 1) := by decide +kernel
theorem dX6_byColumns_94 : decode cX6_byColumns 94 = .ok (.istore 5, 2) := by decide +kernel
theorem dX6_byColumns_96 : decode cX6_byColumns 96 = .ok (.iload 4, 2) := by decide +kernel
theorem dX6_byColumns_98 : decode cX6_byColumns 98 = .ok (.bipush 16, 2) := by decide +kernel
theorem dX6_byColumns_100 : decode cX6_byColumns 100 = .ok (.idiv, 1) := by decide +kernel
theorem dX6_byColumns_101 : decode cX6_byColumns 101 = .ok (.istore 6, 2) := by decide +kernel
theorem dX6_byColumns_103 : decode cX6_byColumns 103 = .ok (.aload_n 0, 1) := by decide +kernel
theorem dX6_byColumns_104 : decode cX6_byColumns 104 = .ok (.getfield 20, 3) := by decide +kernel
theorem dX6_byColumns_107 : decode cX6_byColumns 107 = .ok (.iload_n 1, 1) := by decide +kernel
theorem dX6_byColumns_108 : decode cX6_byColumns 108 = .ok (.iload 5, 2) := by decide +kernel
theorem dX6_byColumns_110 : decode cX6_byColumns 110 = .ok (.iload 6, 2) := by decide +kernel
theorem dX6_byColumns_112 : decode cX6_byColumns 112 = .ok (.invokestatic 53, 3) := by decide +kernel
theorem dX6_byColumns_115 : decode cX6_byColumns 115 = .ok (.baload, 1) := by decide +kernel
theorem dX6_byColumns_116 : decode cX6_byColumns 116 = .ok (.ifCond .eq 30, 3) := by decide +kernel
theorem dX6_byColumns_119 : decode cX6_byColumns 119 = .ok (.aload_n 0, 1) := by decide +kernel
theorem dX6_byColumns_120 : decode cX6_byColumns 120 = .ok (.iload_n 3, 1) := by decide +kernel
theorem dX6_byColumns_121 : decode cX6_byColumns 121 = .ok (.ifCond .ne 9, 3) := by decide +kernel
theorem dX6_byColumns_124 : decode cX6_byColumns 124 = .ok (.iload 5, 2) := by decide +kernel
theorem dX6_byColumns_126 : decode cX6_byColumns 126 = .ok (.i2l, 1) := by decide +kernel
theorem dX6_byColumns_127 : decode cX6_byColumns 127 = .ok (.goto 16, 3) := by decide +kernel
theorem dX6_byColumns_130 : decode cX6_byColumns 130 = .ok (.aload_n 0, 1) := by decide +kernel
theorem dX6_byColumns_131 : decode cX6_byColumns 131 = .ok (.getfield 23, 3) := by decide +kernel
theorem dX6_byColumns_134 : decode cX6_byColumns 134 = .ok (.iload_n 1, 1) := by decide +kernel
theorem dX6_byColumns_135 : decode cX6_byColumns 135 = .ok (.iload 5, 2) := by decide +kernel
theorem dX6_byColumns_137 : decode cX6_byColumns 137 = .ok (.iload 6, 2) := by decide +kernel
theorem dX6_byColumns_139 : decode cX6_byColumns 139 = .ok (.invokestatic 53, 3) := by decide +kernel
theorem dX6_byColumns_142 : decode cX6_byColumns 142 = .ok (.laload, 1) := by decide +kernel
theorem dX6_byColumns_143 : decode cX6_byColumns 143 = .ok (.invokevirtual 100, 3) := by decide +kernel
theorem dX6_byColumns_146 : decode cX6_byColumns 146 = .ok (.iinc 4 1, 3) := by decide +kernel
theorem dX6_byColumns_149 : decode cX6_byColumns 149 = .ok (.goto (-68), 3) := by decide +kernel
theorem dX6_byColumns_152 : decode cX6_byColumns 152 = .ok (.iinc 3 1, 3) := by decide +kernel
theorem dX6_byColumns_155 : decode cX6_byColumns 155 = .ok (.goto (-82), 3) := by decide +kernel
theorem dX6_byColumns_158 : decode cX6_byColumns 158 = .ok (.return_, 1) := by decide +kernel
theorem dX6_isBlock_0 : decode cX6_isBlock 0 = .ok (.iconst 0, 1) := by decide +kernel
theorem dX6_isBlock_1 : decode cX6_isBlock 1 = .ok (.istore 5, 2) := by decide +kernel
theorem dX6_isBlock_3 : decode cX6_isBlock 3 = .ok (.iload_n 2, 1) := by decide +kernel
theorem dX6_isBlock_4 : decode cX6_isBlock 4 = .ok (.iload_n 3, 1) := by decide +kernel
theorem dX6_isBlock_5 : decode cX6_isBlock 5 = .ok (.imul, 1) := by decide +kernel
theorem dX6_isBlock_6 : decode cX6_isBlock 6 = .ok (.istore 6, 2) := by decide +kernel
theorem dX6_isBlock_8 : decode cX6_isBlock 8 = .ok (.iload 6, 2) := by decide +kernel
theorem dX6_isBlock_10 : decode cX6_isBlock 10 = .ok (.iload_n 2, 1) := by decide +kernel
theorem dX6_isBlock_11 : decode cX6_isBlock 11 = .ok (.iload_n 3, 1) := by decide +kernel
theorem dX6_isBlock_12 : decode cX6_isBlock 12 = .ok (.imul, 1) := by decide +kernel
theorem dX6_isBlock_13 : decode cX6_isBlock 13 = .ok (.iload_n 2, 1) := by decide +kernel
theorem dX6_isBlock_14 : decode cX6_isBlock 14 = .ok (.iadd, 1) := by decide +kernel
theorem dX6_isBlock_15 : decode cX6_isBlock 15 = .ok (.if_icmp .ge 70, 3) := by decide +kernel
theorem dX6_isBlock_18 : decode cX6_isBlock 18 = .ok (.iload 6, 2) := by decide +kernel
theorem dX6_isBlock_20 : decode cX6_isBlock 20 = .ok (.bipush 16, 2) := by decide +kernel
theorem dX6_isBlock_22 : decode cX6_isBlock 22 = .ok (.if_icmp .ge 63, 3) := by decide +kernel
theorem dX6_isBlock_25 : decode cX6_isBlock 25 = .ok (.iload_n 2, 1) := by decide +kernel
theorem dX6_isBlock_26 : decode cX6_isBlock 26 = .ok (.iload 4, 2) := by decide +kernel
theorem dX6_isBlock_28 : decode cX6_isBlock 28 = .ok (.imul, 1) := by decide +kernel
theorem dX6_isBlock_29 : decode cX6_isBlock 29 = .ok (.istore 7, 2) := by decide +kernel
theorem dX6_isBlock_31 : decode cX6_isBlock 31 = .ok (.iload 7, 2) := by decide +kernel
theorem dX6_isBlock_33 : decode cX6_isBlock 33 = .ok (.iload_n 2, 1) := by decide +kernel
theorem dX6_isBlock_34 : decode cX6_isBlock 34 = .ok (.iload 4, 2) := by decide +kernel
theorem dX6_isBlock_36 : decode cX6_isBlock 36 = .ok (.imul, 1) := by decide +kernel
theorem dX6_isBlock_37 : decode cX6_isBlock 37 = .ok (.iload_n 2, 1) := by decide +kernel
theorem dX6_isBlock_38 : decode cX6_isBlock 38 = .ok (.iadd, 1) := by decide +kernel
theorem dX6_isBlock_39 : decode cX6_isBlock 39 = .ok (.if_icmp .ge 40, 3) := by decide +kernel
theorem dX6_isBlock_42 : decode cX6_isBlock 42 = .ok (.iload 7, 2) := by decide +kernel
theorem dX6_isBlock_44 : decode cX6_isBlock 44 = .ok (.bipush 16, 2) := by decide +kernel
theorem dX6_isBlock_46 : decode cX6_isBlock 46 = .ok (.if_icmp .ge 33, 3) := by decide +kernel
theorem dX6_isBlock_49 : decode cX6_isBlock 49 = .ok (.iload 5, 2) := by decide +kernel
theorem dX6_isBlock_51 : decode cX6_isBlock 51 = .ok (.ifCond .ne 15, 3) := by decide +kernel
theorem dX6_isBlock_54 : decode cX6_isBlock 54 = .ok (.aload_n 0, 1) := by decide +kernel
theorem dX6_isBlock_55 : decode cX6_isBlock 55 = .ok (.iload_n 1, 1) := by decide +kernel
theorem dX6_isBlock_56 : decode cX6_isBlock 56 = .ok (.iload 6, 2) := by decide +kernel
theorem dX6_isBlock_58 : decode cX6_isBlock 58 = .ok (.iload 7, 2) := by decide +kernel
theorem dX6_isBlock_60 : decode cX6_isBlock 60 = .ok (.invokevirtual 61, 3) := by decide +kernel
theorem dX6_isBlock_63 : decode cX6_isBlock 63 = .ok (.ifCond .eq 7, 3) := by decide +kernel
theorem dX6_isBlock_66 : decode cX6_isBlock 66 = .ok (.iconst 1, 1) := by decide +kernel
theorem dX6_isBlock_67 : decode cX6_isBlock 67 = .ok (.goto 4, 3) := by decide +kernel
theorem dX6_isBlock_70 : decode cX6_isBlock 70 = .ok (.iconst 0, 1) := by decide +kernel
theorem dX6_isBlock_71 : decode cX6_isBlock 71 = .ok (.istore 5, 2) := by decide +kernel
theorem dX6_isBlock_73 : decode cX6_isBlock 73 = .ok (.iinc 7 1, 3) := by decide +kernel
theorem dX6_isBlock_76 : decode cX6_isBlock 76 = .ok (.goto (-45), 3) := by decide +kernel
theorem dX6_isBlock_79 : decode cX6_isBlock 79 = .ok (.iinc 6 1, 3) := by decide +kernel
theorem dX6_isBlock_82 : decode cX6_isBlock 82 = .ok (.goto (-74), 3) := by decide +kernel
theorem dX6_isBlock_85 : decode cX6_isBlock 85 = .ok (.iload 5, 2) := by decide +kernel
theorem dX6_isBlock_87 : decode cX6_isBlock 87 = .ok (.ireturn, 1) := by decide +kernel
theorem dX6_blocks_0 : decode cX6_blocks 0 = .ok (.aload_n 0, 1) := by decide +kernel
theorem dX6_blocks_1 : decode cX6_blocks 1 = .ok (.getfield 13, 3) := by decide +kernel
theorem dX6_blocks_4 : decode cX6_blocks 4 = .ok (.iload_n 1, 1) := by decide +kernel
theorem dX6_blocks_5 : decode cX6_blocks 5 = .ok (.iaload, 1) := by decide +kernel
theorem dX6_blocks_6 : decode cX6_blocks 6 = .ok (.iload_n 2, 1) := by decide +kernel
theorem dX6_blocks_7 : decode cX6_blocks 7 = .ok (.iadd, 1) := by decide +kernel
theorem dX6_blocks_8 : decode cX6_blocks 8 = .ok (.iconst 1, 1) := by decide +kernel
theorem dX6_blocks_9 : decode cX6_blocks 9 = .ok (.isub, 1) := by decide +kernel
theorem dX6_blocks_10 : decode cX6_blocks 10 = .ok (.iload_n 2, 1) := by decide +kernel
theorem dX6_blocks_11 : decode cX6_blocks 11 = .ok (.idiv, 1) := by decide +kernel
theorem dX6_blocks_12 : decode cX6_blocks 12 = .ok (.istore_n 3, 1) := by decide +kernel
theorem dX6_blocks_13 : decode cX6_blocks 13 = .ok (.aload_n 0, 1) := by decide +kernel
theorem dX6_blocks_14 : decode cX6_blocks 14 = .ok (.getfield 17, 3) := by decide +kernel
theorem dX6_blocks_17 : decode cX6_blocks 17 = .ok (.iload_n 1, 1) := by decide +kernel
theorem dX6_blocks_18 : decode cX6_blocks 18 = .ok (.iaload, 1) := by decide +kernel
theorem dX6_blocks_19 : decode cX6_blocks 19 = .ok (.iload_n 2, 1) := by decide +kernel
theorem dX6_blocks_20 : decode cX6_blocks 20 = .ok (.iadd, 1) := by decide +kernel
theorem dX6_blocks_21 : decode cX6_blocks 21 = .ok (.iconst 1, 1) := by decide +kernel
theorem dX6_blocks_22 : decode cX6_blocks 22 = .ok (.isub, 1) := by decide +kernel
theorem dX6_blocks_23 : decode cX6_blocks 23 = .ok (.iload_n 2, 1) := by decide +kernel
theorem dX6_blocks_24 : decode cX6_blocks 24 = .ok (.idiv, 1) := by decide +kernel
theorem dX6_blocks_25 : decode cX6_blocks 25 = .ok (.istore 4, 2) := by decide +kernel
theorem dX6_blocks_27 : decode cX6_blocks 27 = .ok (.iconst 0, 1) := by decide +kernel
theorem dX6_blocks_28 : decode cX6_blocks 28 = .ok (.istore 5, 2) := by decide +kernel
theorem dX6_blocks_30 : decode cX6_blocks 30 = .ok (.iconst 0, 1) := by decide +kernel
theorem dX6_blocks_31 : decode cX6_blocks 31 = .ok (.istore 6, 2) := by decide +kernel
theorem dX6_blocks_33 : decode cX6_blocks 33 = .ok (.iload 6, 2) := by decide +kernel
theorem dX6_blocks_35 : decode cX6_blocks 35 = .ok (.iload_n 3, 1) := by decide +kernel
theorem dX6_blocks_36 : decode cX6_blocks 36 = .ok (.if_icmp .ge 55, 3) := by decide +kernel
theorem dX6_blocks_39 : decode cX6_blocks 39 = .ok (.aload_n 0, 1) := by decide +kernel
theorem dX6_blocks_40 : decode cX6_blocks 40 = .ok (.iload 5, 2) := by decide +kernel
theorem dX6_blocks_42 : decode cX6_blocks 42 = .ok (.i2l, 1) := by decide +kernel
theorem dX6_blocks_43 : decode cX6_blocks 43 = .ok (.invokevirtual 100, 3) := by decide +kernel
theorem dX6_blocks_46 : decode cX6_blocks 46 = .ok (.iconst 0, 1) := by decide +kernel
theorem dX6_blocks_47 : decode cX6_blocks 47 = .ok (.istore 7, 2) := by decide +kernel
theorem dX6_blocks_49 : decode cX6_blocks 49 = .ok (.iload 7, 2) := by decide +kernel
theorem dX6_blocks_51 : decode cX6_blocks 51 = .ok (.iload 4, 2) := by decide +kernel
theorem dX6_blocks_53 : decode cX6_blocks 53 = .ok (.if_icmp .ge 32, 3) := by decide +kernel
theorem dX6_blocks_56 : decode cX6_blocks 56 = .ok (.iload 5, 2) := by decide +kernel
theorem dX6_blocks_58 : decode cX6_blocks 58 = .ok (.aload_n 0, 1) := by decide +kernel
theorem dX6_blocks_59 : decode cX6_blocks 59 = .ok (.iload_n 1, 1) := by decide +kernel
theorem dX6_blocks_60 : decode cX6_blocks 60 = .ok (.iload_n 2, 1) := by decide +kernel
theorem dX6_blocks_61 : decode cX6_blocks 61 = .ok (.iload 6, 2) := by decide +kernel
theorem dX6_blocks_63 : decode cX6_blocks 63 = .ok (.iload 7, 2) := by decide +kernel
theorem dX6_blocks_65 : decode cX6_blocks 65 = .ok (.invokevirtual 104, 3) := by decide +kernel
theorem dX6_blocks_68 : decode cX6_blocks 68 = .ok (.ifCond .eq 7, 3) := by decide +kernel
theorem dX6_blocks_71 : decode cX6_blocks 71 = .ok (.iconst 1, 1) := by decide +kernel
theorem dX6_blocks_72 : decode cX6_blocks 72 = .ok (.goto 4, 3) := by decide +kernel
theorem dX6_blocks_75 : decode cX6_blocks 75 = .ok (.iconst 0, 1) := by decide +kernel
theorem dX6_blocks_76 : decode cX6_blocks 76 = .ok (.iadd, 1) := by decide +kernel
theorem dX6_blocks_77 : decode cX6_blocks 77 = .ok (.istore 5, 2) := by decide +kernel
theorem dX6_blocks_79 : decode cX6_blocks 79 = .ok (.iinc 7 1, 3) := by decide +kernel
theorem dX6_blocks_82 : decode cX6_blocks 82 = .ok (.goto (-33), 3) := by decide +kernel
theorem dX6_blocks_85 : decode cX6_blocks 85 = .ok (.iinc 6 1, 3) := by decide +kernel
theorem dX6_blocks_88 : decode cX6_blocks 88 = .ok (.goto (-55), 3) := by decide +kernel
theorem dX6_blocks_91 : decode cX6_blocks 91 = .ok (.aload_n 0, 1) := by decide +kernel
theorem dX6_blocks_92 : decode cX6_blocks 92 = .ok (.iload 5, 2) := by decide +kernel
theorem dX6_blocks_94 : decode cX6_blocks 94 = .ok (.i2l, 1) := by decide +kernel
theorem dX6_blocks_95 : decode cX6_blocks 95 = .ok (.invokevirtual 100, 3) := by decide +kernel
theorem dX6_blocks_98 : decode cX6_blocks 98 = .ok (.iconst 0, 1) := by decide +kernel
theorem dX6_blocks_99 : decode cX6_blocks 99 = .ok (.istore 6, 2) := by decide +kernel
theorem dX6_blocks_101 : decode cX6_blocks 101 = .ok (.iload 6, 2) := by decide +kernel
theorem dX6_blocks_103 : decode cX6_blocks 103 = .ok (.iconst 2, 1) := by decide +kernel
theorem dX6_blocks_104 : decode cX6_blocks 104 = .ok (.if_icmp .ge 65, 3) := by decide +kernel
theorem dX6_blocks_107 : decode cX6_blocks 107 = .ok (.iconst 0, 1) := by decide +kernel
theorem dX6_blocks_108 : decode cX6_blocks 108 = .ok (.istore 7, 2) := by decide +kernel
theorem dX6_blocks_110 : decode cX6_blocks 110 = .ok (.iload 7, 2) := by decide +kernel
theorem dX6_blocks_112 : decode cX6_blocks 112 = .ok (.iload_n 3, 1) := by decide +kernel
theorem dX6_blocks_113 : decode cX6_blocks 113 = .ok (.if_icmp .ge 50, 3) := by decide +kernel
theorem dX6_blocks_116 : decode cX6_blocks 116 = .ok (.iconst 0, 1) := by decide +kernel
theorem dX6_blocks_117 : decode cX6_blocks 117 = .ok (.istore 8, 2) := by decide +kernel
theorem dX6_blocks_119 : decode cX6_blocks 119 = .ok (.iload 8, 2) := by decide +kernel
theorem dX6_blocks_121 : decode cX6_blocks 121 = .ok (.iload 4, 2) := by decide +kernel
theorem dX6_blocks_123 : decode cX6_blocks 123 = .ok (.if_icmp .ge 34, 3) := by decide +kernel
theorem dX6_blocks_126 : decode cX6_blocks 126 = .ok (.aload_n 0, 1) := by decide +kernel
theorem dX6_blocks_127 : decode cX6_blocks 127 = .ok (.iload_n 1, 1) := by decide +kernel
theorem dX6_blocks_128 : decode cX6_blocks 128 = .ok (.iload_n 2, 1) := by decide +kernel
theorem dX6_blocks_129 : decode cX6_blocks 129 = .ok (.iload 7, 2) := by decide +kernel
theorem dX6_blocks_131 : decode cX6_blocks 131 = .ok (.iload 8, 2) := by decide +kernel
theorem dX6_blocks_133 : decode cX6_blocks 133 = .ok (.invokevirtual 104, 3) := by decide +kernel
theorem dX6_blocks_136 : decode cX6_blocks 136 = .ok (.ifCond .eq 15, 3) := by decide +kernel
theorem dX6_blocks_139 : decode cX6_blocks 139 = .ok (.aload_n 0, 1) := by decide +kernel
theorem dX6_blocks_140 : decode cX6_blocks 140 = .ok (.iload_n 1, 1) := by decide +kernel
theorem dX6_blocks_141 : decode cX6_blocks 141 = .ok (.iload_n 2, 1) := by decide +kernel
theorem dX6_blocks_142 : decode cX6_blocks 142 = .ok (.iload 7, 2) := by decide +kernel
theorem dX6_blocks_144 : decode cX6_blocks 144 = .ok (.iload 8, 2) := by decide +kernel
theorem dX6_blocks_146 : decode cX6_blocks 146 = .ok (.iload 6, 2) := by decide +kernel
theorem dX6_blocks_148 : decode cX6_blocks 148 = .ok (.invokevirtual 108, 3) := by decide +kernel
theorem dX6_blocks_151 : decode cX6_blocks 151 = .ok (.iinc 8 1, 3) := by decide +kernel
theorem dX6_blocks_154 : decode cX6_blocks 154 = .ok (.goto (-35), 3) := by decide +kernel
theorem dX6_blocks_157 : decode cX6_blocks 157 = .ok (.iinc 7 1, 3) := by decide +kernel
theorem dX6_blocks_160 : decode cX6_blocks 160 = .ok (.goto (-50), 3) := by decide +kernel
theorem dX6_blocks_163 : decode cX6_blocks 163 = .ok (.iinc 6 1, 3) := by decide +kernel
theorem dX6_blocks_166 : decode cX6_blocks 166 = .ok (.goto (-65), 3) := by decide +kernel
theorem dX6_blocks_169 : decode cX6_blocks 169 = .ok (.return_, 1) := by decide +kernel
theorem dX6_layBlock_0 : decode cX6_layBlock 0 = .ok (.iload 5, 2) := by decide +kernel
theorem dX6_layBlock_2 : decode cX6_layBlock 2 = .ok (.ifCond .ne 11, 3) := by decide +kernel
theorem dX6_layBlock_5 : decode cX6_layBlock 5 = .ok (.aload_n 0, 1) := by decide +kernel
theorem dX6_layBlock_6 : decode cX6_layBlock 6 = .ok (.iload 4, 2) := by decide +kernel
theorem dX6_layBlock_8 : decode cX6_layBlock 8 = .ok (.i2l, 1) := by decide +kernel
theorem dX6_layBlock_9 : decode cX6_layBlock 9 = .ok (.invokevirtual 100, 3) := by decide +kernel
theorem dX6_layBlock_12 : decode cX6_layBlock 12 = .ok (.return_, 1) := by decide +kernel
theorem dX6_layBlock_13 : decode cX6_layBlock 13 = .ok (.iconst 0, 1) := by decide +kernel
theorem dX6_layBlock_14 : decode cX6_layBlock 14 = .ok (.istore 6, 2) := by decide +kernel
theorem dX6_layBlock_16 : decode cX6_layBlock 16 = .ok (.iload 6, 2) := by decide +kernel
theorem dX6_layBlock_18 : decode cX6_layBlock 18 = .ok (.iload_n 2, 1) := by decide +kernel
theorem dX6_layBlock_19 : decode cX6_layBlock 19 = .ok (.iload_n 2, 1) := by decide +kernel
theorem dX6_layBlock_20 : decode cX6_layBlock 20 = .ok (.imul, 1) := by decide +kernel
theorem dX6_layBlock_21 : decode cX6_layBlock 21 = .ok (.if_icmp .ge 35, 3) := by decide +kernel
theorem dX6_layBlock_24 : decode cX6_layBlock 24 = .ok (.aload_n 0, 1) := by decide +kernel
theorem dX6_layBlock_25 : decode cX6_layBlock 25 = .ok (.aload_n 0, 1) := by decide +kernel
theorem dX6_layBlock_26 : decode cX6_layBlock 26 = .ok (.iload_n 1, 1) := by decide +kernel
theorem dX6_layBlock_27 : decode cX6_layBlock 27 = .ok (.iload_n 2, 1) := by decide +kernel
theorem dX6_layBlock_28 : decode cX6_layBlock 28 = .ok (.iload_n 3, 1) := by decide +kernel
theorem dX6_layBlock_29 : decode cX6_layBlock 29 = .ok (.imul, 1) := by decide +kernel
theorem dX6_layBlock_30 : decode cX6_layBlock 30 = .ok (.iload 6, 2) := by decide +kernel
theorem dX6_layBlock_32 : decode cX6_layBlock 32 = .ok (.iload_n 2, 1) := by decide +kernel
theorem dX6_layBlock_33 : decode cX6_layBlock 33 = .ok (.idiv, 1) := by decide +kernel
theorem dX6_layBlock_34 : decode cX6_layBlock 34 = .ok (.iadd, 1) := by decide +kernel
theorem dX6_layBlock_35 : decode cX6_layBlock 35 = .ok (.iload_n 2, 1) := by decide +kernel
theorem dX6_layBlock_36 : decode cX6_layBlock 36 = .ok (.iload 4, 2) := by decide +kernel
theorem dX6_layBlock_38 : decode cX6_layBlock 38 = .ok (.imul, 1) := by decide +kernel
theorem dX6_layBlock_39 : decode cX6_layBlock 39 = .ok (.iload 6, 2) := by decide +kernel
theorem dX6_layBlock_41 : decode cX6_layBlock 41 = .ok (.iload_n 2, 1) := by decide +kernel
theorem dX6_layBlock_42 : decode cX6_layBlock 42 = .ok (.irem, 1) := by decide +kernel
theorem dX6_layBlock_43 : decode cX6_layBlock 43 = .ok (.iadd, 1) := by decide +kernel
theorem dX6_layBlock_44 : decode cX6_layBlock 44 = .ok (.invokevirtual 85, 3) := by decide +kernel
theorem dX6_layBlock_47 : decode cX6_layBlock 47 = .ok (.invokevirtual 100, 3) := by decide +kernel
theorem dX6_layBlock_50 : decode cX6_layBlock 50 = .ok (.iinc 6 1, 3) := by decide +kernel
theorem dX6_layBlock_53 : decode cX6_layBlock 53 = .ok (.goto (-37), 3) := by decide +kernel
theorem dX6_layBlock_56 : decode cX6_layBlock 56 = .ok (.return_, 1) := by decide +kernel
theorem dX6_slants_0 : decode cX6_slants 0 = .ok (.bipush (-15), 2) := by decide +kernel
theorem dX6_slants_2 : decode cX6_slants 2 = .ok (.istore_n 2, 1) := by decide +kernel
theorem dX6_slants_3 : decode cX6_slants 3 = .ok (.iload_n 2, 1) := by decide +kernel
theorem dX6_slants_4 : decode cX6_slants 4 = .ok (.bipush 15, 2) := by decide +kernel
theorem dX6_slants_6 : decode cX6_slants 6 = .ok (.if_icmp .gt 114, 3) := by decide +kernel
theorem dX6_slants_9 : decode cX6_slants 9 = .ok (.iconst 0, 1) := by decide +kernel
theorem dX6_slants_10 : decode cX6_slants 10 = .ok (.istore_n 3, 1) := by decide +kernel
theorem dX6_slants_11 : decode cX6_slants 11 = .ok (.iconst 0, 1) := by decide +kernel
theorem dX6_slants_12 : decode cX6_slants 12 = .ok (.istore 4, 2) := by decide +kernel
theorem dX6_slants_14 : decode cX6_slants 14 = .ok (.iload 4, 2) := by decide +kernel
theorem dX6_slants_16 : decode cX6_slants 16 = .ok (.aload_n 0, 1) := by decide +kernel
theorem dX6_slants_17 : decode cX6_slants 17 = .ok (.getfield 13, 3) := by decide +kernel
theorem dX6_slants_20 : decode cX6_slants 20 = .ok (.iload_n 1, 1) := by decide +kernel
theorem dX6_slants_21 : decode cX6_slants 21 = .ok (.iaload, 1) := by decide +kernel
theorem dX6_slants_22 : decode cX6_slants 22 = .ok (.if_icmp .ge 47, 3) := by decide +kernel
theorem dX6_slants_25 : decode cX6_slants 25 = .ok (.iload_n 3, 1) := by decide +kernel
theorem dX6_slants_26 : decode cX6_slants 26 = .ok (.ifCond .ne 31, 3) := by decide +kernel
theorem dX6_slants_29 : decode cX6_slants 29 = .ok (.aload_n 0, 1) := by decide +kernel
theorem dX6_slants_30 : decode cX6_slants 30 = .ok (.iload_n 1, 1) := by decide +kernel
theorem dX6_slants_31 : decode cX6_slants 31 = .ok (.iload 4, 2) := by decide +kernel
theorem dX6_slants_33 : decode cX6_slants 33 = .ok (.iload 4, 2) := by decide +kernel
theorem dX6_slants_35 : decode cX6_slants 35 = .ok (.iload_n 2, 1) := by decide +kernel
theorem dX6_slants_36 : decode cX6_slants 36 = .ok (.iadd, 1) := by decide +kernel
theorem dX6_slants_37 : decode cX6_slants 37 = .ok (.invokevirtual 57, 3) := by decide +kernel
theorem dX6_slants_40 : decode cX6_slants 40 = .ok (.ifCond .eq 21, 3) := by decide +kernel
theorem dX6_slants_43 : decode cX6_slants 43 = .ok (.aload_n 0, 1) := by decide +kernel
theorem dX6_slants_44 : decode cX6_slants 44 = .ok (.iload_n 1, 1) := by decide +kernel
theorem dX6_slants_45 : decode cX6_slants 45 = .ok (.iload 4, 2) := by decide +kernel
theorem dX6_slants_47 : decode cX6_slants 47 = .ok (.iload 4, 2) := by decide +kernel
theorem dX6_slants_49 : decode cX6_slants 49 = .ok (.iload_n 2, 1) := by decide +kernel
theorem dX6_slants_50 : decode cX6_slants 50 = .ok (.iadd, 1) := by decide +kernel
theorem dX6_slants_51 : decode cX6_slants 51 = .ok (.invokevirtual 61, 3) := by decide +kernel
theorem dX6_slants_54 : decode cX6_slants 54 = .ok (.ifCond .eq 7, 3) := by decide +kernel
theorem dX6_slants_57 : decode cX6_slants 57 = .ok (.iconst 1, 1) := by decide +kernel
theorem dX6_slants_58 : decode cX6_slants 58 = .ok (.goto 4, 3) := by decide +kernel
theorem dX6_slants_61 : decode cX6_slants 61 = .ok (.iconst 0, 1) := by decide +kernel
theorem dX6_slants_62 : decode cX6_slants 62 = .ok (.istore_n 3, 1) := by decide +kernel
theorem dX6_slants_63 : decode cX6_slants 63 = .ok (.iinc 4 1, 3) := by decide +kernel
theorem dX6_slants_66 : decode cX6_slants 66 = .ok (.goto (-52), 3) := by decide +kernel
theorem dX6_slants_69 : decode cX6_slants 69 = .ok (.iload_n 3, 1) := by decide +kernel
theorem dX6_slants_70 : decode cX6_slants 70 = .ok (.ifCond .eq 44, 3) := by decide +kernel
theorem dX6_slants_73 : decode cX6_slants 73 = .ok (.aload_n 0, 1) := by decide +kernel
theorem dX6_slants_74 : decode cX6_slants 74 = .ok (.iload_n 2, 1) := by decide +kernel
theorem dX6_slants_75 : decode cX6_slants 75 = .ok (.i2l, 1) := by decide +kernel
theorem dX6_slants_76 : decode cX6_slants 76 = .ok (.invokevirtual 100, 3) := by decide +kernel
theorem dX6_slants_79 : decode cX6_slants 79 = .ok (.iconst 0, 1) := by decide +kernel
theorem dX6_slants_80 : decode cX6_slants 80 = .ok (.istore 4, 2) := by decide +kernel
theorem dX6_slants_82 : decode cX6_slants 82 = .ok (.iload 4, 2) := by decide +kernel
theorem dX6_slants_84 : decode cX6_slants 84 = .ok (.aload_n 0, 1) := by decide +kernel
theorem dX6_slants_85 : decode cX6_slants 85 = .ok (.getfield 13, 3) := by decide +kernel
theorem dX6_slants_88 : decode cX6_slants 88 = .ok (.iload_n 1, 1) := by decide +kernel
theorem dX6_slants_89 : decode cX6_slants 89 = .ok (.iaload, 1) := by decide +kernel
theorem dX6_slants_90 : decode cX6_slants 90 = .ok (.if_icmp .ge 24, 3) := by decide +kernel
theorem dX6_slants_93 : decode cX6_slants 93 = .ok (.aload_n 0, 1) := by decide +kernel
theorem dX6_slants_94 : decode cX6_slants 94 = .ok (.aload_n 0, 1) := by decide +kernel
theorem dX6_slants_95 : decode cX6_slants 95 = .ok (.iload_n 1, 1) := by decide +kernel
theorem dX6_slants_96 : decode cX6_slants 96 = .ok (.iload 4, 2) := by decide +kernel
theorem dX6_slants_98 : decode cX6_slants 98 = .ok (.iload 4, 2) := by decide +kernel
theorem dX6_slants_100 : decode cX6_slants 100 = .ok (.iload_n 2, 1) := by decide +kernel
theorem dX6_slants_101 : decode cX6_slants 101 = .ok (.iadd, 1) := by decide +kernel
theorem dX6_slants_102 : decode cX6_slants 102 = .ok (.invokevirtual 85, 3) := by decide +kernel
theorem dX6_slants_105 : decode cX6_slants 105 = .ok (.invokevirtual 100, 3) := by decide +kernel
theorem dX6_slants_108 : decode cX6_slants 108 = .ok (.iinc 4 1, 3) := by decide +kernel
theorem dX6_slants_111 : decode cX6_slants 111 = .ok (.goto (-29), 3) := by decide +kernel
theorem dX6_slants_114 : decode cX6_slants 114 = .ok (.iinc 2 1, 3) := by decide +kernel
theorem dX6_slants_117 : decode cX6_slants 117 = .ok (.goto (-114), 3) := by decide +kernel
theorem dX6_slants_120 : decode cX6_slants 120 = .ok (.return_, 1) := by decide +kernel
theorem dX6_layOut_0 : decode cX6_layOut 0 = .ok (.aload_n 0, 1) := by decide +kernel
theorem dX6_layOut_1 : decode cX6_layOut 1 = .ok (.iconst 0, 1) := by decide +kernel
theorem dX6_layOut_2 : decode cX6_layOut 2 = .ok (.putfield 97, 3) := by decide +kernel
theorem dX6_layOut_5 : decode cX6_layOut 5 = .ok (.iload_n 2, 1) := by decide +kernel
theorem dX6_layOut_6 : decode cX6_layOut 6 = .ok (.tableswitch 189 0 4 #[34, 107, 115, 123, 132], 34) := by decide +kernel
theorem dX6_layOut_40 : decode cX6_layOut 40 = .ok (.iconst 0, 1) := by decide +kernel
theorem dX6_layOut_41 : decode cX6_layOut 41 = .ok (.istore 4, 2) := by decide +kernel
theorem dX6_layOut_43 : decode cX6_layOut 43 = .ok (.iload 4, 2) := by decide +kernel
theorem dX6_layOut_45 : decode cX6_layOut 45 = .ok (.sipush 256, 3) := by decide +kernel
theorem dX6_layOut_48 : decode cX6_layOut 48 = .ok (.if_icmp .ge 62, 3) := by decide +kernel
theorem dX6_layOut_51 : decode cX6_layOut 51 = .ok (.aload_n 0, 1) := by decide +kernel
theorem dX6_layOut_52 : decode cX6_layOut 52 = .ok (.getfield 20, 3) := by decide +kernel
theorem dX6_layOut_55 : decode cX6_layOut 55 = .ok (.sipush 256, 3) := by decide +kernel
theorem dX6_layOut_58 : decode cX6_layOut 58 = .ok (.iload_n 1, 1) := by decide +kernel
theorem dX6_layOut_59 : decode cX6_layOut 59 = .ok (.imul, 1) := by decide +kernel
theorem dX6_layOut_60 : decode cX6_layOut 60 = .ok (.iload 4, 2) := by decide +kernel
theorem dX6_layOut_62 : decode cX6_layOut 62 = .ok (.iadd, 1) := by decide +kernel
theorem dX6_layOut_63 : decode cX6_layOut 63 = .ok (.baload, 1) := by decide +kernel
theorem dX6_layOut_64 : decode cX6_layOut 64 = .ok (.ifCond .eq 40, 3) := by decide +kernel
theorem dX6_layOut_67 : decode cX6_layOut 67 = .ok (.aload_n 0, 1) := by decide +kernel
theorem dX6_layOut_68 : decode cX6_layOut 68 = .ok (.iload 4, 2) := by decide +kernel
theorem dX6_layOut_70 : decode cX6_layOut 70 = .ok (.bipush 16, 2) := by decide +kernel
theorem dX6_layOut_72 : decode cX6_layOut 72 = .ok (.idiv, 1) := by decide +kernel
theorem dX6_layOut_73 : decode cX6_layOut 73 = .ok (.i2l, 1) := by decide +kernel
theorem dX6_layOut_74 : decode cX6_layOut 74 = .ok (.invokevirtual 100, 3) := by decide +kernel
theorem dX6_layOut_77 : decode cX6_layOut 77 = .ok (.aload_n 0, 1) := by decide +kernel
theorem dX6_layOut_78 : decode cX6_layOut 78 = .ok (.iload 4, 2) := by decide +kernel
theorem dX6_layOut_80 : decode cX6_layOut 80 = .ok (.bipush 16, 2) := by decide +kernel
theorem dX6_layOut_82 : decode cX6_layOut 82 = .ok (.irem, 1) := by decide +kernel
theorem dX6_layOut_83 : decode cX6_layOut 83 = .ok (.i2l, 1) := by decide +kernel
theorem dX6_layOut_84 : decode cX6_layOut 84 = .ok (.invokevirtual 100, 3) := by decide +kernel
theorem dX6_layOut_87 : decode cX6_layOut 87 = .ok (.aload_n 0, 1) := by decide +kernel
theorem dX6_layOut_88 : decode cX6_layOut 88 = .ok (.aload_n 0, 1) := by decide +kernel
theorem dX6_layOut_89 : decode cX6_layOut 89 = .ok (.getfield 23, 3) := by decide +kernel
theorem dX6_layOut_92 : decode cX6_layOut 92 = .ok (.sipush 256, 3) := by decide +kernel
theorem dX6_layOut_95 : decode cX6_layOut 95 = .ok (.iload_n 1, 1) := by decide +kernel
theorem dX6_layOut_96 : decode cX6_layOut 96 = .ok (.imul, 1) := by decide +kernel
theorem dX6_layOut_97 : decode cX6_layOut 97 = .ok (.iload 4, 2) := by decide +kernel
theorem dX6_layOut_99 : decode cX6_layOut 99 = .ok (.iadd, 1) := by decide +kernel
theorem dX6_layOut_100 : decode cX6_layOut 100 = .ok (.laload, 1) := by decide +kernel
theorem dX6_layOut_101 : decode cX6_layOut 101 = .ok (.invokevirtual 100, 3) := by decide +kernel
theorem dX6_layOut_104 : decode cX6_layOut 104 = .ok (.iinc 4 1, 3) := by decide +kernel
theorem dX6_layOut_107 : decode cX6_layOut 107 = .ok (.goto (-64), 3) := by decide +kernel
theorem dX6_layOut_110 : decode cX6_layOut 110 = .ok (.goto 90, 3) := by decide +kernel
theorem dX6_layOut_113 : decode cX6_layOut 113 = .ok (.aload_n 0, 1) := by decide +kernel
theorem dX6_layOut_114 : decode cX6_layOut 114 = .ok (.iload_n 1, 1) := by decide +kernel
theorem dX6_layOut_115 : decode cX6_layOut 115 = .ok (.invokevirtual 112, 3) := by decide +kernel
theorem dX6_layOut_118 : decode cX6_layOut 118 = .ok (.goto 82, 3) := by decide +kernel
theorem dX6_layOut_121 : decode cX6_layOut 121 = .ok (.aload_n 0, 1) := by decide +kernel
theorem dX6_layOut_122 : decode cX6_layOut 122 = .ok (.iload_n 1, 1) := by decide +kernel
theorem dX6_layOut_123 : decode cX6_layOut 123 = .ok (.invokevirtual 115, 3) := by decide +kernel
theorem dX6_layOut_126 : decode cX6_layOut 126 = .ok (.goto 74, 3) := by decide +kernel
theorem dX6_layOut_129 : decode cX6_layOut 129 = .ok (.aload_n 0, 1) := by decide +kernel
theorem dX6_layOut_130 : decode cX6_layOut 130 = .ok (.iload_n 1, 1) := by decide +kernel
theorem dX6_layOut_131 : decode cX6_layOut 131 = .ok (.iload_n 3, 1) := by decide +kernel
theorem dX6_layOut_132 : decode cX6_layOut 132 = .ok (.invokevirtual 118, 3) := by decide +kernel
theorem dX6_layOut_135 : decode cX6_layOut 135 = .ok (.goto 65, 3) := by decide +kernel
theorem dX6_layOut_138 : decode cX6_layOut 138 = .ok (.iconst 0, 1) := by decide +kernel
theorem dX6_layOut_139 : decode cX6_layOut 139 = .ok (.istore 4, 2) := by decide +kernel
theorem dX6_layOut_141 : decode cX6_layOut 141 = .ok (.iload 4, 2) := by decide +kernel
theorem dX6_layOut_143 : decode cX6_layOut 143 = .ok (.aload_n 0, 1) := by decide +kernel
theorem dX6_layOut_144 : decode cX6_layOut 144 = .ok (.getfield 13, 3) := by decide +kernel
theorem dX6_layOut_147 : decode cX6_layOut 147 = .ok (.iload_n 1, 1) := by decide +kernel
theorem dX6_layOut_148 : decode cX6_layOut 148 = .ok (.iaload, 1) := by decide +kernel
theorem dX6_layOut_149 : decode cX6_layOut 149 = .ok (.aload_n 0, 1) := by decide +kernel
theorem dX6_layOut_150 : decode cX6_layOut 150 = .ok (.getfield 17, 3) := by decide +kernel
theorem dX6_layOut_153 : decode cX6_layOut 153 = .ok (.iload_n 1, 1) := by decide +kernel
theorem dX6_layOut_154 : decode cX6_layOut 154 = .ok (.iaload, 1) := by decide +kernel
theorem dX6_layOut_155 : decode cX6_layOut 155 = .ok (.imul, 1) := by decide +kernel
theorem dX6_layOut_156 : decode cX6_layOut 156 = .ok (.if_icmp .ge 36, 3) := by decide +kernel
theorem dX6_layOut_159 : decode cX6_layOut 159 = .ok (.aload_n 0, 1) := by decide +kernel
theorem dX6_layOut_160 : decode cX6_layOut 160 = .ok (.aload_n 0, 1) := by decide +kernel
theorem dX6_layOut_161 : decode cX6_layOut 161 = .ok (.iload_n 1, 1) := by decide +kernel
theorem dX6_layOut_162 : decode cX6_layOut 162 = .ok (.iload 4, 2) := by decide +kernel
theorem dX6_layOut_164 : decode cX6_layOut 164 = .ok (.aload_n 0, 1) := by decide +kernel
theorem dX6_layOut_165 : decode cX6_layOut 165 = .ok (.getfield 17, 3) := by decide +kernel
theorem dX6_layOut_168 : decode cX6_layOut 168 = .ok (.iload_n 1, 1) := by decide +kernel
theorem dX6_layOut_169 : decode cX6_layOut 169 = .ok (.iaload, 1) := by decide +kernel
theorem dX6_layOut_170 : decode cX6_layOut 170 = .ok (.idiv, 1) := by decide +kernel
theorem dX6_layOut_171 : decode cX6_layOut 171 = .ok (.iload 4, 2) := by decide +kernel
theorem dX6_layOut_173 : decode cX6_layOut 173 = .ok (.aload_n 0, 1) := by decide +kernel
theorem dX6_layOut_174 : decode cX6_layOut 174 = .ok (.getfield 17, 3) := by decide +kernel
theorem dX6_layOut_177 : decode cX6_layOut 177 = .ok (.iload_n 1, 1) := by decide +kernel
theorem dX6_layOut_178 : decode cX6_layOut 178 = .ok (.iaload, 1) := by decide +kernel
theorem dX6_layOut_179 : decode cX6_layOut 179 = .ok (.irem, 1) := by decide +kernel
theorem dX6_layOut_180 : decode cX6_layOut 180 = .ok (.invokevirtual 85, 3) := by decide +kernel
theorem dX6_layOut_183 : decode cX6_layOut 183 = .ok (.invokevirtual 100, 3) := by decide +kernel
theorem dX6_layOut_186 : decode cX6_layOut 186 = .ok (.iinc 4 1, 3) := by decide +kernel
theorem dX6_layOut_189 : decode cX6_layOut 189 = .ok (.goto (-48), 3) := by decide +kernel
theorem dX6_layOut_192 : decode cX6_layOut 192 = .ok (.goto 8, 3) := by decide +kernel
theorem dX6_layOut_195 : decode cX6_layOut 195 = .ok (.aload_n 0, 1) := by decide +kernel
theorem dX6_layOut_196 : decode cX6_layOut 196 = .ok (.iload_n 1, 1) := by decide +kernel
theorem dX6_layOut_197 : decode cX6_layOut 197 = .ok (.invokevirtual 121, 3) := by decide +kernel
theorem dX6_layOut_200 : decode cX6_layOut 200 = .ok (.return_, 1) := by decide +kernel
theorem dX6_isForm_0 : decode cX6_isForm 0 = .ok (.iload_n 0, 1) := by decide +kernel
theorem dX6_isForm_1 : decode cX6_isForm 1 = .ok (.ifCond .lt 27, 3) := by decide +kernel
theorem dX6_isForm_4 : decode cX6_isForm 4 = .ok (.iload_n 0, 1) := by decide +kernel
theorem dX6_isForm_5 : decode cX6_isForm 5 = .ok (.iconst 5, 1) := by decide +kernel
theorem dX6_isForm_6 : decode cX6_isForm 6 = .ok (.if_icmp .gt 22, 3) := by decide +kernel
theorem dX6_isForm_9 : decode cX6_isForm 9 = .ok (.iload_n 0, 1) := by decide +kernel
theorem dX6_isForm_10 : decode cX6_isForm 10 = .ok (.iconst 3, 1) := by decide +kernel
theorem dX6_isForm_11 : decode cX6_isForm 11 = .ok (.if_icmp .ne 13, 3) := by decide +kernel
theorem dX6_isForm_14 : decode cX6_isForm 14 = .ok (.iload_n 1, 1) := by decide +kernel
theorem dX6_isForm_15 : decode cX6_isForm 15 = .ok (.iconst 1, 1) := by decide +kernel
theorem dX6_isForm_16 : decode cX6_isForm 16 = .ok (.if_icmp .lt 12, 3) := by decide +kernel
theorem dX6_isForm_19 : decode cX6_isForm 19 = .ok (.iload_n 1, 1) := by decide +kernel
theorem dX6_isForm_20 : decode cX6_isForm 20 = .ok (.iconst 4, 1) := by decide +kernel
theorem dX6_isForm_21 : decode cX6_isForm 21 = .ok (.if_icmp .gt 7, 3) := by decide +kernel
theorem dX6_isForm_24 : decode cX6_isForm 24 = .ok (.iconst 1, 1) := by decide +kernel
theorem dX6_isForm_25 : decode cX6_isForm 25 = .ok (.goto 4, 3) := by decide +kernel
theorem dX6_isForm_28 : decode cX6_isForm 28 = .ok (.iconst 0, 1) := by decide +kernel
theorem dX6_isForm_29 : decode cX6_isForm 29 = .ok (.ireturn, 1) := by decide +kernel
theorem dX6_cost_0 : decode cX6_cost 0 = .ok (.aload_n 0, 1) := by decide +kernel
theorem dX6_cost_1 : decode cX6_cost 1 = .ok (.iload_n 1, 1) := by decide +kernel
theorem dX6_cost_2 : decode cX6_cost 2 = .ok (.invokevirtual 78, 3) := by decide +kernel
theorem dX6_cost_5 : decode cX6_cost 5 = .ok (.ifCond .ne 5, 3) := by decide +kernel
theorem dX6_cost_8 : decode cX6_cost 8 = .ok (.iconst (-1), 1) := by decide +kernel
theorem dX6_cost_9 : decode cX6_cost 9 = .ok (.ireturn, 1) := by decide +kernel
theorem dX6_cost_10 : decode cX6_cost 10 = .ok (.iload_n 2, 1) := by decide +kernel
theorem dX6_cost_11 : decode cX6_cost 11 = .ok (.iload_n 3, 1) := by decide +kernel
theorem dX6_cost_12 : decode cX6_cost 12 = .ok (.invokestatic 124, 3) := by decide +kernel
theorem dX6_cost_15 : decode cX6_cost 15 = .ok (.ifCond .ne 6, 3) := by decide +kernel
theorem dX6_cost_18 : decode cX6_cost 18 = .ok (.bipush (-2), 2) := by decide +kernel
theorem dX6_cost_20 : decode cX6_cost 20 = .ok (.ireturn, 1) := by decide +kernel
theorem dX6_cost_21 : decode cX6_cost 21 = .ok (.aload_n 0, 1) := by decide +kernel
theorem dX6_cost_22 : decode cX6_cost 22 = .ok (.iload_n 1, 1) := by decide +kernel
theorem dX6_cost_23 : decode cX6_cost 23 = .ok (.iload_n 2, 1) := by decide +kernel
theorem dX6_cost_24 : decode cX6_cost 24 = .ok (.iload_n 3, 1) := by decide +kernel
theorem dX6_cost_25 : decode cX6_cost 25 = .ok (.invokevirtual 127, 3) := by decide +kernel
theorem dX6_cost_28 : decode cX6_cost 28 = .ok (.aload_n 0, 1) := by decide +kernel
theorem dX6_cost_29 : decode cX6_cost 29 = .ok (.getfield 97, 3) := by decide +kernel
theorem dX6_cost_32 : decode cX6_cost 32 = .ok (.ireturn, 1) := by decide +kernel
theorem dX6_cheapest_0 : decode cX6_cheapest 0 = .ok (.aload_n 0, 1) := by decide +kernel
theorem dX6_cheapest_1 : decode cX6_cheapest 1 = .ok (.iload_n 1, 1) := by decide +kernel
theorem dX6_cheapest_2 : decode cX6_cheapest 2 = .ok (.invokevirtual 78, 3) := by decide +kernel
theorem dX6_cheapest_5 : decode cX6_cheapest 5 = .ok (.ifCond .ne 5, 3) := by decide +kernel
theorem dX6_cheapest_8 : decode cX6_cheapest 8 = .ok (.iconst (-1), 1) := by decide +kernel
theorem dX6_cheapest_9 : decode cX6_cheapest 9 = .ok (.ireturn, 1) := by decide +kernel
theorem dX6_cheapest_10 : decode cX6_cheapest 10 = .ok (.iconst 3, 1) := by decide +kernel
theorem dX6_cheapest_11 : decode cX6_cheapest 11 = .ok (.iload_n 2, 1) := by decide +kernel
theorem dX6_cheapest_12 : decode cX6_cheapest 12 = .ok (.invokestatic 124, 3) := by decide +kernel
theorem dX6_cheapest_15 : decode cX6_cheapest 15 = .ok (.ifCond .ne 6, 3) := by decide +kernel
theorem dX6_cheapest_18 : decode cX6_cheapest 18 = .ok (.bipush (-2), 2) := by decide +kernel
theorem dX6_cheapest_20 : decode cX6_cheapest 20 = .ok (.ireturn, 1) := by decide +kernel
theorem dX6_cheapest_21 : decode cX6_cheapest 21 = .ok (.iconst 0, 1) := by decide +kernel
theorem dX6_cheapest_22 : decode cX6_cheapest 22 = .ok (.istore_n 3, 1) := by decide +kernel
theorem dX6_cheapest_23 : decode cX6_cheapest 23 = .ok (.iconst 1, 1) := by decide +kernel
theorem dX6_cheapest_24 : decode cX6_cheapest 24 = .ok (.istore 4, 2) := by decide +kernel
theorem dX6_cheapest_26 : decode cX6_cheapest 26 = .ok (.iload 4, 2) := by decide +kernel
theorem dX6_cheapest_28 : decode cX6_cheapest 28 = .ok (.iconst 5, 1) := by decide +kernel
theorem dX6_cheapest_29 : decode cX6_cheapest 29 = .ok (.if_icmp .gt 30, 3) := by decide +kernel
theorem dX6_cheapest_32 : decode cX6_cheapest 32 = .ok (.aload_n 0, 1) := by decide +kernel
theorem dX6_cheapest_33 : decode cX6_cheapest 33 = .ok (.iload_n 1, 1) := by decide +kernel
theorem dX6_cheapest_34 : decode cX6_cheapest 34 = .ok (.iload 4, 2) := by decide +kernel
theorem dX6_cheapest_36 : decode cX6_cheapest 36 = .ok (.iload_n 2, 1) := by decide +kernel
theorem dX6_cheapest_37 : decode cX6_cheapest 37 = .ok (.invokevirtual 131, 3) := by decide +kernel
theorem dX6_cheapest_40 : decode cX6_cheapest 40 = .ok (.aload_n 0, 1) := by decide +kernel
theorem dX6_cheapest_41 : decode cX6_cheapest 41 = .ok (.iload_n 1, 1) := by decide +kernel
theorem dX6_cheapest_42 : decode cX6_cheapest 42 = .ok (.iload_n 3, 1) := by decide +kernel
theorem dX6_cheapest_43 : decode cX6_cheapest 43 = .ok (.iload_n 2, 1) := by decide +kernel
theorem dX6_cheapest_44 : decode cX6_cheapest 44 = .ok (.invokevirtual 131, 3) := by decide +kernel
theorem dX6_cheapest_47 : decode cX6_cheapest 47 = .ok (.if_icmp .ge 6, 3) := by decide +kernel
theorem dX6_cheapest_50 : decode cX6_cheapest 50 = .ok (.iload 4, 2) := by decide +kernel
theorem dX6_cheapest_52 : decode cX6_cheapest 52 = .ok (.istore_n 3, 1) := by decide +kernel
theorem dX6_cheapest_53 : decode cX6_cheapest 53 = .ok (.iinc 4 1, 3) := by decide +kernel
theorem dX6_cheapest_56 : decode cX6_cheapest 56 = .ok (.goto (-30), 3) := by decide +kernel
theorem dX6_cheapest_59 : decode cX6_cheapest 59 = .ok (.iload_n 3, 1) := by decide +kernel
theorem dX6_cheapest_60 : decode cX6_cheapest 60 = .ok (.ireturn, 1) := by decide +kernel
theorem dX6_cell_0 : decode cX6_cell 0 = .ok (.aload_n 0, 1) := by decide +kernel
theorem dX6_cell_1 : decode cX6_cell 1 = .ok (.iload_n 1, 1) := by decide +kernel
theorem dX6_cell_2 : decode cX6_cell 2 = .ok (.invokevirtual 78, 3) := by decide +kernel
theorem dX6_cell_5 : decode cX6_cell 5 = .ok (.ifCond .eq 11, 3) := by decide +kernel
theorem dX6_cell_8 : decode cX6_cell 8 = .ok (.iload_n 2, 1) := by decide +kernel
theorem dX6_cell_9 : decode cX6_cell 9 = .ok (.iload_n 3, 1) := by decide +kernel
theorem dX6_cell_10 : decode cX6_cell 10 = .ok (.invokestatic 124, 3) := by decide +kernel
theorem dX6_cell_13 : decode cX6_cell 13 = .ok (.ifCond .ne 5, 3) := by decide +kernel
theorem dX6_cell_16 : decode cX6_cell 16 = .ok (.lconst 0, 1) := by decide +kernel
theorem dX6_cell_17 : decode cX6_cell 17 = .ok (.lreturn, 1) := by decide +kernel
theorem dX6_cell_18 : decode cX6_cell 18 = .ok (.aload_n 0, 1) := by decide +kernel
theorem dX6_cell_19 : decode cX6_cell 19 = .ok (.iload_n 1, 1) := by decide +kernel
theorem dX6_cell_20 : decode cX6_cell 20 = .ok (.iload_n 2, 1) := by decide +kernel
theorem dX6_cell_21 : decode cX6_cell 21 = .ok (.iload_n 3, 1) := by decide +kernel
theorem dX6_cell_22 : decode cX6_cell 22 = .ok (.invokevirtual 127, 3) := by decide +kernel
theorem dX6_cell_25 : decode cX6_cell 25 = .ok (.iload 4, 2) := by decide +kernel
theorem dX6_cell_27 : decode cX6_cell 27 = .ok (.ifCond .lt 12, 3) := by decide +kernel
theorem dX6_cell_30 : decode cX6_cell 30 = .ok (.iload 4, 2) := by decide +kernel
theorem dX6_cell_32 : decode cX6_cell 32 = .ok (.aload_n 0, 1) := by decide +kernel
theorem dX6_cell_33 : decode cX6_cell 33 = .ok (.getfield 97, 3) := by decide +kernel
theorem dX6_cell_36 : decode cX6_cell 36 = .ok (.if_icmp .lt 7, 3) := by decide +kernel
theorem dX6_cell_39 : decode cX6_cell 39 = .ok (.lconst 0, 1) := by decide +kernel
theorem dX6_cell_40 : decode cX6_cell 40 = .ok (.goto 10, 3) := by decide +kernel
theorem dX6_cell_43 : decode cX6_cell 43 = .ok (.aload_n 0, 1) := by decide +kernel
theorem dX6_cell_44 : decode cX6_cell 44 = .ok (.getfield 36, 3) := by decide +kernel
theorem dX6_cell_47 : decode cX6_cell 47 = .ok (.iload 4, 2) := by decide +kernel
theorem dX6_cell_49 : decode cX6_cell 49 = .ok (.laload, 1) := by decide +kernel
theorem dX6_cell_50 : decode cX6_cell 50 = .ok (.lreturn, 1) := by decide +kernel
theorem dX6_isGraph_0 : decode cX6_isGraph 0 = .ok (.aload_n 0, 1) := by decide +kernel
theorem dX6_isGraph_1 : decode cX6_isGraph 1 = .ok (.getfield 13, 3) := by decide +kernel
theorem dX6_isGraph_4 : decode cX6_isGraph 4 = .ok (.iload_n 1, 1) := by decide +kernel
theorem dX6_isGraph_5 : decode cX6_isGraph 5 = .ok (.iaload, 1) := by decide +kernel
theorem dX6_isGraph_6 : decode cX6_isGraph 6 = .ok (.aload_n 0, 1) := by decide +kernel
theorem dX6_isGraph_7 : decode cX6_isGraph 7 = .ok (.getfield 17, 3) := by decide +kernel
theorem dX6_isGraph_10 : decode cX6_isGraph 10 = .ok (.iload_n 1, 1) := by decide +kernel
theorem dX6_isGraph_11 : decode cX6_isGraph 11 = .ok (.iaload, 1) := by decide +kernel
theorem dX6_isGraph_12 : decode cX6_isGraph 12 = .ok (.if_icmp .ne 7, 3) := by decide +kernel
theorem dX6_isGraph_15 : decode cX6_isGraph 15 = .ok (.iconst 1, 1) := by decide +kernel
theorem dX6_isGraph_16 : decode cX6_isGraph 16 = .ok (.goto 4, 3) := by decide +kernel
theorem dX6_isGraph_19 : decode cX6_isGraph 19 = .ok (.iconst 0, 1) := by decide +kernel
theorem dX6_isGraph_20 : decode cX6_isGraph 20 = .ok (.ireturn, 1) := by decide +kernel
theorem dX6_walks_0 : decode cX6_walks 0 = .ok (.aload_n 0, 1) := by decide +kernel
theorem dX6_walks_1 : decode cX6_walks 1 = .ok (.iload_n 1, 1) := by decide +kernel
theorem dX6_walks_2 : decode cX6_walks 2 = .ok (.invokevirtual 78, 3) := by decide +kernel
theorem dX6_walks_5 : decode cX6_walks 5 = .ok (.ifCond .eq 51, 3) := by decide +kernel
theorem dX6_walks_8 : decode cX6_walks 8 = .ok (.aload_n 0, 1) := by decide +kernel
theorem dX6_walks_9 : decode cX6_walks 9 = .ok (.iload_n 1, 1) := by decide +kernel
theorem dX6_walks_10 : decode cX6_walks 10 = .ok (.invokevirtual 134, 3) := by decide +kernel
theorem dX6_walks_13 : decode cX6_walks 13 = .ok (.ifCond .eq 43, 3) := by decide +kernel
theorem dX6_walks_16 : decode cX6_walks 16 = .ok (.iload_n 2, 1) := by decide +kernel
theorem dX6_walks_17 : decode cX6_walks 17 = .ok (.ifCond .lt 39, 3) := by decide +kernel
theorem dX6_walks_20 : decode cX6_walks 20 = .ok (.iload_n 2, 1) := by decide +kernel
theorem dX6_walks_21 : decode cX6_walks 21 = .ok (.aload_n 0, 1) := by decide +kernel
theorem dX6_walks_22 : decode cX6_walks 22 = .ok (.getfield 13, 3) := by decide +kernel
theorem dX6_walks_25 : decode cX6_walks 25 = .ok (.iload_n 1, 1) := by decide +kernel
theorem dX6_walks_26 : decode cX6_walks 26 = .ok (.iaload, 1) := by decide +kernel
theorem dX6_walks_27 : decode cX6_walks 27 = .ok (.if_icmp .ge 29, 3) := by decide +kernel
theorem dX6_walks_30 : decode cX6_walks 30 = .ok (.iload_n 3, 1) := by decide +kernel
theorem dX6_walks_31 : decode cX6_walks 31 = .ok (.ifCond .lt 25, 3) := by decide +kernel
theorem dX6_walks_34 : decode cX6_walks 34 = .ok (.iload_n 3, 1) := by decide +kernel
theorem dX6_walks_35 : decode cX6_walks 35 = .ok (.aload_n 0, 1) := by decide +kernel
theorem dX6_walks_36 : decode cX6_walks 36 = .ok (.getfield 13, 3) := by decide +kernel
theorem dX6_walks_39 : decode cX6_walks 39 = .ok (.iload_n 1, 1) := by decide +kernel
theorem dX6_walks_40 : decode cX6_walks 40 = .ok (.iaload, 1) := by decide +kernel
theorem dX6_walks_41 : decode cX6_walks 41 = .ok (.if_icmp .ge 15, 3) := by decide +kernel
theorem dX6_walks_44 : decode cX6_walks 44 = .ok (.iload 4, 2) := by decide +kernel
theorem dX6_walks_46 : decode cX6_walks 46 = .ok (.ifCond .lt 10, 3) := by decide +kernel
theorem dX6_walks_49 : decode cX6_walks 49 = .ok (.iload 4, 2) := by decide +kernel
theorem dX6_walks_51 : decode cX6_walks 51 = .ok (.bipush 60, 2) := by decide +kernel
theorem dX6_walks_53 : decode cX6_walks 53 = .ok (.if_icmp .le 5, 3) := by decide +kernel
theorem dX6_walks_56 : decode cX6_walks 56 = .ok (.lconst 0, 1) := by decide +kernel
theorem dX6_walks_57 : decode cX6_walks 57 = .ok (.lreturn, 1) := by decide +kernel
theorem dX6_walks_58 : decode cX6_walks 58 = .ok (.iconst 0, 1) := by decide +kernel
theorem dX6_walks_59 : decode cX6_walks 59 = .ok (.istore 5, 2) := by decide +kernel
theorem dX6_walks_61 : decode cX6_walks 61 = .ok (.iload 5, 2) := by decide +kernel
theorem dX6_walks_63 : decode cX6_walks 63 = .ok (.bipush 16, 2) := by decide +kernel
theorem dX6_walks_65 : decode cX6_walks 65 = .ok (.if_icmp .ge 27, 3) := by decide +kernel
theorem dX6_walks_68 : decode cX6_walks 68 = .ok (.aload_n 0, 1) := by decide +kernel
theorem dX6_walks_69 : decode cX6_walks 69 = .ok (.getfield 39, 3) := by decide +kernel
theorem dX6_walks_72 : decode cX6_walks 72 = .ok (.iload 5, 2) := by decide +kernel
theorem dX6_walks_74 : decode cX6_walks 74 = .ok (.iload 5, 2) := by decide +kernel
theorem dX6_walks_76 : decode cX6_walks 76 = .ok (.iload_n 2, 1) := by decide +kernel
theorem dX6_walks_77 : decode cX6_walks 77 = .ok (.if_icmp .ne 7, 3) := by decide +kernel
theorem dX6_walks_80 : decode cX6_walks 80 = .ok (.lconst 1, 1) := by decide +kernel
theorem dX6_walks_81 : decode cX6_walks 81 = .ok (.goto 4, 3) := by decide +kernel
theorem dX6_walks_84 : decode cX6_walks 84 = .ok (.lconst 0, 1) := by decide +kernel
theorem dX6_walks_85 : decode cX6_walks 85 = .ok (.lastore, 1) := by decide +kernel
theorem dX6_walks_86 : decode cX6_walks 86 = .ok (.iinc 5 1, 3) := by decide +kernel
theorem dX6_walks_89 : decode cX6_walks 89 = .ok (.goto (-28), 3) := by decide +kernel
theorem dX6_walks_92 : decode cX6_walks 92 = .ok (.iconst 0, 1) := by decide +kernel
theorem dX6_walks_93 : decode cX6_walks 93 = .ok (.istore 5, 2) := by decide +kernel
theorem dX6_walks_95 : decode cX6_walks 95 = .ok (.iload 5, 2) := by decide +kernel
theorem dX6_walks_97 : decode cX6_walks 97 = .ok (.iload 4, 2) := by decide +kernel
theorem dX6_walks_99 : decode cX6_walks 99 = .ok (.if_icmp .ge 123, 3) := by decide +kernel
theorem dX6_walks_102 : decode cX6_walks 102 = .ok (.iconst 0, 1) := by decide +kernel
theorem dX6_walks_103 : decode cX6_walks 103 = .ok (.istore 6, 2) := by decide +kernel
theorem dX6_walks_105 : decode cX6_walks 105 = .ok (.iload 6, 2) := by decide +kernel
theorem dX6_walks_107 : decode cX6_walks 107 = .ok (.aload_n 0, 1) := by decide +kernel
theorem dX6_walks_108 : decode cX6_walks 108 = .ok (.getfield 13, 3) := by decide +kernel
theorem dX6_walks_111 : decode cX6_walks 111 = .ok (.iload_n 1, 1) := by decide +kernel
theorem dX6_walks_112 : decode cX6_walks 112 = .ok (.iaload, 1) := by decide +kernel
theorem dX6_walks_113 : decode cX6_walks 113 = .ok (.if_icmp .ge 69, 3) := by decide +kernel
theorem dX6_walks_116 : decode cX6_walks 116 = .ok (.aload_n 0, 1) := by decide +kernel
theorem dX6_walks_117 : decode cX6_walks 117 = .ok (.getfield 42, 3) := by decide +kernel
theorem dX6_walks_120 : decode cX6_walks 120 = .ok (.iload 6, 2) := by decide +kernel
theorem dX6_walks_122 : decode cX6_walks 122 = .ok (.lconst 0, 1) := by decide +kernel
theorem dX6_walks_123 : decode cX6_walks 123 = .ok (.lastore, 1) := by decide +kernel
theorem dX6_walks_124 : decode cX6_walks 124 = .ok (.iconst 0, 1) := by decide +kernel
theorem dX6_walks_125 : decode cX6_walks 125 = .ok (.istore 7, 2) := by decide +kernel
theorem dX6_walks_127 : decode cX6_walks 127 = .ok (.iload 7, 2) := by decide +kernel
theorem dX6_walks_129 : decode cX6_walks 129 = .ok (.aload_n 0, 1) := by decide +kernel
theorem dX6_walks_130 : decode cX6_walks 130 = .ok (.getfield 13, 3) := by decide +kernel
theorem dX6_walks_133 : decode cX6_walks 133 = .ok (.iload_n 1, 1) := by decide +kernel
theorem dX6_walks_134 : decode cX6_walks 134 = .ok (.iaload, 1) := by decide +kernel
theorem dX6_walks_135 : decode cX6_walks 135 = .ok (.if_icmp .ge 41, 3) := by decide +kernel
theorem dX6_walks_138 : decode cX6_walks 138 = .ok (.aload_n 0, 1) := by decide +kernel
theorem dX6_walks_139 : decode cX6_walks 139 = .ok (.getfield 42, 3) := by decide +kernel
theorem dX6_walks_142 : decode cX6_walks 142 = .ok (.iload 6, 2) := by decide +kernel
theorem dX6_walks_144 : decode cX6_walks 144 = .ok (.aload_n 0, 1) := by decide +kernel
theorem dX6_walks_145 : decode cX6_walks 145 = .ok (.getfield 42, 3) := by decide +kernel
theorem dX6_walks_148 : decode cX6_walks 148 = .ok (.iload 6, 2) := by decide +kernel
theorem dX6_walks_150 : decode cX6_walks 150 = .ok (.laload, 1) := by decide +kernel
theorem dX6_walks_151 : decode cX6_walks 151 = .ok (.aload_n 0, 1) := by decide +kernel
theorem dX6_walks_152 : decode cX6_walks 152 = .ok (.getfield 39, 3) := by decide +kernel
theorem dX6_walks_155 : decode cX6_walks 155 = .ok (.iload 7, 2) := by decide +kernel
theorem dX6_walks_157 : decode cX6_walks 157 = .ok (.laload, 1) := by decide +kernel
theorem dX6_walks_158 : decode cX6_walks 158 = .ok (.aload_n 0, 1) := by decide +kernel
theorem dX6_walks_159 : decode cX6_walks 159 = .ok (.iload_n 1, 1) := by decide +kernel
theorem dX6_walks_160 : decode cX6_walks 160 = .ok (.iload 7, 2) := by decide +kernel
theorem dX6_walks_162 : decode cX6_walks 162 = .ok (.iload 6, 2) := by decide +kernel
theorem dX6_walks_164 : decode cX6_walks 164 = .ok (.invokevirtual 85, 3) := by decide +kernel
theorem dX6_walks_167 : decode cX6_walks 167 = .ok (.lmul, 1) := by decide +kernel
theorem dX6_walks_168 : decode cX6_walks 168 = .ok (.ladd, 1) := by decide +kernel
theorem dX6_walks_169 : decode cX6_walks 169 = .ok (.lastore, 1) := by decide +kernel
theorem dX6_walks_170 : decode cX6_walks 170 = .ok (.iinc 7 1, 3) := by decide +kernel
theorem dX6_walks_173 : decode cX6_walks 173 = .ok (.goto (-46), 3) := by decide +kernel
theorem dX6_walks_176 : decode cX6_walks 176 = .ok (.iinc 6 1, 3) := by decide +kernel
theorem dX6_walks_179 : decode cX6_walks 179 = .ok (.goto (-74), 3) := by decide +kernel
theorem dX6_walks_182 : decode cX6_walks 182 = .ok (.iconst 0, 1) := by decide +kernel
theorem dX6_walks_183 : decode cX6_walks 183 = .ok (.istore 6, 2) := by decide +kernel
theorem dX6_walks_185 : decode cX6_walks 185 = .ok (.iload 6, 2) := by decide +kernel
theorem dX6_walks_187 : decode cX6_walks 187 = .ok (.aload_n 0, 1) := by decide +kernel
theorem dX6_walks_188 : decode cX6_walks 188 = .ok (.getfield 13, 3) := by decide +kernel
theorem dX6_walks_191 : decode cX6_walks 191 = .ok (.iload_n 1, 1) := by decide +kernel
theorem dX6_walks_192 : decode cX6_walks 192 = .ok (.iaload, 1) := by decide +kernel
theorem dX6_walks_193 : decode cX6_walks 193 = .ok (.if_icmp .ge 23, 3) := by decide +kernel
theorem dX6_walks_196 : decode cX6_walks 196 = .ok (.aload_n 0, 1) := by decide +kernel
theorem dX6_walks_197 : decode cX6_walks 197 = .ok (.getfield 39, 3) := by decide +kernel
theorem dX6_walks_200 : decode cX6_walks 200 = .ok (.iload 6, 2) := by decide +kernel
theorem dX6_walks_202 : decode cX6_walks 202 = .ok (.aload_n 0, 1) := by decide +kernel
theorem dX6_walks_203 : decode cX6_walks 203 = .ok (.getfield 42, 3) := by decide +kernel
theorem dX6_walks_206 : decode cX6_walks 206 = .ok (.iload 6, 2) := by decide +kernel
theorem dX6_walks_208 : decode cX6_walks 208 = .ok (.laload, 1) := by decide +kernel
theorem dX6_walks_209 : decode cX6_walks 209 = .ok (.lastore, 1) := by decide +kernel
theorem dX6_walks_210 : decode cX6_walks 210 = .ok (.iinc 6 1, 3) := by decide +kernel
theorem dX6_walks_213 : decode cX6_walks 213 = .ok (.goto (-28), 3) := by decide +kernel
theorem dX6_walks_216 : decode cX6_walks 216 = .ok (.iinc 5 1, 3) := by decide +kernel
theorem dX6_walks_219 : decode cX6_walks 219 = .ok (.goto (-124), 3) := by decide +kernel
theorem dX6_walks_222 : decode cX6_walks 222 = .ok (.aload_n 0, 1) := by decide +kernel
theorem dX6_walks_223 : decode cX6_walks 223 = .ok (.getfield 39, 3) := by decide +kernel
theorem dX6_walks_226 : decode cX6_walks 226 = .ok (.iload_n 3, 1) := by decide +kernel
theorem dX6_walks_227 : decode cX6_walks 227 = .ok (.laload, 1) := by decide +kernel
theorem dX6_walks_228 : decode cX6_walks 228 = .ok (.lreturn, 1) := by decide +kernel
theorem dX6_reach_0 : decode cX6_reach 0 = .ok (.iconst 1, 1) := by decide +kernel
theorem dX6_reach_1 : decode cX6_reach 1 = .ok (.iload_n 2, 1) := by decide +kernel
theorem dX6_reach_2 : decode cX6_reach 2 = .ok (.ishl, 1) := by decide +kernel
theorem dX6_reach_3 : decode cX6_reach 3 = .ok (.istore 4, 2) := by decide +kernel
theorem dX6_reach_5 : decode cX6_reach 5 = .ok (.iconst 0, 1) := by decide +kernel
theorem dX6_reach_6 : decode cX6_reach 6 = .ok (.istore 5, 2) := by decide +kernel
theorem dX6_reach_8 : decode cX6_reach 8 = .ok (.iload 5, 2) := by decide +kernel
theorem dX6_reach_10 : decode cX6_reach 10 = .ok (.iload_n 3, 1) := by decide +kernel
theorem dX6_reach_11 : decode cX6_reach 11 = .ok (.if_icmp .ge 93, 3) := by decide +kernel
theorem dX6_reach_14 : decode cX6_reach 14 = .ok (.iload 4, 2) := by decide +kernel
theorem dX6_reach_16 : decode cX6_reach 16 = .ok (.istore 6, 2) := by decide +kernel
theorem dX6_reach_18 : decode cX6_reach 18 = .ok (.iconst 0, 1) := by decide +kernel
theorem dX6_reach_19 : decode cX6_reach 19 = .ok (.istore 7, 2) := by decide +kernel
theorem dX6_reach_21 : decode cX6_reach 21 = .ok (.iload 7, 2) := by decide +kernel
theorem dX6_reach_23 : decode cX6_reach 23 = .ok (.aload_n 0, 1) := by decide +kernel
theorem dX6_reach_24 : decode cX6_reach 24 = .ok (.getfield 13, 3) := by decide +kernel
theorem dX6_reach_27 : decode cX6_reach 27 = .ok (.iload_n 1, 1) := by decide +kernel
theorem dX6_reach_28 : decode cX6_reach 28 = .ok (.iaload, 1) := by decide +kernel
theorem dX6_reach_29 : decode cX6_reach 29 = .ok (.if_icmp .ge 65, 3) := by decide +kernel
theorem dX6_reach_32 : decode cX6_reach 32 = .ok (.iconst 0, 1) := by decide +kernel
theorem dX6_reach_33 : decode cX6_reach 33 = .ok (.istore 8, 2) := by decide +kernel
theorem dX6_reach_35 : decode cX6_reach 35 = .ok (.iload 8, 2) := by decide +kernel
theorem dX6_reach_37 : decode cX6_reach 37 = .ok (.aload_n 0, 1) := by decide +kernel
theorem dX6_reach_38 : decode cX6_reach 38 = .ok (.getfield 13, 3) := by decide +kernel
theorem dX6_reach_41 : decode cX6_reach 41 = .ok (.iload_n 1, 1) := by decide +kernel
theorem dX6_reach_42 : decode cX6_reach 42 = .ok (.iaload, 1) := by decide +kernel
theorem dX6_reach_43 : decode cX6_reach 43 = .ok (.if_icmp .ge 45, 3) := by decide +kernel
theorem dX6_reach_46 : decode cX6_reach 46 = .ok (.iload 4, 2) := by decide +kernel
theorem dX6_reach_48 : decode cX6_reach 48 = .ok (.iload 7, 2) := by decide +kernel
theorem dX6_reach_50 : decode cX6_reach 50 = .ok (.ishr, 1) := by decide +kernel
theorem dX6_reach_51 : decode cX6_reach 51 = .ok (.iconst 1, 1) := by decide +kernel
theorem dX6_reach_52 : decode cX6_reach 52 = .ok (.iand, 1) := by decide +kernel
theorem dX6_reach_53 : decode cX6_reach 53 = .ok (.iconst 1, 1) := by decide +kernel
theorem dX6_reach_54 : decode cX6_reach 54 = .ok (.if_icmp .ne 34, 3) := by decide +kernel
theorem dX6_reach_57 : decode cX6_reach 57 = .ok (.iload 6, 2) := by decide +kernel
theorem dX6_reach_59 : decode cX6_reach 59 = .ok (.aload_n 0, 1) := by decide +kernel
theorem dX6_reach_60 : decode cX6_reach 60 = .ok (.iload_n 1, 1) := by decide +kernel
theorem dX6_reach_61 : decode cX6_reach 61 = .ok (.iload 7, 2) := by decide +kernel
theorem dX6_reach_63 : decode cX6_reach 63 = .ok (.iload 8, 2) := by decide +kernel
theorem dX6_reach_65 : decode cX6_reach 65 = .ok (.invokevirtual 61, 3) := by decide +kernel
theorem dX6_reach_68 : decode cX6_reach 68 = .ok (.ifCond .eq 10, 3) := by decide +kernel
theorem dX6_reach_71 : decode cX6_reach 71 = .ok (.iconst 1, 1) := by decide +kernel
theorem dX6_reach_72 : decode cX6_reach 72 = .ok (.iload 8, 2) := by decide +kernel
theorem dX6_reach_74 : decode cX6_reach 74 = .ok (.ishl, 1) := by decide +kernel
theorem dX6_reach_75 : decode cX6_reach 75 = .ok (.goto 4, 3) := by decide +kernel
theorem dX6_reach_78 : decode cX6_reach 78 = .ok (.iconst 0, 1) := by decide +kernel
theorem dX6_reach_79 : decode cX6_reach 79 = .ok (.ior, 1) := by decide +kernel
theorem dX6_reach_80 : decode cX6_reach 80 = .ok (.istore 6, 2) := by decide +kernel
theorem dX6_reach_82 : decode cX6_reach 82 = .ok (.iinc 8 1, 3) := by decide +kernel
theorem dX6_reach_85 : decode cX6_reach 85 = .ok (.goto (-50), 3) := by decide +kernel
theorem dX6_reach_88 : decode cX6_reach 88 = .ok (.iinc 7 1, 3) := by decide +kernel
theorem dX6_reach_91 : decode cX6_reach 91 = .ok (.goto (-70), 3) := by decide +kernel
theorem dX6_reach_94 : decode cX6_reach 94 = .ok (.iload 6, 2) := by decide +kernel
theorem dX6_reach_96 : decode cX6_reach 96 = .ok (.istore 4, 2) := by decide +kernel
theorem dX6_reach_98 : decode cX6_reach 98 = .ok (.iinc 5 1, 3) := by decide +kernel
theorem dX6_reach_101 : decode cX6_reach 101 = .ok (.goto (-93), 3) := by decide +kernel
theorem dX6_reach_104 : decode cX6_reach 104 = .ok (.iload 4, 2) := by decide +kernel
theorem dX6_reach_106 : decode cX6_reach 106 = .ok (.ireturn, 1) := by decide +kernel
theorem dX6_way_0 : decode cX6_way 0 = .ok (.aload_n 0, 1) := by decide +kernel
theorem dX6_way_1 : decode cX6_way 1 = .ok (.iload_n 1, 1) := by decide +kernel
theorem dX6_way_2 : decode cX6_way 2 = .ok (.invokevirtual 78, 3) := by decide +kernel
theorem dX6_way_5 : decode cX6_way 5 = .ok (.ifCond .ne 5, 3) := by decide +kernel
theorem dX6_way_8 : decode cX6_way 8 = .ok (.iconst (-1), 1) := by decide +kernel
theorem dX6_way_9 : decode cX6_way 9 = .ok (.ireturn, 1) := by decide +kernel
theorem dX6_way_10 : decode cX6_way 10 = .ok (.iload_n 2, 1) := by decide +kernel
theorem dX6_way_11 : decode cX6_way 11 = .ok (.ifCond .lt 27, 3) := by decide +kernel
theorem dX6_way_14 : decode cX6_way 14 = .ok (.iload_n 2, 1) := by decide +kernel
theorem dX6_way_15 : decode cX6_way 15 = .ok (.aload_n 0, 1) := by decide +kernel
theorem dX6_way_16 : decode cX6_way 16 = .ok (.getfield 13, 3) := by decide +kernel
theorem dX6_way_19 : decode cX6_way 19 = .ok (.iload_n 1, 1) := by decide +kernel
theorem dX6_way_20 : decode cX6_way 20 = .ok (.iaload, 1) := by decide +kernel
theorem dX6_way_21 : decode cX6_way 21 = .ok (.if_icmp .ge 17, 3) := by decide +kernel
theorem dX6_way_24 : decode cX6_way 24 = .ok (.iload_n 3, 1) := by decide +kernel
theorem dX6_way_25 : decode cX6_way 25 = .ok (.ifCond .lt 13, 3) := by decide +kernel
theorem dX6_way_28 : decode cX6_way 28 = .ok (.iload_n 3, 1) := by decide +kernel
theorem dX6_way_29 : decode cX6_way 29 = .ok (.aload_n 0, 1) := by decide +kernel
theorem dX6_way_30 : decode cX6_way 30 = .ok (.getfield 13, 3) := by decide +kernel
theorem dX6_way_33 : decode cX6_way 33 = .ok (.iload_n 1, 1) := by decide +kernel
theorem dX6_way_34 : decode cX6_way 34 = .ok (.iaload, 1) := by decide +kernel
theorem dX6_way_35 : decode cX6_way 35 = .ok (.if_icmp .lt 6, 3) := by decide +kernel
theorem dX6_way_38 : decode cX6_way 38 = .ok (.bipush (-2), 2) := by decide +kernel
theorem dX6_way_40 : decode cX6_way 40 = .ok (.ireturn, 1) := by decide +kernel
theorem dX6_way_41 : decode cX6_way 41 = .ok (.iconst 0, 1) := by decide +kernel
theorem dX6_way_42 : decode cX6_way 42 = .ok (.istore 4, 2) := by decide +kernel
theorem dX6_way_44 : decode cX6_way 44 = .ok (.iload 4, 2) := by decide +kernel
theorem dX6_way_46 : decode cX6_way 46 = .ok (.bipush 16, 2) := by decide +kernel
theorem dX6_way_48 : decode cX6_way 48 = .ok (.if_icmp .ge 36, 3) := by decide +kernel
theorem dX6_way_51 : decode cX6_way 51 = .ok (.aload_n 0, 1) := by decide +kernel
theorem dX6_way_52 : decode cX6_way 52 = .ok (.iload_n 1, 1) := by decide +kernel
theorem dX6_way_53 : decode cX6_way 53 = .ok (.invokevirtual 134, 3) := by decide +kernel
theorem dX6_way_56 : decode cX6_way 56 = .ok (.ifCond .eq 28, 3) := by decide +kernel
theorem dX6_way_59 : decode cX6_way 59 = .ok (.aload_n 0, 1) := by decide +kernel
theorem dX6_way_60 : decode cX6_way 60 = .ok (.iload_n 1, 1) := by decide +kernel
theorem dX6_way_61 : decode cX6_way 61 = .ok (.iload_n 2, 1) := by decide +kernel
theorem dX6_way_62 : decode cX6_way 62 = .ok (.iload 4, 2) := by decide +kernel
theorem dX6_way_64 : decode cX6_way 64 = .ok (.invokevirtual 137, 3) := by decide +kernel
theorem dX6_way_67 : decode cX6_way 67 = .ok (.iload_n 3, 1) := by decide +kernel
theorem dX6_way_68 : decode cX6_way 68 = .ok (.ishr, 1) := by decide +kernel
theorem dX6_way_69 : decode cX6_way 69 = .ok (.iconst 1, 1) := by decide +kernel
theorem dX6_way_70 : decode cX6_way 70 = .ok (.iand, 1) := by decide +kernel
theorem dX6_way_71 : decode cX6_way 71 = .ok (.iconst 1, 1) := by decide +kernel
theorem dX6_way_72 : decode cX6_way 72 = .ok (.if_icmp .ne 6, 3) := by decide +kernel
theorem dX6_way_75 : decode cX6_way 75 = .ok (.iload 4, 2) := by decide +kernel
theorem dX6_way_77 : decode cX6_way 77 = .ok (.ireturn, 1) := by decide +kernel
theorem dX6_way_78 : decode cX6_way 78 = .ok (.iinc 4 1, 3) := by decide +kernel
theorem dX6_way_81 : decode cX6_way 81 = .ok (.goto (-37), 3) := by decide +kernel
theorem dX6_way_84 : decode cX6_way 84 = .ok (.bipush (-3), 2) := by decide +kernel
theorem dX6_way_86 : decode cX6_way 86 = .ok (.ireturn, 1) := by decide +kernel
theorem dX6_isRing_0 : decode cX6_isRing 0 = .ok (.aload_n 0, 1) := by decide +kernel
theorem dX6_isRing_1 : decode cX6_isRing 1 = .ok (.iload_n 1, 1) := by decide +kernel
theorem dX6_isRing_2 : decode cX6_isRing 2 = .ok (.iload_n 2, 1) := by decide +kernel
theorem dX6_isRing_3 : decode cX6_isRing 3 = .ok (.bipush 16, 2) := by decide +kernel
theorem dX6_isRing_5 : decode cX6_isRing 5 = .ok (.invokevirtual 137, 3) := by decide +kernel
theorem dX6_isRing_8 : decode cX6_isRing 8 = .ok (.iload_n 3, 1) := by decide +kernel
theorem dX6_isRing_9 : decode cX6_isRing 9 = .ok (.ishr, 1) := by decide +kernel
theorem dX6_isRing_10 : decode cX6_isRing 10 = .ok (.iconst 1, 1) := by decide +kernel
theorem dX6_isRing_11 : decode cX6_isRing 11 = .ok (.iand, 1) := by decide +kernel
theorem dX6_isRing_12 : decode cX6_isRing 12 = .ok (.iconst 1, 1) := by decide +kernel
theorem dX6_isRing_13 : decode cX6_isRing 13 = .ok (.if_icmp .ne 23, 3) := by decide +kernel
theorem dX6_isRing_16 : decode cX6_isRing 16 = .ok (.aload_n 0, 1) := by decide +kernel
theorem dX6_isRing_17 : decode cX6_isRing 17 = .ok (.iload_n 1, 1) := by decide +kernel
theorem dX6_isRing_18 : decode cX6_isRing 18 = .ok (.iload_n 3, 1) := by decide +kernel
theorem dX6_isRing_19 : decode cX6_isRing 19 = .ok (.bipush 16, 2) := by decide +kernel
theorem dX6_isRing_21 : decode cX6_isRing 21 = .ok (.invokevirtual 137, 3) := by decide +kernel
theorem dX6_isRing_24 : decode cX6_isRing 24 = .ok (.iload_n 2, 1) := by decide +kernel
theorem dX6_isRing_25 : decode cX6_isRing 25 = .ok (.ishr, 1) := by decide +kernel
theorem dX6_isRing_26 : decode cX6_isRing 26 = .ok (.iconst 1, 1) := by decide +kernel
theorem dX6_isRing_27 : decode cX6_isRing 27 = .ok (.iand, 1) := by decide +kernel
theorem dX6_isRing_28 : decode cX6_isRing 28 = .ok (.iconst 1, 1) := by decide +kernel
theorem dX6_isRing_29 : decode cX6_isRing 29 = .ok (.if_icmp .ne 7, 3) := by decide +kernel
theorem dX6_isRing_32 : decode cX6_isRing 32 = .ok (.iconst 1, 1) := by decide +kernel
theorem dX6_isRing_33 : decode cX6_isRing 33 = .ok (.goto 4, 3) := by decide +kernel
theorem dX6_isRing_36 : decode cX6_isRing 36 = .ok (.iconst 0, 1) := by decide +kernel
theorem dX6_isRing_37 : decode cX6_isRing 37 = .ok (.ireturn, 1) := by decide +kernel
theorem dX6_leader_0 : decode cX6_leader 0 = .ok (.iconst 0, 1) := by decide +kernel
theorem dX6_leader_1 : decode cX6_leader 1 = .ok (.istore_n 3, 1) := by decide +kernel
theorem dX6_leader_2 : decode cX6_leader 2 = .ok (.aload_n 0, 1) := by decide +kernel
theorem dX6_leader_3 : decode cX6_leader 3 = .ok (.iload_n 1, 1) := by decide +kernel
theorem dX6_leader_4 : decode cX6_leader 4 = .ok (.iload_n 2, 1) := by decide +kernel
theorem dX6_leader_5 : decode cX6_leader 5 = .ok (.iload_n 3, 1) := by decide +kernel
theorem dX6_leader_6 : decode cX6_leader 6 = .ok (.invokevirtual 140, 3) := by decide +kernel
theorem dX6_leader_9 : decode cX6_leader 9 = .ok (.ifCond .ne 9, 3) := by decide +kernel
theorem dX6_leader_12 : decode cX6_leader 12 = .ok (.iinc 3 1, 3) := by decide +kernel
theorem dX6_leader_15 : decode cX6_leader 15 = .ok (.goto (-13), 3) := by decide +kernel
theorem dX6_leader_18 : decode cX6_leader 18 = .ok (.iload_n 3, 1) := by decide +kernel
theorem dX6_leader_19 : decode cX6_leader 19 = .ok (.ireturn, 1) := by decide +kernel
theorem dX6_ring_0 : decode cX6_ring 0 = .ok (.aload_n 0, 1) := by decide +kernel
theorem dX6_ring_1 : decode cX6_ring 1 = .ok (.iload_n 1, 1) := by decide +kernel
theorem dX6_ring_2 : decode cX6_ring 2 = .ok (.invokevirtual 78, 3) := by decide +kernel
theorem dX6_ring_5 : decode cX6_ring 5 = .ok (.ifCond .ne 5, 3) := by decide +kernel
theorem dX6_ring_8 : decode cX6_ring 8 = .ok (.iconst (-1), 1) := by decide +kernel
theorem dX6_ring_9 : decode cX6_ring 9 = .ok (.ireturn, 1) := by decide +kernel
theorem dX6_ring_10 : decode cX6_ring 10 = .ok (.iload_n 2, 1) := by decide +kernel
theorem dX6_ring_11 : decode cX6_ring 11 = .ok (.iconst (-1), 1) := by decide +kernel
theorem dX6_ring_12 : decode cX6_ring 12 = .ok (.if_icmp .lt 13, 3) := by decide +kernel
theorem dX6_ring_15 : decode cX6_ring 15 = .ok (.iload_n 2, 1) := by decide +kernel
theorem dX6_ring_16 : decode cX6_ring 16 = .ok (.aload_n 0, 1) := by decide +kernel
theorem dX6_ring_17 : decode cX6_ring 17 = .ok (.getfield 13, 3) := by decide +kernel
theorem dX6_ring_20 : decode cX6_ring 20 = .ok (.iload_n 1, 1) := by decide +kernel
theorem dX6_ring_21 : decode cX6_ring 21 = .ok (.iaload, 1) := by decide +kernel
theorem dX6_ring_22 : decode cX6_ring 22 = .ok (.if_icmp .lt 6, 3) := by decide +kernel
theorem dX6_ring_25 : decode cX6_ring 25 = .ok (.bipush (-2), 2) := by decide +kernel
theorem dX6_ring_27 : decode cX6_ring 27 = .ok (.ireturn, 1) := by decide +kernel
theorem dX6_ring_28 : decode cX6_ring 28 = .ok (.aload_n 0, 1) := by decide +kernel
theorem dX6_ring_29 : decode cX6_ring 29 = .ok (.iload_n 1, 1) := by decide +kernel
theorem dX6_ring_30 : decode cX6_ring 30 = .ok (.invokevirtual 134, 3) := by decide +kernel
theorem dX6_ring_33 : decode cX6_ring 33 = .ok (.ifCond .ne 6, 3) := by decide +kernel
theorem dX6_ring_36 : decode cX6_ring 36 = .ok (.bipush (-3), 2) := by decide +kernel
theorem dX6_ring_38 : decode cX6_ring 38 = .ok (.ireturn, 1) := by decide +kernel
theorem dX6_ring_39 : decode cX6_ring 39 = .ok (.iload_n 2, 1) := by decide +kernel
theorem dX6_ring_40 : decode cX6_ring 40 = .ok (.ifCond .ge 12, 3) := by decide +kernel
theorem dX6_ring_43 : decode cX6_ring 43 = .ok (.aload_n 0, 1) := by decide +kernel
theorem dX6_ring_44 : decode cX6_ring 44 = .ok (.getfield 13, 3) := by decide +kernel
theorem dX6_ring_47 : decode cX6_ring 47 = .ok (.iload_n 1, 1) := by decide +kernel
theorem dX6_ring_48 : decode cX6_ring 48 = .ok (.iaload, 1) := by decide +kernel
theorem dX6_ring_49 : decode cX6_ring 49 = .ok (.goto 9, 3) := by decide +kernel
theorem dX6_ring_52 : decode cX6_ring 52 = .ok (.aload_n 0, 1) := by decide +kernel
theorem dX6_ring_53 : decode cX6_ring 53 = .ok (.iload_n 1, 1) := by decide +kernel
theorem dX6_ring_54 : decode cX6_ring 54 = .ok (.iload_n 2, 1) := by decide +kernel
theorem dX6_ring_55 : decode cX6_ring 55 = .ok (.invokevirtual 143, 3) := by decide +kernel
theorem dX6_ring_58 : decode cX6_ring 58 = .ok (.istore_n 3, 1) := by decide +kernel
theorem dX6_ring_59 : decode cX6_ring 59 = .ok (.iconst 0, 1) := by decide +kernel
theorem dX6_ring_60 : decode cX6_ring 60 = .ok (.istore 4, 2) := by decide +kernel
theorem dX6_ring_62 : decode cX6_ring 62 = .ok (.iconst 0, 1) := by decide +kernel
theorem dX6_ring_63 : decode cX6_ring 63 = .ok (.istore 5, 2) := by decide +kernel
theorem dX6_ring_65 : decode cX6_ring 65 = .ok (.iload 5, 2) := by decide +kernel
theorem dX6_ring_67 : decode cX6_ring 67 = .ok (.iload_n 3, 1) := by decide +kernel
theorem dX6_ring_68 : decode cX6_ring 68 = .ok (.if_icmp .ge 31, 3) := by decide +kernel
theorem dX6_ring_71 : decode cX6_ring 71 = .ok (.iload 4, 2) := by decide +kernel
theorem dX6_ring_73 : decode cX6_ring 73 = .ok (.aload_n 0, 1) := by decide +kernel
theorem dX6_ring_74 : decode cX6_ring 74 = .ok (.iload_n 1, 1) := by decide +kernel
theorem dX6_ring_75 : decode cX6_ring 75 = .ok (.iload 5, 2) := by decide +kernel
theorem dX6_ring_77 : decode cX6_ring 77 = .ok (.invokevirtual 143, 3) := by decide +kernel
theorem dX6_ring_80 : decode cX6_ring 80 = .ok (.iload 5, 2) := by decide +kernel
theorem dX6_ring_82 : decode cX6_ring 82 = .ok (.if_icmp .ne 7, 3) := by decide +kernel
theorem dX6_ring_85 : decode cX6_ring 85 = .ok (.iconst 1, 1) := by decide +kernel
theorem dX6_ring_86 : decode cX6_ring 86 = .ok (.goto 4, 3) := by decide +kernel
theorem dX6_ring_89 : decode cX6_ring 89 = .ok (.iconst 0, 1) := by decide +kernel
theorem dX6_ring_90 : decode cX6_ring 90 = .ok (.iadd, 1) := by decide +kernel
theorem dX6_ring_91 : decode cX6_ring 91 = .ok (.istore 4, 2) := by decide +kernel
theorem dX6_ring_93 : decode cX6_ring 93 = .ok (.iinc 5 1, 3) := by decide +kernel
theorem dX6_ring_96 : decode cX6_ring 96 = .ok (.goto (-31), 3) := by decide +kernel
theorem dX6_ring_99 : decode cX6_ring 99 = .ok (.iload 4, 2) := by decide +kernel
theorem dX6_ring_101 : decode cX6_ring 101 = .ok (.ireturn, 1) := by decide +kernel
theorem dX6_sort_0 : decode cX6_sort 0 = .ok (.aload_n 0, 1) := by decide +kernel
theorem dX6_sort_1 : decode cX6_sort 1 = .ok (.iload_n 1, 1) := by decide +kernel
theorem dX6_sort_2 : decode cX6_sort 2 = .ok (.invokevirtual 78, 3) := by decide +kernel
theorem dX6_sort_5 : decode cX6_sort 5 = .ok (.ifCond .ne 5, 3) := by decide +kernel
theorem dX6_sort_8 : decode cX6_sort 8 = .ok (.iconst (-1), 1) := by decide +kernel
theorem dX6_sort_9 : decode cX6_sort 9 = .ok (.ireturn, 1) := by decide +kernel
theorem dX6_sort_10 : decode cX6_sort 10 = .ok (.aload_n 0, 1) := by decide +kernel
theorem dX6_sort_11 : decode cX6_sort 11 = .ok (.iload_n 1, 1) := by decide +kernel
theorem dX6_sort_12 : decode cX6_sort 12 = .ok (.invokevirtual 134, 3) := by decide +kernel
theorem dX6_sort_15 : decode cX6_sort 15 = .ok (.ifCond .ne 6, 3) := by decide +kernel
theorem dX6_sort_18 : decode cX6_sort 18 = .ok (.bipush (-3), 2) := by decide +kernel
theorem dX6_sort_20 : decode cX6_sort 20 = .ok (.ireturn, 1) := by decide +kernel
theorem dX6_sort_21 : decode cX6_sort 21 = .ok (.iconst 0, 1) := by decide +kernel
theorem dX6_sort_22 : decode cX6_sort 22 = .ok (.istore_n 2, 1) := by decide +kernel
theorem dX6_sort_23 : decode cX6_sort 23 = .ok (.iload_n 2, 1) := by decide +kernel
theorem dX6_sort_24 : decode cX6_sort 24 = .ok (.aload_n 0, 1) := by decide +kernel
theorem dX6_sort_25 : decode cX6_sort 25 = .ok (.getfield 13, 3) := by decide +kernel
theorem dX6_sort_28 : decode cX6_sort 28 = .ok (.iload_n 1, 1) := by decide +kernel
theorem dX6_sort_29 : decode cX6_sort 29 = .ok (.iaload, 1) := by decide +kernel
theorem dX6_sort_30 : decode cX6_sort 30 = .ok (.if_icmp .ge 22, 3) := by decide +kernel
theorem dX6_sort_33 : decode cX6_sort 33 = .ok (.aload_n 0, 1) := by decide +kernel
theorem dX6_sort_34 : decode cX6_sort 34 = .ok (.iload_n 1, 1) := by decide +kernel
theorem dX6_sort_35 : decode cX6_sort 35 = .ok (.iload_n 2, 1) := by decide +kernel
theorem dX6_sort_36 : decode cX6_sort 36 = .ok (.invokevirtual 143, 3) := by decide +kernel
theorem dX6_sort_39 : decode cX6_sort 39 = .ok (.iload_n 2, 1) := by decide +kernel
theorem dX6_sort_40 : decode cX6_sort 40 = .ok (.if_icmp .eq 6, 3) := by decide +kernel
theorem dX6_sort_43 : decode cX6_sort 43 = .ok (.bipush (-3), 2) := by decide +kernel
theorem dX6_sort_45 : decode cX6_sort 45 = .ok (.ireturn, 1) := by decide +kernel
theorem dX6_sort_46 : decode cX6_sort 46 = .ok (.iinc 2 1, 3) := by decide +kernel
theorem dX6_sort_49 : decode cX6_sort 49 = .ok (.goto (-26), 3) := by decide +kernel
theorem dX6_sort_52 : decode cX6_sort 52 = .ok (.iconst 0, 1) := by decide +kernel
theorem dX6_sort_53 : decode cX6_sort 53 = .ok (.istore_n 2, 1) := by decide +kernel
theorem dX6_sort_54 : decode cX6_sort 54 = .ok (.iconst 0, 1) := by decide +kernel
theorem dX6_sort_55 : decode cX6_sort 55 = .ok (.istore_n 3, 1) := by decide +kernel
theorem dX6_sort_56 : decode cX6_sort 56 = .ok (.iload_n 3, 1) := by decide +kernel
theorem dX6_sort_57 : decode cX6_sort 57 = .ok (.aload_n 0, 1) := by decide +kernel
theorem dX6_sort_58 : decode cX6_sort 58 = .ok (.getfield 13, 3) := by decide +kernel
theorem dX6_sort_61 : decode cX6_sort 61 = .ok (.iload_n 1, 1) := by decide +kernel
theorem dX6_sort_62 : decode cX6_sort 62 = .ok (.iaload, 1) := by decide +kernel
theorem dX6_sort_63 : decode cX6_sort 63 = .ok (.if_icmp .ge 54, 3) := by decide +kernel
theorem dX6_sort_66 : decode cX6_sort 66 = .ok (.iconst 0, 1) := by decide +kernel
theorem dX6_sort_67 : decode cX6_sort 67 = .ok (.istore 4, 2) := by decide +kernel
theorem dX6_sort_69 : decode cX6_sort 69 = .ok (.iload_n 2, 1) := by decide +kernel
theorem dX6_sort_70 : decode cX6_sort 70 = .ok (.iload 4, 2) := by decide +kernel
theorem dX6_sort_72 : decode cX6_sort 72 = .ok (.ishr, 1) := by decide +kernel
theorem dX6_sort_73 : decode cX6_sort 73 = .ok (.iconst 1, 1) := by decide +kernel
theorem dX6_sort_74 : decode cX6_sort 74 = .ok (.iand, 1) := by decide +kernel
theorem dX6_sort_75 : decode cX6_sort 75 = .ok (.iconst 1, 1) := by decide +kernel
theorem dX6_sort_76 : decode cX6_sort 76 = .ok (.if_icmp .eq 14, 3) := by decide +kernel
theorem dX6_sort_79 : decode cX6_sort 79 = .ok (.aload_n 0, 1) := by decide +kernel
theorem dX6_sort_80 : decode cX6_sort 80 = .ok (.iload_n 1, 1) := by decide +kernel
theorem dX6_sort_81 : decode cX6_sort 81 = .ok (.iload 4, 2) := by decide +kernel
theorem dX6_sort_83 : decode cX6_sort 83 = .ok (.iload_n 2, 1) := by decide +kernel
theorem dX6_sort_84 : decode cX6_sort 84 = .ok (.invokevirtual 147, 3) := by decide +kernel
theorem dX6_sort_87 : decode cX6_sort 87 = .ok (.ifCond .eq 9, 3) := by decide +kernel
theorem dX6_sort_90 : decode cX6_sort 90 = .ok (.iinc 4 1, 3) := by decide +kernel
theorem dX6_sort_93 : decode cX6_sort 93 = .ok (.goto (-24), 3) := by decide +kernel
theorem dX6_sort_96 : decode cX6_sort 96 = .ok (.iload_n 2, 1) := by decide +kernel
theorem dX6_sort_97 : decode cX6_sort 97 = .ok (.iconst 1, 1) := by decide +kernel
theorem dX6_sort_98 : decode cX6_sort 98 = .ok (.iload 4, 2) := by decide +kernel
theorem dX6_sort_100 : decode cX6_sort 100 = .ok (.ishl, 1) := by decide +kernel
theorem dX6_sort_101 : decode cX6_sort 101 = .ok (.ior, 1) := by decide +kernel
theorem dX6_sort_102 : decode cX6_sort 102 = .ok (.istore_n 2, 1) := by decide +kernel
theorem dX6_sort_103 : decode cX6_sort 103 = .ok (.aload_n 0, 1) := by decide +kernel
theorem dX6_sort_104 : decode cX6_sort 104 = .ok (.getfield 33, 3) := by decide +kernel
theorem dX6_sort_107 : decode cX6_sort 107 = .ok (.iload_n 3, 1) := by decide +kernel
theorem dX6_sort_108 : decode cX6_sort 108 = .ok (.iload 4, 2) := by decide +kernel
theorem dX6_sort_110 : decode cX6_sort 110 = .ok (.iastore, 1) := by decide +kernel
theorem dX6_sort_111 : decode cX6_sort 111 = .ok (.iinc 3 1, 3) := by decide +kernel
theorem dX6_sort_114 : decode cX6_sort 114 = .ok (.goto (-58), 3) := by decide +kernel
theorem dX6_sort_117 : decode cX6_sort 117 = .ok (.aload_n 0, 1) := by decide +kernel
theorem dX6_sort_118 : decode cX6_sort 118 = .ok (.aload_n 0, 1) := by decide +kernel
theorem dX6_sort_119 : decode cX6_sort 119 = .ok (.getfield 13, 3) := by decide +kernel
theorem dX6_sort_122 : decode cX6_sort 122 = .ok (.iload_n 1, 1) := by decide +kernel
theorem dX6_sort_123 : decode cX6_sort 123 = .ok (.iaload, 1) := by decide +kernel
theorem dX6_sort_124 : decode cX6_sort 124 = .ok (.putfield 75, 3) := by decide +kernel
theorem dX6_sort_127 : decode cX6_sort 127 = .ok (.aload_n 0, 1) := by decide +kernel
theorem dX6_sort_128 : decode cX6_sort 128 = .ok (.getfield 75, 3) := by decide +kernel
theorem dX6_sort_131 : decode cX6_sort 131 = .ok (.ireturn, 1) := by decide +kernel
theorem dX6_isLed_0 : decode cX6_isLed 0 = .ok (.iconst 0, 1) := by decide +kernel
theorem dX6_isLed_1 : decode cX6_isLed 1 = .ok (.istore 4, 2) := by decide +kernel
theorem dX6_isLed_3 : decode cX6_isLed 3 = .ok (.iconst 0, 1) := by decide +kernel
theorem dX6_isLed_4 : decode cX6_isLed 4 = .ok (.istore 5, 2) := by decide +kernel
theorem dX6_isLed_6 : decode cX6_isLed 6 = .ok (.iload 5, 2) := by decide +kernel
theorem dX6_isLed_8 : decode cX6_isLed 8 = .ok (.aload_n 0, 1) := by decide +kernel
theorem dX6_isLed_9 : decode cX6_isLed 9 = .ok (.getfield 13, 3) := by decide +kernel
theorem dX6_isLed_12 : decode cX6_isLed 12 = .ok (.iload_n 1, 1) := by decide +kernel
theorem dX6_isLed_13 : decode cX6_isLed 13 = .ok (.iaload, 1) := by decide +kernel
theorem dX6_isLed_14 : decode cX6_isLed 14 = .ok (.if_icmp .ge 47, 3) := by decide +kernel
theorem dX6_isLed_17 : decode cX6_isLed 17 = .ok (.iload 4, 2) := by decide +kernel
theorem dX6_isLed_19 : decode cX6_isLed 19 = .ok (.ifCond .ne 29, 3) := by decide +kernel
theorem dX6_isLed_22 : decode cX6_isLed 22 = .ok (.iload 5, 2) := by decide +kernel
theorem dX6_isLed_24 : decode cX6_isLed 24 = .ok (.iload_n 2, 1) := by decide +kernel
theorem dX6_isLed_25 : decode cX6_isLed 25 = .ok (.if_icmp .eq 27, 3) := by decide +kernel
theorem dX6_isLed_28 : decode cX6_isLed 28 = .ok (.iload_n 3, 1) := by decide +kernel
theorem dX6_isLed_29 : decode cX6_isLed 29 = .ok (.iload 5, 2) := by decide +kernel
theorem dX6_isLed_31 : decode cX6_isLed 31 = .ok (.ishr, 1) := by decide +kernel
theorem dX6_isLed_32 : decode cX6_isLed 32 = .ok (.iconst 1, 1) := by decide +kernel
theorem dX6_isLed_33 : decode cX6_isLed 33 = .ok (.iand, 1) := by decide +kernel
theorem dX6_isLed_34 : decode cX6_isLed 34 = .ok (.ifCond .ne 18, 3) := by decide +kernel
theorem dX6_isLed_37 : decode cX6_isLed 37 = .ok (.aload_n 0, 1) := by decide +kernel
theorem dX6_isLed_38 : decode cX6_isLed 38 = .ok (.iload_n 1, 1) := by decide +kernel
theorem dX6_isLed_39 : decode cX6_isLed 39 = .ok (.iload 5, 2) := by decide +kernel
theorem dX6_isLed_41 : decode cX6_isLed 41 = .ok (.iload_n 2, 1) := by decide +kernel
theorem dX6_isLed_42 : decode cX6_isLed 42 = .ok (.invokevirtual 61, 3) := by decide +kernel
theorem dX6_isLed_45 : decode cX6_isLed 45 = .ok (.ifCond .eq 7, 3) := by decide +kernel
theorem dX6_isLed_48 : decode cX6_isLed 48 = .ok (.iconst 1, 1) := by decide +kernel
theorem dX6_isLed_49 : decode cX6_isLed 49 = .ok (.goto 4, 3) := by decide +kernel
theorem dX6_isLed_52 : decode cX6_isLed 52 = .ok (.iconst 0, 1) := by decide +kernel
theorem dX6_isLed_53 : decode cX6_isLed 53 = .ok (.istore 4, 2) := by decide +kernel
theorem dX6_isLed_55 : decode cX6_isLed 55 = .ok (.iinc 5 1, 3) := by decide +kernel
theorem dX6_isLed_58 : decode cX6_isLed 58 = .ok (.goto (-52), 3) := by decide +kernel
theorem dX6_isLed_61 : decode cX6_isLed 61 = .ok (.iload 4, 2) := by decide +kernel
theorem dX6_isLed_63 : decode cX6_isLed 63 = .ok (.ireturn, 1) := by decide +kernel
theorem dX6_areJoined_0 : decode cX6_areJoined 0 = .ok (.iload_n 2, 1) := by decide +kernel
theorem dX6_areJoined_1 : decode cX6_areJoined 1 = .ok (.iload_n 3, 1) := by decide +kernel
theorem dX6_areJoined_2 : decode cX6_areJoined 2 = .ok (.if_icmp .eq 27, 3) := by decide +kernel
theorem dX6_areJoined_5 : decode cX6_areJoined 5 = .ok (.aload_n 0, 1) := by decide +kernel
