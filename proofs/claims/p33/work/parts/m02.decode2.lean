theorem dL_cell_0 : decode cL_cell 0 = .ok (.iload_n 1, 1) := by decide +kernel
theorem dL_cell_1 : decode cL_cell 1 = .ok (.aload_n 0, 1) := by decide +kernel
theorem dL_cell_2 : decode cL_cell 2 = .ok (.arraylength, 1) := by decide +kernel
theorem dL_cell_3 : decode cL_cell 3 = .ok (.if_icmp .ge 9, 3) := by decide +kernel
theorem dL_cell_6 : decode cL_cell 6 = .ok (.aload_n 0, 1) := by decide +kernel
theorem dL_cell_7 : decode cL_cell 7 = .ok (.iload_n 1, 1) := by decide +kernel
theorem dL_cell_8 : decode cL_cell 8 = .ok (.iaload, 1) := by decide +kernel
theorem dL_cell_9 : decode cL_cell 9 = .ok (.goto 9, 3) := by decide +kernel
theorem dL_cell_12 : decode cL_cell 12 = .ok (.ldc 7, 2) := by decide +kernel
theorem dL_cell_14 : decode cL_cell 14 = .ok (.iload_n 1, 1) := by decide +kernel
theorem dL_cell_15 : decode cL_cell 15 = .ok (.iconst 3, 1) := by decide +kernel
theorem dL_cell_16 : decode cL_cell 16 = .ok (.iadd, 1) := by decide +kernel
theorem dL_cell_17 : decode cL_cell 17 = .ok (.imul, 1) := by decide +kernel
theorem dL_cell_18 : decode cL_cell 18 = .ok (.ireturn, 1) := by decide +kernel
theorem dL_up_0 : decode cL_up 0 = .ok (.iload_n 0, 1) := by decide +kernel
theorem dL_up_1 : decode cL_up 1 = .ok (.ldc 8, 2) := by decide +kernel
theorem dL_up_3 : decode cL_up 3 = .ok (.iand, 1) := by decide +kernel
theorem dL_up_4 : decode cL_up 4 = .ok (.iload_n 1, 1) := by decide +kernel
theorem dL_up_5 : decode cL_up 5 = .ok (.irem, 1) := by decide +kernel
theorem dL_up_6 : decode cL_up 6 = .ok (.ireturn, 1) := by decide +kernel
theorem dL_view_0 : decode cL_view 0 = .ok (.ldc2_w 9, 3) := by decide +kernel
theorem dL_view_3 : decode cL_view 3 = .ok (.lstore_n 1, 1) := by decide +kernel
theorem dL_view_4 : decode cL_view 4 = .ok (.iconst 0, 1) := by decide +kernel
theorem dL_view_5 : decode cL_view 5 = .ok (.istore_n 3, 1) := by decide +kernel
theorem dL_view_6 : decode cL_view 6 = .ok (.iload_n 3, 1) := by decide +kernel
theorem dL_view_7 : decode cL_view 7 = .ok (.bipush 15, 2) := by decide +kernel
theorem dL_view_9 : decode cL_view 9 = .ok (.if_icmp .ge 38, 3) := by decide +kernel
theorem dL_view_12 : decode cL_view 12 = .ok (.iload_n 3, 1) := by decide +kernel
theorem dL_view_13 : decode cL_view 13 = .ok (.bipush 9, 2) := by decide +kernel
theorem dL_view_15 : decode cL_view 15 = .ok (.if_icmp .eq 9, 3) := by decide +kernel
theorem dL_view_18 : decode cL_view 18 = .ok (.iload_n 3, 1) := by decide +kernel
theorem dL_view_19 : decode cL_view 19 = .ok (.bipush 10, 2) := by decide +kernel
theorem dL_view_21 : decode cL_view 21 = .ok (.if_icmp .ne 7, 3) := by decide +kernel
theorem dL_view_24 : decode cL_view 24 = .ok (.lload_n 1, 1) := by decide +kernel
theorem dL_view_25 : decode cL_view 25 = .ok (.goto 15, 3) := by decide +kernel
theorem dL_view_28 : decode cL_view 28 = .ok (.ldc2_w 11, 3) := by decide +kernel
theorem dL_view_31 : decode cL_view 31 = .ok (.lload_n 1, 1) := by decide +kernel
theorem dL_view_32 : decode cL_view 32 = .ok (.lmul, 1) := by decide +kernel
theorem dL_view_33 : decode cL_view 33 = .ok (.aload_n 0, 1) := by decide +kernel
theorem dL_view_34 : decode cL_view 34 = .ok (.iload_n 3, 1) := by decide +kernel
theorem dL_view_35 : decode cL_view 35 = .ok (.invokevirtual 13, 3) := by decide +kernel
theorem dL_view_38 : decode cL_view 38 = .ok (.i2l, 1) := by decide +kernel
theorem dL_view_39 : decode cL_view 39 = .ok (.ladd, 1) := by decide +kernel
theorem dL_view_40 : decode cL_view 40 = .ok (.lstore_n 1, 1) := by decide +kernel
theorem dL_view_41 : decode cL_view 41 = .ok (.iinc 3 1, 3) := by decide +kernel
theorem dL_view_44 : decode cL_view 44 = .ok (.goto (-38), 3) := by decide +kernel
theorem dL_view_47 : decode cL_view 47 = .ok (.iconst 0, 1) := by decide +kernel
theorem dL_view_48 : decode cL_view 48 = .ok (.istore_n 3, 1) := by decide +kernel
theorem dL_view_49 : decode cL_view 49 = .ok (.iload_n 3, 1) := by decide +kernel
theorem dL_view_50 : decode cL_view 50 = .ok (.aload_n 0, 1) := by decide +kernel
theorem dL_view_51 : decode cL_view 51 = .ok (.iconst 1, 1) := by decide +kernel
theorem dL_view_52 : decode cL_view 52 = .ok (.invokevirtual 13, 3) := by decide +kernel
theorem dL_view_55 : decode cL_view 55 = .ok (.if_icmp .ge 51, 3) := by decide +kernel
theorem dL_view_58 : decode cL_view 58 = .ok (.iconst 0, 1) := by decide +kernel
theorem dL_view_59 : decode cL_view 59 = .ok (.istore 4, 2) := by decide +kernel
theorem dL_view_61 : decode cL_view 61 = .ok (.iload 4, 2) := by decide +kernel
theorem dL_view_63 : decode cL_view 63 = .ok (.bipush 9, 2) := by decide +kernel
theorem dL_view_65 : decode cL_view 65 = .ok (.if_icmp .ge 23, 3) := by decide +kernel
theorem dL_view_68 : decode cL_view 68 = .ok (.ldc2_w 11, 3) := by decide +kernel
theorem dL_view_71 : decode cL_view 71 = .ok (.lload_n 1, 1) := by decide +kernel
theorem dL_view_72 : decode cL_view 72 = .ok (.lmul, 1) := by decide +kernel
theorem dL_view_73 : decode cL_view 73 = .ok (.aload_n 0, 1) := by decide +kernel
theorem dL_view_74 : decode cL_view 74 = .ok (.iload_n 3, 1) := by decide +kernel
theorem dL_view_75 : decode cL_view 75 = .ok (.iload 4, 2) := by decide +kernel
theorem dL_view_77 : decode cL_view 77 = .ok (.invokevirtual 19, 3) := by decide +kernel
theorem dL_view_80 : decode cL_view 80 = .ok (.ladd, 1) := by decide +kernel
theorem dL_view_81 : decode cL_view 81 = .ok (.lstore_n 1, 1) := by decide +kernel
theorem dL_view_82 : decode cL_view 82 = .ok (.iinc 4 1, 3) := by decide +kernel
theorem dL_view_85 : decode cL_view 85 = .ok (.goto (-24), 3) := by decide +kernel
theorem dL_view_88 : decode cL_view 88 = .ok (.ldc2_w 11, 3) := by decide +kernel
theorem dL_view_91 : decode cL_view 91 = .ok (.lload_n 1, 1) := by decide +kernel
theorem dL_view_92 : decode cL_view 92 = .ok (.lmul, 1) := by decide +kernel
theorem dL_view_93 : decode cL_view 93 = .ok (.aload_n 0, 1) := by decide +kernel
theorem dL_view_94 : decode cL_view 94 = .ok (.iload_n 3, 1) := by decide +kernel
theorem dL_view_95 : decode cL_view 95 = .ok (.invokevirtual 23, 3) := by decide +kernel
theorem dL_view_98 : decode cL_view 98 = .ok (.ladd, 1) := by decide +kernel
theorem dL_view_99 : decode cL_view 99 = .ok (.lstore_n 1, 1) := by decide +kernel
theorem dL_view_100 : decode cL_view 100 = .ok (.iinc 3 1, 3) := by decide +kernel
theorem dL_view_103 : decode cL_view 103 = .ok (.goto (-54), 3) := by decide +kernel
theorem dL_view_106 : decode cL_view 106 = .ok (.iconst 0, 1) := by decide +kernel
theorem dL_view_107 : decode cL_view 107 = .ok (.istore_n 3, 1) := by decide +kernel
theorem dL_view_108 : decode cL_view 108 = .ok (.iload_n 3, 1) := by decide +kernel
theorem dL_view_109 : decode cL_view 109 = .ok (.aload_n 0, 1) := by decide +kernel
theorem dL_view_110 : decode cL_view 110 = .ok (.iconst 2, 1) := by decide +kernel
theorem dL_view_111 : decode cL_view 111 = .ok (.invokevirtual 13, 3) := by decide +kernel
theorem dL_view_114 : decode cL_view 114 = .ok (.if_icmp .ge 54, 3) := by decide +kernel
theorem dL_view_117 : decode cL_view 117 = .ok (.iconst 0, 1) := by decide +kernel
theorem dL_view_118 : decode cL_view 118 = .ok (.istore 4, 2) := by decide +kernel
theorem dL_view_120 : decode cL_view 120 = .ok (.iload 4, 2) := by decide +kernel
theorem dL_view_122 : decode cL_view 122 = .ok (.bipush 16, 2) := by decide +kernel
theorem dL_view_124 : decode cL_view 124 = .ok (.if_icmp .ge 24, 3) := by decide +kernel
theorem dL_view_127 : decode cL_view 127 = .ok (.ldc2_w 11, 3) := by decide +kernel
theorem dL_view_130 : decode cL_view 130 = .ok (.lload_n 1, 1) := by decide +kernel
theorem dL_view_131 : decode cL_view 131 = .ok (.lmul, 1) := by decide +kernel
theorem dL_view_132 : decode cL_view 132 = .ok (.aload_n 0, 1) := by decide +kernel
theorem dL_view_133 : decode cL_view 133 = .ok (.iload_n 3, 1) := by decide +kernel
theorem dL_view_134 : decode cL_view 134 = .ok (.iload 4, 2) := by decide +kernel
theorem dL_view_136 : decode cL_view 136 = .ok (.invokevirtual 27, 3) := by decide +kernel
theorem dL_view_139 : decode cL_view 139 = .ok (.i2l, 1) := by decide +kernel
theorem dL_view_140 : decode cL_view 140 = .ok (.ladd, 1) := by decide +kernel
theorem dL_view_141 : decode cL_view 141 = .ok (.lstore_n 1, 1) := by decide +kernel
theorem dL_view_142 : decode cL_view 142 = .ok (.iinc 4 1, 3) := by decide +kernel
theorem dL_view_145 : decode cL_view 145 = .ok (.goto (-25), 3) := by decide +kernel
theorem dL_view_148 : decode cL_view 148 = .ok (.ldc2_w 11, 3) := by decide +kernel
theorem dL_view_151 : decode cL_view 151 = .ok (.lload_n 1, 1) := by decide +kernel
theorem dL_view_152 : decode cL_view 152 = .ok (.lmul, 1) := by decide +kernel
theorem dL_view_153 : decode cL_view 153 = .ok (.aload_n 0, 1) := by decide +kernel
theorem dL_view_154 : decode cL_view 154 = .ok (.iload_n 3, 1) := by decide +kernel
theorem dL_view_155 : decode cL_view 155 = .ok (.iconst 1, 1) := by decide +kernel
theorem dL_view_156 : decode cL_view 156 = .ok (.invokevirtual 31, 3) := by decide +kernel
theorem dL_view_159 : decode cL_view 159 = .ok (.i2l, 1) := by decide +kernel
theorem dL_view_160 : decode cL_view 160 = .ok (.ladd, 1) := by decide +kernel
theorem dL_view_161 : decode cL_view 161 = .ok (.lstore_n 1, 1) := by decide +kernel
theorem dL_view_162 : decode cL_view 162 = .ok (.iinc 3 1, 3) := by decide +kernel
theorem dL_view_165 : decode cL_view 165 = .ok (.goto (-57), 3) := by decide +kernel
theorem dL_view_168 : decode cL_view 168 = .ok (.iconst 0, 1) := by decide +kernel
theorem dL_view_169 : decode cL_view 169 = .ok (.istore_n 3, 1) := by decide +kernel
theorem dL_view_170 : decode cL_view 170 = .ok (.iload_n 3, 1) := by decide +kernel
theorem dL_view_171 : decode cL_view 171 = .ok (.aload_n 0, 1) := by decide +kernel
theorem dL_view_172 : decode cL_view 172 = .ok (.iconst 4, 1) := by decide +kernel
theorem dL_view_173 : decode cL_view 173 = .ok (.invokevirtual 13, 3) := by decide +kernel
theorem dL_view_176 : decode cL_view 176 = .ok (.if_icmp .ge 45, 3) := by decide +kernel
theorem dL_view_179 : decode cL_view 179 = .ok (.iload_n 3, 1) := by decide +kernel
theorem dL_view_180 : decode cL_view 180 = .ok (.bipush 40, 2) := by decide +kernel
theorem dL_view_182 : decode cL_view 182 = .ok (.if_icmp .ge 39, 3) := by decide +kernel
theorem dL_view_185 : decode cL_view 185 = .ok (.iconst 0, 1) := by decide +kernel
theorem dL_view_186 : decode cL_view 186 = .ok (.istore 4, 2) := by decide +kernel
theorem dL_view_188 : decode cL_view 188 = .ok (.iload 4, 2) := by decide +kernel
theorem dL_view_190 : decode cL_view 190 = .ok (.iconst 5, 1) := by decide +kernel
theorem dL_view_191 : decode cL_view 191 = .ok (.if_icmp .ge 24, 3) := by decide +kernel
theorem dL_view_194 : decode cL_view 194 = .ok (.ldc2_w 11, 3) := by decide +kernel
theorem dL_view_197 : decode cL_view 197 = .ok (.lload_n 1, 1) := by decide +kernel
theorem dL_view_198 : decode cL_view 198 = .ok (.lmul, 1) := by decide +kernel
theorem dL_view_199 : decode cL_view 199 = .ok (.aload_n 0, 1) := by decide +kernel
theorem dL_view_200 : decode cL_view 200 = .ok (.iload_n 3, 1) := by decide +kernel
theorem dL_view_201 : decode cL_view 201 = .ok (.iload 4, 2) := by decide +kernel
theorem dL_view_203 : decode cL_view 203 = .ok (.invokevirtual 34, 3) := by decide +kernel
theorem dL_view_206 : decode cL_view 206 = .ok (.i2l, 1) := by decide +kernel
theorem dL_view_207 : decode cL_view 207 = .ok (.ladd, 1) := by decide +kernel
theorem dL_view_208 : decode cL_view 208 = .ok (.lstore_n 1, 1) := by decide +kernel
theorem dL_view_209 : decode cL_view 209 = .ok (.iinc 4 1, 3) := by decide +kernel
theorem dL_view_212 : decode cL_view 212 = .ok (.goto (-24), 3) := by decide +kernel
theorem dL_view_215 : decode cL_view 215 = .ok (.iinc 3 1, 3) := by decide +kernel
theorem dL_view_218 : decode cL_view 218 = .ok (.goto (-48), 3) := by decide +kernel
theorem dL_view_221 : decode cL_view 221 = .ok (.lload_n 1, 1) := by decide +kernel
theorem dL_view_222 : decode cL_view 222 = .ok (.lreturn, 1) := by decide +kernel
theorem dL_order_0 : decode cL_order 0 = .ok (.iload_n 1, 1) := by decide +kernel
theorem dL_order_1 : decode cL_order 1 = .ok (.iconst 2, 1) := by decide +kernel
theorem dL_order_2 : decode cL_order 2 = .ok (.ishr, 1) := by decide +kernel
theorem dL_order_3 : decode cL_order 3 = .ok (.iconst 4, 1) := by decide +kernel
theorem dL_order_4 : decode cL_order 4 = .ok (.invokestatic 37, 3) := by decide +kernel
theorem dL_order_7 : decode cL_order 7 = .ok (.iconst 3, 1) := by decide +kernel
theorem dL_order_8 : decode cL_order 8 = .ok (.if_icmp .ne 8, 3) := by decide +kernel
theorem dL_order_11 : decode cL_order 11 = .ok (.bipush 8, 2) := by decide +kernel
theorem dL_order_13 : decode cL_order 13 = .ok (.goto 10, 3) := by decide +kernel
theorem dL_order_16 : decode cL_order 16 = .ok (.iload_n 1, 1) := by decide +kernel
theorem dL_order_17 : decode cL_order 17 = .ok (.iconst 4, 1) := by decide +kernel
theorem dL_order_18 : decode cL_order 18 = .ok (.ishr, 1) := by decide +kernel
theorem dL_order_19 : decode cL_order 19 = .ok (.iconst 4, 1) := by decide +kernel
theorem dL_order_20 : decode cL_order 20 = .ok (.invokestatic 37, 3) := by decide +kernel
theorem dL_order_23 : decode cL_order 23 = .ok (.istore_n 3, 1) := by decide +kernel
theorem dL_order_24 : decode cL_order 24 = .ok (.iload_n 2, 1) := by decide +kernel
theorem dL_order_25 : decode cL_order 25 = .ok (.iconst 4, 1) := by decide +kernel
theorem dL_order_26 : decode cL_order 26 = .ok (.invokestatic 37, 3) := by decide +kernel
theorem dL_order_29 : decode cL_order 29 = .ok (.istore 4, 2) := by decide +kernel
theorem dL_order_31 : decode cL_order 31 = .ok (.iconst 1, 1) := by decide +kernel
theorem dL_order_32 : decode cL_order 32 = .ok (.iload_n 2, 1) := by decide +kernel
theorem dL_order_33 : decode cL_order 33 = .ok (.iconst 4, 1) := by decide +kernel
theorem dL_order_34 : decode cL_order 34 = .ok (.ishr, 1) := by decide +kernel
theorem dL_order_35 : decode cL_order 35 = .ok (.iload 4, 2) := by decide +kernel
theorem dL_order_37 : decode cL_order 37 = .ok (.ifCond .ne 8, 3) := by decide +kernel
theorem dL_order_40 : decode cL_order 40 = .ok (.bipush 12, 2) := by decide +kernel
theorem dL_order_42 : decode cL_order 42 = .ok (.goto 4, 3) := by decide +kernel
theorem dL_order_45 : decode cL_order 45 = .ok (.iconst 2, 1) := by decide +kernel
theorem dL_order_46 : decode cL_order 46 = .ok (.invokestatic 37, 3) := by decide +kernel
theorem dL_order_49 : decode cL_order 49 = .ok (.iadd, 1) := by decide +kernel
theorem dL_order_50 : decode cL_order 50 = .ok (.istore 5, 2) := by decide +kernel
theorem dL_order_52 : decode cL_order 52 = .ok (.aload_n 0, 1) := by decide +kernel
theorem dL_order_53 : decode cL_order 53 = .ok (.iconst 0, 1) := by decide +kernel
theorem dL_order_54 : decode cL_order 54 = .ok (.invokevirtual 13, 3) := by decide +kernel
theorem dL_order_57 : decode cL_order 57 = .ok (.iload_n 2, 1) := by decide +kernel
theorem dL_order_58 : decode cL_order 58 = .ok (.bipush 8, 2) := by decide +kernel
theorem dL_order_60 : decode cL_order 60 = .ok (.ishr, 1) := by decide +kernel
theorem dL_order_61 : decode cL_order 61 = .ok (.bipush 20, 2) := by decide +kernel
theorem dL_order_63 : decode cL_order 63 = .ok (.invokestatic 37, 3) := by decide +kernel
theorem dL_order_66 : decode cL_order 66 = .ok (.iadd, 1) := by decide +kernel
theorem dL_order_67 : decode cL_order 67 = .ok (.istore 6, 2) := by decide +kernel
theorem dL_order_69 : decode cL_order 69 = .ok (.aload_n 0, 1) := by decide +kernel
theorem dL_order_70 : decode cL_order 70 = .ok (.bipush 9, 2) := by decide +kernel
theorem dL_order_72 : decode cL_order 72 = .ok (.iload_n 1, 1) := by decide +kernel
theorem dL_order_73 : decode cL_order 73 = .ok (.iconst 3, 1) := by decide +kernel
theorem dL_order_74 : decode cL_order 74 = .ok (.invokestatic 37, 3) := by decide +kernel
theorem dL_order_77 : decode cL_order 77 = .ok (.imul, 1) := by decide +kernel
theorem dL_order_78 : decode cL_order 78 = .ok (.iload_n 3, 1) := by decide +kernel
theorem dL_order_79 : decode cL_order 79 = .ok (.iadd, 1) := by decide +kernel
theorem dL_order_80 : decode cL_order 80 = .ok (.iconst 1, 1) := by decide +kernel
theorem dL_order_81 : decode cL_order 81 = .ok (.iload_n 1, 1) := by decide +kernel
theorem dL_order_82 : decode cL_order 82 = .ok (.bipush 6, 2) := by decide +kernel
theorem dL_order_84 : decode cL_order 84 = .ok (.ishr, 1) := by decide +kernel
theorem dL_order_85 : decode cL_order 85 = .ok (.ldc 42, 2) := by decide +kernel
theorem dL_order_87 : decode cL_order 87 = .ok (.invokestatic 37, 3) := by decide +kernel
theorem dL_order_90 : decode cL_order 90 = .ok (.iadd, 1) := by decide +kernel
theorem dL_order_91 : decode cL_order 91 = .ok (.sipush 10000, 3) := by decide +kernel
theorem dL_order_94 : decode cL_order 94 = .ok (.iload 4, 2) := by decide +kernel
theorem dL_order_96 : decode cL_order 96 = .ok (.imul, 1) := by decide +kernel
theorem dL_order_97 : decode cL_order 97 = .ok (.bipush 100, 2) := by decide +kernel
theorem dL_order_99 : decode cL_order 99 = .ok (.iload 5, 2) := by decide +kernel
theorem dL_order_101 : decode cL_order 101 = .ok (.imul, 1) := by decide +kernel
theorem dL_order_102 : decode cL_order 102 = .ok (.iadd, 1) := by decide +kernel
theorem dL_order_103 : decode cL_order 103 = .ok (.iconst 1, 1) := by decide +kernel
theorem dL_order_104 : decode cL_order 104 = .ok (.iadd, 1) := by decide +kernel
theorem dL_order_105 : decode cL_order 105 = .ok (.iload_n 2, 1) := by decide +kernel
theorem dL_order_106 : decode cL_order 106 = .ok (.bipush 12, 2) := by decide +kernel
theorem dL_order_108 : decode cL_order 108 = .ok (.ishr, 1) := by decide +kernel
theorem dL_order_109 : decode cL_order 109 = .ok (.bipush 31, 2) := by decide +kernel
theorem dL_order_111 : decode cL_order 111 = .ok (.invokestatic 37, 3) := by decide +kernel
theorem dL_order_114 : decode cL_order 114 = .ok (.iadd, 1) := by decide +kernel
theorem dL_order_115 : decode cL_order 115 = .ok (.iload 6, 2) := by decide +kernel
theorem dL_order_117 : decode cL_order 117 = .ok (.iload_n 1, 1) := by decide +kernel
theorem dL_order_118 : decode cL_order 118 = .ok (.bipush 8, 2) := by decide +kernel
theorem dL_order_120 : decode cL_order 120 = .ok (.ishr, 1) := by decide +kernel
theorem dL_order_121 : decode cL_order 121 = .ok (.bipush 50, 2) := by decide +kernel
theorem dL_order_123 : decode cL_order 123 = .ok (.invokestatic 37, 3) := by decide +kernel
theorem dL_order_126 : decode cL_order 126 = .ok (.iload_n 2, 1) := by decide +kernel
theorem dL_order_127 : decode cL_order 127 = .ok (.bipush 16, 2) := by decide +kernel
theorem dL_order_129 : decode cL_order 129 = .ok (.ishr, 1) := by decide +kernel
theorem dL_order_130 : decode cL_order 130 = .ok (.iconst 4, 1) := by decide +kernel
theorem dL_order_131 : decode cL_order 131 = .ok (.invokestatic 37, 3) := by decide +kernel
theorem dL_order_134 : decode cL_order 134 = .ok (.invokevirtual 43, 3) := by decide +kernel
theorem dL_order_137 : decode cL_order 137 = .ok (.ireturn, 1) := by decide +kernel
theorem dL_any_0 : decode cL_any 0 = .ok (.iload_n 2, 1) := by decide +kernel
theorem dL_any_1 : decode cL_any 1 = .ok (.bipush 7, 2) := by decide +kernel
theorem dL_any_3 : decode cL_any 3 = .ok (.iand, 1) := by decide +kernel
theorem dL_any_4 : decode cL_any 4 = .ok (.tableswitch 99 0 6 #[44, 51, 60, 67, 74, 85, 93], 44) := by decide +kernel
theorem dL_any_48 : decode cL_any 48 = .ok (.aload_n 0, 1) := by decide +kernel
theorem dL_any_49 : decode cL_any 49 = .ok (.iload_n 1, 1) := by decide +kernel
theorem dL_any_50 : decode cL_any 50 = .ok (.iload_n 2, 1) := by decide +kernel
theorem dL_any_51 : decode cL_any 51 = .ok (.invokevirtual 47, 3) := by decide +kernel
theorem dL_any_54 : decode cL_any 54 = .ok (.ireturn, 1) := by decide +kernel
theorem dL_any_55 : decode cL_any 55 = .ok (.aload_n 0, 1) := by decide +kernel
theorem dL_any_56 : decode cL_any 56 = .ok (.iload_n 1, 1) := by decide +kernel
theorem dL_any_57 : decode cL_any 57 = .ok (.iload_n 2, 1) := by decide +kernel
theorem dL_any_58 : decode cL_any 58 = .ok (.iconst 3, 1) := by decide +kernel
theorem dL_any_59 : decode cL_any 59 = .ok (.ishr, 1) := by decide +kernel
theorem dL_any_60 : decode cL_any 60 = .ok (.invokevirtual 50, 3) := by decide +kernel
theorem dL_any_63 : decode cL_any 63 = .ok (.ireturn, 1) := by decide +kernel
theorem dL_any_64 : decode cL_any 64 = .ok (.aload_n 0, 1) := by decide +kernel
theorem dL_any_65 : decode cL_any 65 = .ok (.iload_n 1, 1) := by decide +kernel
theorem dL_any_66 : decode cL_any 66 = .ok (.iload_n 2, 1) := by decide +kernel
theorem dL_any_67 : decode cL_any 67 = .ok (.invokevirtual 53, 3) := by decide +kernel
theorem dL_any_70 : decode cL_any 70 = .ok (.ireturn, 1) := by decide +kernel
theorem dL_any_71 : decode cL_any 71 = .ok (.aload_n 0, 1) := by decide +kernel
theorem dL_any_72 : decode cL_any 72 = .ok (.iload_n 1, 1) := by decide +kernel
theorem dL_any_73 : decode cL_any 73 = .ok (.iload_n 2, 1) := by decide +kernel
theorem dL_any_74 : decode cL_any 74 = .ok (.invokevirtual 56, 3) := by decide +kernel
theorem dL_any_77 : decode cL_any 77 = .ok (.ireturn, 1) := by decide +kernel
theorem dL_any_78 : decode cL_any 78 = .ok (.aload_n 0, 1) := by decide +kernel
theorem dL_any_79 : decode cL_any 79 = .ok (.iload_n 1, 1) := by decide +kernel
theorem dL_any_80 : decode cL_any 80 = .ok (.iload_n 2, 1) := by decide +kernel
theorem dL_any_81 : decode cL_any 81 = .ok (.iload_n 1, 1) := by decide +kernel
theorem dL_any_82 : decode cL_any 82 = .ok (.iload_n 2, 1) := by decide +kernel
theorem dL_any_83 : decode cL_any 83 = .ok (.iload_n 1, 1) := by decide +kernel
theorem dL_any_84 : decode cL_any 84 = .ok (.iload_n 2, 1) := by decide +kernel
theorem dL_any_85 : decode cL_any 85 = .ok (.invokevirtual 43, 3) := by decide +kernel
theorem dL_any_88 : decode cL_any 88 = .ok (.ireturn, 1) := by decide +kernel
theorem dL_any_89 : decode cL_any 89 = .ok (.aload_n 0, 1) := by decide +kernel
theorem dL_any_90 : decode cL_any 90 = .ok (.iload_n 1, 1) := by decide +kernel
theorem dL_any_91 : decode cL_any 91 = .ok (.iload_n 2, 1) := by decide +kernel
theorem dL_any_92 : decode cL_any 92 = .ok (.iload_n 2, 1) := by decide +kernel
theorem dL_any_93 : decode cL_any 93 = .ok (.invokevirtual 59, 3) := by decide +kernel
theorem dL_any_96 : decode cL_any 96 = .ok (.ireturn, 1) := by decide +kernel
theorem dL_any_97 : decode cL_any 97 = .ok (.aload_n 0, 1) := by decide +kernel
theorem dL_any_98 : decode cL_any 98 = .ok (.iload_n 1, 1) := by decide +kernel
theorem dL_any_99 : decode cL_any 99 = .ok (.invokevirtual 63, 3) := by decide +kernel
theorem dL_any_102 : decode cL_any 102 = .ok (.ireturn, 1) := by decide +kernel
theorem dL_any_103 : decode cL_any 103 = .ok (.aload_n 0, 1) := by decide +kernel
theorem dL_any_104 : decode cL_any 104 = .ok (.iload_n 1, 1) := by decide +kernel
theorem dL_any_105 : decode cL_any 105 = .ok (.invokevirtual 66, 3) := by decide +kernel
theorem dL_any_108 : decode cL_any 108 = .ok (.ireturn, 1) := by decide +kernel
theorem dL_turn_0 : decode cL_turn 0 = .ok (.iload_n 1, 1) := by decide +kernel
theorem dL_turn_1 : decode cL_turn 1 = .ok (.tableswitch 268 0 13 #[71, 99, 119, 137, 152, 152, 170, 170, 177, 203, 232, 243, 243, 243], 71) := by decide +kernel
theorem dL_turn_72 : decode cL_turn 72 = .ok (.aload_n 0, 1) := by decide +kernel
theorem dL_turn_73 : decode cL_turn 73 = .ok (.iload_n 2, 1) := by decide +kernel
theorem dL_turn_74 : decode cL_turn 74 = .ok (.iconst 4, 1) := by decide +kernel
theorem dL_turn_75 : decode cL_turn 75 = .ok (.invokestatic 37, 3) := by decide +kernel
theorem dL_turn_78 : decode cL_turn 78 = .ok (.iload_n 3, 1) := by decide +kernel
theorem dL_turn_79 : decode cL_turn 79 = .ok (.iload_n 2, 1) := by decide +kernel
theorem dL_turn_80 : decode cL_turn 80 = .ok (.iconst 4, 1) := by decide +kernel
theorem dL_turn_81 : decode cL_turn 81 = .ok (.iand, 1) := by decide +kernel
theorem dL_turn_82 : decode cL_turn 82 = .ok (.ifCond .ne 8, 3) := by decide +kernel
theorem dL_turn_85 : decode cL_turn 85 = .ok (.bipush 7, 2) := by decide +kernel
theorem dL_turn_87 : decode cL_turn 87 = .ok (.goto 6, 3) := by decide +kernel
theorem dL_turn_90 : decode cL_turn 90 = .ok (.sipush 400, 3) := by decide +kernel
theorem dL_turn_93 : decode cL_turn 93 = .ok (.invokestatic 37, 3) := by decide +kernel
theorem dL_turn_96 : decode cL_turn 96 = .ok (.invokevirtual 47, 3) := by decide +kernel
theorem dL_turn_99 : decode cL_turn 99 = .ok (.ireturn, 1) := by decide +kernel
theorem dL_turn_100 : decode cL_turn 100 = .ok (.aload_n 0, 1) := by decide +kernel
theorem dL_turn_101 : decode cL_turn 101 = .ok (.aload_n 0, 1) := by decide +kernel
theorem dL_turn_102 : decode cL_turn 102 = .ok (.iconst 0, 1) := by decide +kernel
theorem dL_turn_103 : decode cL_turn 103 = .ok (.invokevirtual 13, 3) := by decide +kernel
theorem dL_turn_106 : decode cL_turn 106 = .ok (.iload_n 2, 1) := by decide +kernel
theorem dL_turn_107 : decode cL_turn 107 = .ok (.bipush 30, 2) := by decide +kernel
theorem dL_turn_109 : decode cL_turn 109 = .ok (.invokestatic 37, 3) := by decide +kernel
theorem dL_turn_112 : decode cL_turn 112 = .ok (.iadd, 1) := by decide +kernel
theorem dL_turn_113 : decode cL_turn 113 = .ok (.iload_n 3, 1) := by decide +kernel
theorem dL_turn_114 : decode cL_turn 114 = .ok (.iconst 1, 1) := by decide +kernel
theorem dL_turn_115 : decode cL_turn 115 = .ok (.iand, 1) := by decide +kernel
theorem dL_turn_116 : decode cL_turn 116 = .ok (.invokevirtual 50, 3) := by decide +kernel
theorem dL_turn_119 : decode cL_turn 119 = .ok (.ireturn, 1) := by decide +kernel
theorem dL_turn_120 : decode cL_turn 120 = .ok (.aload_n 0, 1) := by decide +kernel
theorem dL_turn_121 : decode cL_turn 121 = .ok (.iload_n 2, 1) := by decide +kernel
theorem dL_turn_122 : decode cL_turn 122 = .ok (.ldc 69, 2) := by decide +kernel
theorem dL_turn_124 : decode cL_turn 124 = .ok (.invokestatic 37, 3) := by decide +kernel
theorem dL_turn_127 : decode cL_turn 127 = .ok (.iload_n 3, 1) := by decide +kernel
theorem dL_turn_128 : decode cL_turn 128 = .ok (.sipush 30000, 3) := by decide +kernel
theorem dL_turn_131 : decode cL_turn 131 = .ok (.invokestatic 37, 3) := by decide +kernel
theorem dL_turn_134 : decode cL_turn 134 = .ok (.invokevirtual 53, 3) := by decide +kernel
theorem dL_turn_137 : decode cL_turn 137 = .ok (.ireturn, 1) := by decide +kernel
theorem dL_turn_138 : decode cL_turn 138 = .ok (.aload_n 0, 1) := by decide +kernel
theorem dL_turn_139 : decode cL_turn 139 = .ok (.iload_n 2, 1) := by decide +kernel
theorem dL_turn_140 : decode cL_turn 140 = .ok (.iconst 4, 1) := by decide +kernel
theorem dL_turn_141 : decode cL_turn 141 = .ok (.invokestatic 37, 3) := by decide +kernel
theorem dL_turn_144 : decode cL_turn 144 = .ok (.iload_n 3, 1) := by decide +kernel
theorem dL_turn_145 : decode cL_turn 145 = .ok (.iconst 4, 1) := by decide +kernel
theorem dL_turn_146 : decode cL_turn 146 = .ok (.invokestatic 37, 3) := by decide +kernel
theorem dL_turn_149 : decode cL_turn 149 = .ok (.invokevirtual 70, 3) := by decide +kernel
theorem dL_turn_152 : decode cL_turn 152 = .ok (.ireturn, 1) := by decide +kernel
theorem dL_turn_153 : decode cL_turn 153 = .ok (.aload_n 0, 1) := by decide +kernel
theorem dL_turn_154 : decode cL_turn 154 = .ok (.iload_n 2, 1) := by decide +kernel
theorem dL_turn_155 : decode cL_turn 155 = .ok (.iconst 4, 1) := by decide +kernel
theorem dL_turn_156 : decode cL_turn 156 = .ok (.invokestatic 37, 3) := by decide +kernel
theorem dL_turn_159 : decode cL_turn 159 = .ok (.iconst 1, 1) := by decide +kernel
theorem dL_turn_160 : decode cL_turn 160 = .ok (.iload_n 3, 1) := by decide +kernel
theorem dL_turn_161 : decode cL_turn 161 = .ok (.ldc 73, 2) := by decide +kernel
theorem dL_turn_163 : decode cL_turn 163 = .ok (.invokestatic 37, 3) := by decide +kernel
theorem dL_turn_166 : decode cL_turn 166 = .ok (.iadd, 1) := by decide +kernel
theorem dL_turn_167 : decode cL_turn 167 = .ok (.invokevirtual 56, 3) := by decide +kernel
theorem dL_turn_170 : decode cL_turn 170 = .ok (.ireturn, 1) := by decide +kernel
theorem dL_turn_171 : decode cL_turn 171 = .ok (.aload_n 0, 1) := by decide +kernel
theorem dL_turn_172 : decode cL_turn 172 = .ok (.iload_n 2, 1) := by decide +kernel
theorem dL_turn_173 : decode cL_turn 173 = .ok (.iload_n 3, 1) := by decide +kernel
theorem dL_turn_174 : decode cL_turn 174 = .ok (.invokestatic 74, 3) := by decide +kernel
theorem dL_turn_177 : decode cL_turn 177 = .ok (.ireturn, 1) := by decide +kernel
theorem dL_turn_178 : decode cL_turn 178 = .ok (.aload_n 0, 1) := by decide +kernel
theorem dL_turn_179 : decode cL_turn 179 = .ok (.iload_n 2, 1) := by decide +kernel
theorem dL_turn_180 : decode cL_turn 180 = .ok (.iconst 4, 1) := by decide +kernel
theorem dL_turn_181 : decode cL_turn 181 = .ok (.invokestatic 37, 3) := by decide +kernel
theorem dL_turn_184 : decode cL_turn 184 = .ok (.iconst 1, 1) := by decide +kernel
theorem dL_turn_185 : decode cL_turn 185 = .ok (.iload_n 3, 1) := by decide +kernel
theorem dL_turn_186 : decode cL_turn 186 = .ok (.ldc 42, 2) := by decide +kernel
theorem dL_turn_188 : decode cL_turn 188 = .ok (.invokestatic 37, 3) := by decide +kernel
theorem dL_turn_191 : decode cL_turn 191 = .ok (.iadd, 1) := by decide +kernel
theorem dL_turn_192 : decode cL_turn 192 = .ok (.iload_n 2, 1) := by decide +kernel
theorem dL_turn_193 : decode cL_turn 193 = .ok (.iconst 4, 1) := by decide +kernel
theorem dL_turn_194 : decode cL_turn 194 = .ok (.ishr, 1) := by decide +kernel
theorem dL_turn_195 : decode cL_turn 195 = .ok (.bipush 10, 2) := by decide +kernel
theorem dL_turn_197 : decode cL_turn 197 = .ok (.invokestatic 37, 3) := by decide +kernel
theorem dL_turn_200 : decode cL_turn 200 = .ok (.invokevirtual 59, 3) := by decide +kernel
theorem dL_turn_203 : decode cL_turn 203 = .ok (.ireturn, 1) := by decide +kernel
theorem dL_turn_204 : decode cL_turn 204 = .ok (.iload_n 2, 1) := by decide +kernel
theorem dL_turn_205 : decode cL_turn 205 = .ok (.bipush 16, 2) := by decide +kernel
theorem dL_turn_207 : decode cL_turn 207 = .ok (.iand, 1) := by decide +kernel
theorem dL_turn_208 : decode cL_turn 208 = .ok (.ifCond .ne 15, 3) := by decide +kernel
theorem dL_turn_211 : decode cL_turn 211 = .ok (.aload_n 0, 1) := by decide +kernel
theorem dL_turn_212 : decode cL_turn 212 = .ok (.iload_n 2, 1) := by decide +kernel
theorem dL_turn_213 : decode cL_turn 213 = .ok (.iconst 4, 1) := by decide +kernel
theorem dL_turn_214 : decode cL_turn 214 = .ok (.invokestatic 37, 3) := by decide +kernel
theorem dL_turn_217 : decode cL_turn 217 = .ok (.invokevirtual 66, 3) := by decide +kernel
theorem dL_turn_220 : decode cL_turn 220 = .ok (.goto 12, 3) := by decide +kernel
theorem dL_turn_223 : decode cL_turn 223 = .ok (.aload_n 0, 1) := by decide +kernel
theorem dL_turn_224 : decode cL_turn 224 = .ok (.iload_n 2, 1) := by decide +kernel
theorem dL_turn_225 : decode cL_turn 225 = .ok (.iconst 4, 1) := by decide +kernel
theorem dL_turn_226 : decode cL_turn 226 = .ok (.invokestatic 37, 3) := by decide +kernel
theorem dL_turn_229 : decode cL_turn 229 = .ok (.invokevirtual 77, 3) := by decide +kernel
theorem dL_turn_232 : decode cL_turn 232 = .ok (.ireturn, 1) := by decide +kernel
theorem dL_turn_233 : decode cL_turn 233 = .ok (.aload_n 0, 1) := by decide +kernel
theorem dL_turn_234 : decode cL_turn 234 = .ok (.iload_n 2, 1) := by decide +kernel
theorem dL_turn_235 : decode cL_turn 235 = .ok (.bipush 6, 2) := by decide +kernel
theorem dL_turn_237 : decode cL_turn 237 = .ok (.invokestatic 37, 3) := by decide +kernel
theorem dL_turn_240 : decode cL_turn 240 = .ok (.invokevirtual 63, 3) := by decide +kernel
theorem dL_turn_243 : decode cL_turn 243 = .ok (.ireturn, 1) := by decide +kernel
theorem dL_turn_244 : decode cL_turn 244 = .ok (.aload_n 0, 1) := by decide +kernel
theorem dL_turn_245 : decode cL_turn 245 = .ok (.iconst 1, 1) := by decide +kernel
theorem dL_turn_246 : decode cL_turn 246 = .ok (.iload_n 2, 1) := by decide +kernel
theorem dL_turn_247 : decode cL_turn 247 = .ok (.iload_n 3, 1) := by decide +kernel
theorem dL_turn_248 : decode cL_turn 248 = .ok (.bipush 7, 2) := by decide +kernel
theorem dL_turn_250 : decode cL_turn 250 = .ok (.iand, 1) := by decide +kernel
theorem dL_turn_251 : decode cL_turn 251 = .ok (.ifCond .ne 8, 3) := by decide +kernel
theorem dL_turn_254 : decode cL_turn 254 = .ok (.bipush 90, 2) := by decide +kernel
theorem dL_turn_256 : decode cL_turn 256 = .ok (.goto 5, 3) := by decide +kernel
theorem dL_turn_259 : decode cL_turn 259 = .ok (.bipush 9, 2) := by decide +kernel
theorem dL_turn_261 : decode cL_turn 261 = .ok (.invokestatic 37, 3) := by decide +kernel
theorem dL_turn_264 : decode cL_turn 264 = .ok (.iadd, 1) := by decide +kernel
theorem dL_turn_265 : decode cL_turn 265 = .ok (.invokevirtual 80, 3) := by decide +kernel
theorem dL_turn_268 : decode cL_turn 268 = .ok (.ireturn, 1) := by decide +kernel
theorem dL_turn_269 : decode cL_turn 269 = .ok (.aload_n 0, 1) := by decide +kernel
theorem dL_turn_270 : decode cL_turn 270 = .ok (.iload_n 2, 1) := by decide +kernel
theorem dL_turn_271 : decode cL_turn 271 = .ok (.iload_n 3, 1) := by decide +kernel
theorem dL_turn_272 : decode cL_turn 272 = .ok (.invokestatic 83, 3) := by decide +kernel
theorem dL_turn_275 : decode cL_turn 275 = .ok (.ireturn, 1) := by decide +kernel
theorem dL_isBalanced_0 : decode cL_isBalanced 0 = .ok (.iconst 1, 1) := by decide +kernel
theorem dL_isBalanced_1 : decode cL_isBalanced 1 = .ok (.istore_n 1, 1) := by decide +kernel
theorem dL_isBalanced_2 : decode cL_isBalanced 2 = .ok (.iconst 0, 1) := by decide +kernel
theorem dL_isBalanced_3 : decode cL_isBalanced 3 = .ok (.istore_n 2, 1) := by decide +kernel
theorem dL_isBalanced_4 : decode cL_isBalanced 4 = .ok (.iload_n 2, 1) := by decide +kernel
theorem dL_isBalanced_5 : decode cL_isBalanced 5 = .ok (.aload_n 0, 1) := by decide +kernel
theorem dL_isBalanced_6 : decode cL_isBalanced 6 = .ok (.iconst 1, 1) := by decide +kernel
theorem dL_isBalanced_7 : decode cL_isBalanced 7 = .ok (.invokevirtual 13, 3) := by decide +kernel
theorem dL_isBalanced_10 : decode cL_isBalanced 10 = .ok (.if_icmp .ge 85, 3) := by decide +kernel
theorem dL_isBalanced_13 : decode cL_isBalanced 13 = .ok (.iload_n 1, 1) := by decide +kernel
theorem dL_isBalanced_14 : decode cL_isBalanced 14 = .ok (.ifCond .eq 81, 3) := by decide +kernel
theorem dL_isBalanced_17 : decode cL_isBalanced 17 = .ok (.aload_n 0, 1) := by decide +kernel
theorem dL_isBalanced_18 : decode cL_isBalanced 18 = .ok (.iload_n 2, 1) := by decide +kernel
theorem dL_isBalanced_19 : decode cL_isBalanced 19 = .ok (.iconst 1, 1) := by decide +kernel
theorem dL_isBalanced_20 : decode cL_isBalanced 20 = .ok (.invokevirtual 19, 3) := by decide +kernel
theorem dL_isBalanced_23 : decode cL_isBalanced 23 = .ok (.aload_n 0, 1) := by decide +kernel
theorem dL_isBalanced_24 : decode cL_isBalanced 24 = .ok (.iload_n 2, 1) := by decide +kernel
theorem dL_isBalanced_25 : decode cL_isBalanced 25 = .ok (.iconst 3, 1) := by decide +kernel
theorem dL_isBalanced_26 : decode cL_isBalanced 26 = .ok (.invokevirtual 19, 3) := by decide +kernel
theorem dL_isBalanced_29 : decode cL_isBalanced 29 = .ok (.ladd, 1) := by decide +kernel
theorem dL_isBalanced_30 : decode cL_isBalanced 30 = .ok (.aload_n 0, 1) := by decide +kernel
theorem dL_isBalanced_31 : decode cL_isBalanced 31 = .ok (.iload_n 2, 1) := by decide +kernel
theorem dL_isBalanced_32 : decode cL_isBalanced 32 = .ok (.iconst 4, 1) := by decide +kernel
theorem dL_isBalanced_33 : decode cL_isBalanced 33 = .ok (.invokevirtual 19, 3) := by decide +kernel
theorem dL_isBalanced_36 : decode cL_isBalanced 36 = .ok (.ladd, 1) := by decide +kernel
theorem dL_isBalanced_37 : decode cL_isBalanced 37 = .ok (.lstore_n 3, 1) := by decide +kernel
theorem dL_isBalanced_38 : decode cL_isBalanced 38 = .ok (.aload_n 0, 1) := by decide +kernel
theorem dL_isBalanced_39 : decode cL_isBalanced 39 = .ok (.iload_n 2, 1) := by decide +kernel
theorem dL_isBalanced_40 : decode cL_isBalanced 40 = .ok (.iconst 2, 1) := by decide +kernel
theorem dL_isBalanced_41 : decode cL_isBalanced 41 = .ok (.invokevirtual 19, 3) := by decide +kernel
theorem dL_isBalanced_44 : decode cL_isBalanced 44 = .ok (.aload_n 0, 1) := by decide +kernel
theorem dL_isBalanced_45 : decode cL_isBalanced 45 = .ok (.iload_n 2, 1) := by decide +kernel
theorem dL_isBalanced_46 : decode cL_isBalanced 46 = .ok (.iconst 5, 1) := by decide +kernel
theorem dL_isBalanced_47 : decode cL_isBalanced 47 = .ok (.invokevirtual 19, 3) := by decide +kernel
theorem dL_isBalanced_50 : decode cL_isBalanced 50 = .ok (.ladd, 1) := by decide +kernel
theorem dL_isBalanced_51 : decode cL_isBalanced 51 = .ok (.aload_n 0, 1) := by decide +kernel
theorem dL_isBalanced_52 : decode cL_isBalanced 52 = .ok (.iload_n 2, 1) := by decide +kernel
theorem dL_isBalanced_53 : decode cL_isBalanced 53 = .ok (.bipush 6, 2) := by decide +kernel
theorem dL_isBalanced_55 : decode cL_isBalanced 55 = .ok (.invokevirtual 19, 3) := by decide +kernel
theorem dL_isBalanced_58 : decode cL_isBalanced 58 = .ok (.ladd, 1) := by decide +kernel
theorem dL_isBalanced_59 : decode cL_isBalanced 59 = .ok (.aload_n 0, 1) := by decide +kernel
theorem dL_isBalanced_60 : decode cL_isBalanced 60 = .ok (.iload_n 2, 1) := by decide +kernel
theorem dL_isBalanced_61 : decode cL_isBalanced 61 = .ok (.bipush 7, 2) := by decide +kernel
theorem dL_isBalanced_63 : decode cL_isBalanced 63 = .ok (.invokevirtual 19, 3) := by decide +kernel
theorem dL_isBalanced_66 : decode cL_isBalanced 66 = .ok (.ladd, 1) := by decide +kernel
theorem dL_isBalanced_67 : decode cL_isBalanced 67 = .ok (.lstore 5, 2) := by decide +kernel
theorem dL_isBalanced_69 : decode cL_isBalanced 69 = .ok (.aload_n 0, 1) := by decide +kernel
theorem dL_isBalanced_70 : decode cL_isBalanced 70 = .ok (.iload_n 2, 1) := by decide +kernel
theorem dL_isBalanced_71 : decode cL_isBalanced 71 = .ok (.iconst 0, 1) := by decide +kernel
theorem dL_isBalanced_72 : decode cL_isBalanced 72 = .ok (.invokevirtual 19, 3) := by decide +kernel
theorem dL_isBalanced_75 : decode cL_isBalanced 75 = .ok (.lload_n 3, 1) := by decide +kernel
theorem dL_isBalanced_76 : decode cL_isBalanced 76 = .ok (.lload 5, 2) := by decide +kernel
theorem dL_isBalanced_78 : decode cL_isBalanced 78 = .ok (.lsub, 1) := by decide +kernel
theorem dL_isBalanced_79 : decode cL_isBalanced 79 = .ok (.lcmp, 1) := by decide +kernel
theorem dL_isBalanced_80 : decode cL_isBalanced 80 = .ok (.ifCond .ne 7, 3) := by decide +kernel
theorem dL_isBalanced_83 : decode cL_isBalanced 83 = .ok (.iconst 1, 1) := by decide +kernel
theorem dL_isBalanced_84 : decode cL_isBalanced 84 = .ok (.goto 4, 3) := by decide +kernel
theorem dL_isBalanced_87 : decode cL_isBalanced 87 = .ok (.iconst 0, 1) := by decide +kernel
theorem dL_isBalanced_88 : decode cL_isBalanced 88 = .ok (.istore_n 1, 1) := by decide +kernel
theorem dL_isBalanced_89 : decode cL_isBalanced 89 = .ok (.iinc 2 1, 3) := by decide +kernel
theorem dL_isBalanced_92 : decode cL_isBalanced 92 = .ok (.goto (-88), 3) := by decide +kernel
theorem dL_isBalanced_95 : decode cL_isBalanced 95 = .ok (.iload_n 1, 1) := by decide +kernel
theorem dL_isBalanced_96 : decode cL_isBalanced 96 = .ok (.ireturn, 1) := by decide +kernel
theorem dL_areInOrder_0 : decode cL_areInOrder 0 = .ok (.iconst 0, 1) := by decide +kernel
theorem dL_areInOrder_1 : decode cL_areInOrder 1 = .ok (.istore_n 1, 1) := by decide +kernel
theorem dL_areInOrder_2 : decode cL_areInOrder 2 = .ok (.iconst 0, 1) := by decide +kernel
theorem dL_areInOrder_3 : decode cL_areInOrder 3 = .ok (.istore_n 2, 1) := by decide +kernel
theorem dL_areInOrder_4 : decode cL_areInOrder 4 = .ok (.iconst 0, 1) := by decide +kernel
theorem dL_areInOrder_5 : decode cL_areInOrder 5 = .ok (.istore_n 3, 1) := by decide +kernel
theorem dL_areInOrder_6 : decode cL_areInOrder 6 = .ok (.iconst 0, 1) := by decide +kernel
theorem dL_areInOrder_7 : decode cL_areInOrder 7 = .ok (.istore 4, 2) := by decide +kernel
theorem dL_areInOrder_9 : decode cL_areInOrder 9 = .ok (.iconst 0, 1) := by decide +kernel
theorem dL_areInOrder_10 : decode cL_areInOrder 10 = .ok (.istore 5, 2) := by decide +kernel
theorem dL_areInOrder_12 : decode cL_areInOrder 12 = .ok (.iload 5, 2) := by decide +kernel
theorem dL_areInOrder_14 : decode cL_areInOrder 14 = .ok (.aload_n 0, 1) := by decide +kernel
theorem dL_areInOrder_15 : decode cL_areInOrder 15 = .ok (.iconst 2, 1) := by decide +kernel
theorem dL_areInOrder_16 : decode cL_areInOrder 16 = .ok (.invokevirtual 13, 3) := by decide +kernel
theorem dL_areInOrder_19 : decode cL_areInOrder 19 = .ok (.if_icmp .ge 55, 3) := by decide +kernel
theorem dL_areInOrder_22 : decode cL_areInOrder 22 = .ok (.iload_n 1, 1) := by decide +kernel
theorem dL_areInOrder_23 : decode cL_areInOrder 23 = .ok (.aload_n 0, 1) := by decide +kernel
theorem dL_areInOrder_24 : decode cL_areInOrder 24 = .ok (.iload 5, 2) := by decide +kernel
theorem dL_areInOrder_26 : decode cL_areInOrder 26 = .ok (.bipush 14, 2) := by decide +kernel
theorem dL_areInOrder_28 : decode cL_areInOrder 28 = .ok (.invokevirtual 27, 3) := by decide +kernel
theorem dL_areInOrder_31 : decode cL_areInOrder 31 = .ok (.iadd, 1) := by decide +kernel
theorem dL_areInOrder_32 : decode cL_areInOrder 32 = .ok (.istore_n 1, 1) := by decide +kernel
theorem dL_areInOrder_33 : decode cL_areInOrder 33 = .ok (.iload_n 2, 1) := by decide +kernel
theorem dL_areInOrder_34 : decode cL_areInOrder 34 = .ok (.aload_n 0, 1) := by decide +kernel
theorem dL_areInOrder_35 : decode cL_areInOrder 35 = .ok (.iload 5, 2) := by decide +kernel
theorem dL_areInOrder_37 : decode cL_areInOrder 37 = .ok (.bipush 11, 2) := by decide +kernel
theorem dL_areInOrder_39 : decode cL_areInOrder 39 = .ok (.invokevirtual 27, 3) := by decide +kernel
theorem dL_areInOrder_42 : decode cL_areInOrder 42 = .ok (.iadd, 1) := by decide +kernel
theorem dL_areInOrder_43 : decode cL_areInOrder 43 = .ok (.istore_n 2, 1) := by decide +kernel
theorem dL_areInOrder_44 : decode cL_areInOrder 44 = .ok (.iload_n 3, 1) := by decide +kernel
theorem dL_areInOrder_45 : decode cL_areInOrder 45 = .ok (.aload_n 0, 1) := by decide +kernel
theorem dL_areInOrder_46 : decode cL_areInOrder 46 = .ok (.iload 5, 2) := by decide +kernel
theorem dL_areInOrder_48 : decode cL_areInOrder 48 = .ok (.bipush 12, 2) := by decide +kernel
theorem dL_areInOrder_50 : decode cL_areInOrder 50 = .ok (.invokevirtual 27, 3) := by decide +kernel
theorem dL_areInOrder_53 : decode cL_areInOrder 53 = .ok (.iadd, 1) := by decide +kernel
theorem dL_areInOrder_54 : decode cL_areInOrder 54 = .ok (.istore_n 3, 1) := by decide +kernel
theorem dL_areInOrder_55 : decode cL_areInOrder 55 = .ok (.iload 4, 2) := by decide +kernel
theorem dL_areInOrder_57 : decode cL_areInOrder 57 = .ok (.aload_n 0, 1) := by decide +kernel
theorem dL_areInOrder_58 : decode cL_areInOrder 58 = .ok (.iload 5, 2) := by decide +kernel
theorem dL_areInOrder_60 : decode cL_areInOrder 60 = .ok (.bipush 13, 2) := by decide +kernel
theorem dL_areInOrder_62 : decode cL_areInOrder 62 = .ok (.invokevirtual 27, 3) := by decide +kernel
theorem dL_areInOrder_65 : decode cL_areInOrder 65 = .ok (.iadd, 1) := by decide +kernel
theorem dL_areInOrder_66 : decode cL_areInOrder 66 = .ok (.istore 4, 2) := by decide +kernel
theorem dL_areInOrder_68 : decode cL_areInOrder 68 = .ok (.iinc 5 1, 3) := by decide +kernel
theorem dL_areInOrder_71 : decode cL_areInOrder 71 = .ok (.goto (-59), 3) := by decide +kernel
theorem dL_areInOrder_74 : decode cL_areInOrder 74 = .ok (.iload_n 1, 1) := by decide +kernel
theorem dL_areInOrder_75 : decode cL_areInOrder 75 = .ok (.aload_n 0, 1) := by decide +kernel
theorem dL_areInOrder_76 : decode cL_areInOrder 76 = .ok (.iconst 4, 1) := by decide +kernel
theorem dL_areInOrder_77 : decode cL_areInOrder 77 = .ok (.invokevirtual 13, 3) := by decide +kernel
theorem dL_areInOrder_80 : decode cL_areInOrder 80 = .ok (.if_icmp .ne 37, 3) := by decide +kernel
theorem dL_areInOrder_83 : decode cL_areInOrder 83 = .ok (.iload_n 2, 1) := by decide +kernel
theorem dL_areInOrder_84 : decode cL_areInOrder 84 = .ok (.aload_n 0, 1) := by decide +kernel
theorem dL_areInOrder_85 : decode cL_areInOrder 85 = .ok (.iconst 5, 1) := by decide +kernel
theorem dL_areInOrder_86 : decode cL_areInOrder 86 = .ok (.invokevirtual 13, 3) := by decide +kernel
theorem dL_areInOrder_89 : decode cL_areInOrder 89 = .ok (.if_icmp .ne 28, 3) := by decide +kernel
theorem dL_areInOrder_92 : decode cL_areInOrder 92 = .ok (.iload_n 3, 1) := by decide +kernel
theorem dL_areInOrder_93 : decode cL_areInOrder 93 = .ok (.aload_n 0, 1) := by decide +kernel
theorem dL_areInOrder_94 : decode cL_areInOrder 94 = .ok (.bipush 6, 2) := by decide +kernel
theorem dL_areInOrder_96 : decode cL_areInOrder 96 = .ok (.invokevirtual 13, 3) := by decide +kernel
theorem dL_areInOrder_99 : decode cL_areInOrder 99 = .ok (.if_icmp .ne 18, 3) := by decide +kernel
theorem dL_areInOrder_102 : decode cL_areInOrder 102 = .ok (.iload 4, 2) := by decide +kernel
theorem dL_areInOrder_104 : decode cL_areInOrder 104 = .ok (.aload_n 0, 1) := by decide +kernel
theorem dL_areInOrder_105 : decode cL_areInOrder 105 = .ok (.bipush 7, 2) := by decide +kernel
theorem dL_areInOrder_107 : decode cL_areInOrder 107 = .ok (.invokevirtual 13, 3) := by decide +kernel
theorem dL_areInOrder_110 : decode cL_areInOrder 110 = .ok (.if_icmp .ne 7, 3) := by decide +kernel
theorem dL_areInOrder_113 : decode cL_areInOrder 113 = .ok (.iconst 1, 1) := by decide +kernel
theorem dL_areInOrder_114 : decode cL_areInOrder 114 = .ok (.goto 4, 3) := by decide +kernel
theorem dL_areInOrder_117 : decode cL_areInOrder 117 = .ok (.iconst 0, 1) := by decide +kernel
theorem dL_areInOrder_118 : decode cL_areInOrder 118 = .ok (.istore 5, 2) := by decide +kernel
theorem dL_areInOrder_120 : decode cL_areInOrder 120 = .ok (.iconst 1, 1) := by decide +kernel
theorem dL_areInOrder_121 : decode cL_areInOrder 121 = .ok (.istore 6, 2) := by decide +kernel
theorem dL_areInOrder_123 : decode cL_areInOrder 123 = .ok (.iload 6, 2) := by decide +kernel
theorem dL_areInOrder_125 : decode cL_areInOrder 125 = .ok (.iload_n 1, 1) := by decide +kernel
theorem dL_areInOrder_126 : decode cL_areInOrder 126 = .ok (.if_icmp .ge 69, 3) := by decide +kernel
theorem dL_areInOrder_129 : decode cL_areInOrder 129 = .ok (.iload 5, 2) := by decide +kernel
theorem dL_areInOrder_131 : decode cL_areInOrder 131 = .ok (.ifCond .eq 64, 3) := by decide +kernel
theorem dL_areInOrder_134 : decode cL_areInOrder 134 = .ok (.aload_n 0, 1) := by decide +kernel
theorem dL_areInOrder_135 : decode cL_areInOrder 135 = .ok (.iload 6, 2) := by decide +kernel
theorem dL_areInOrder_137 : decode cL_areInOrder 137 = .ok (.iconst 3, 1) := by decide +kernel
theorem dL_areInOrder_138 : decode cL_areInOrder 138 = .ok (.invokevirtual 34, 3) := by decide +kernel
theorem dL_areInOrder_141 : decode cL_areInOrder 141 = .ok (.aload_n 0, 1) := by decide +kernel
theorem dL_areInOrder_142 : decode cL_areInOrder 142 = .ok (.iload 6, 2) := by decide +kernel
theorem dL_areInOrder_144 : decode cL_areInOrder 144 = .ok (.iconst 1, 1) := by decide +kernel
theorem dL_areInOrder_145 : decode cL_areInOrder 145 = .ok (.isub, 1) := by decide +kernel
theorem dL_areInOrder_146 : decode cL_areInOrder 146 = .ok (.iconst 3, 1) := by decide +kernel
theorem dL_areInOrder_147 : decode cL_areInOrder 147 = .ok (.invokevirtual 34, 3) := by decide +kernel
theorem dL_areInOrder_150 : decode cL_areInOrder 150 = .ok (.isub, 1) := by decide +kernel
theorem dL_areInOrder_151 : decode cL_areInOrder 151 = .ok (.istore 7, 2) := by decide +kernel
theorem dL_areInOrder_153 : decode cL_areInOrder 153 = .ok (.iload 7, 2) := by decide +kernel
theorem dL_areInOrder_155 : decode cL_areInOrder 155 = .ok (.ifCond .gt 27, 3) := by decide +kernel
theorem dL_areInOrder_158 : decode cL_areInOrder 158 = .ok (.iload 7, 2) := by decide +kernel
theorem dL_areInOrder_160 : decode cL_areInOrder 160 = .ok (.ifCond .ne 26, 3) := by decide +kernel
theorem dL_areInOrder_163 : decode cL_areInOrder 163 = .ok (.aload_n 0, 1) := by decide +kernel
theorem dL_areInOrder_164 : decode cL_areInOrder 164 = .ok (.iload 6, 2) := by decide +kernel
theorem dL_areInOrder_166 : decode cL_areInOrder 166 = .ok (.iconst 0, 1) := by decide +kernel
theorem dL_areInOrder_167 : decode cL_areInOrder 167 = .ok (.invokevirtual 34, 3) := by decide +kernel
theorem dL_areInOrder_170 : decode cL_areInOrder 170 = .ok (.aload_n 0, 1) := by decide +kernel
theorem dL_areInOrder_171 : decode cL_areInOrder 171 = .ok (.iload 6, 2) := by decide +kernel
theorem dL_areInOrder_173 : decode cL_areInOrder 173 = .ok (.iconst 1, 1) := by decide +kernel
theorem dL_areInOrder_174 : decode cL_areInOrder 174 = .ok (.isub, 1) := by decide +kernel
theorem dL_areInOrder_175 : decode cL_areInOrder 175 = .ok (.iconst 0, 1) := by decide +kernel
theorem dL_areInOrder_176 : decode cL_areInOrder 176 = .ok (.invokevirtual 34, 3) := by decide +kernel
theorem dL_areInOrder_179 : decode cL_areInOrder 179 = .ok (.if_icmp .lt 7, 3) := by decide +kernel
theorem dL_areInOrder_182 : decode cL_areInOrder 182 = .ok (.iconst 1, 1) := by decide +kernel
theorem dL_areInOrder_183 : decode cL_areInOrder 183 = .ok (.goto 4, 3) := by decide +kernel
theorem dL_areInOrder_186 : decode cL_areInOrder 186 = .ok (.iconst 0, 1) := by decide +kernel
theorem dL_areInOrder_187 : decode cL_areInOrder 187 = .ok (.istore 5, 2) := by decide +kernel
theorem dL_areInOrder_189 : decode cL_areInOrder 189 = .ok (.iinc 6 1, 3) := by decide +kernel
theorem dL_areInOrder_192 : decode cL_areInOrder 192 = .ok (.goto (-69), 3) := by decide +kernel
theorem dL_areInOrder_195 : decode cL_areInOrder 195 = .ok (.iload 5, 2) := by decide +kernel
theorem dL_areInOrder_197 : decode cL_areInOrder 197 = .ok (.ireturn, 1) := by decide +kernel
theorem dL_isUndone_0 : decode cL_isUndone 0 = .ok (.aload_n 0, 1) := by decide +kernel
theorem dL_isUndone_1 : decode cL_isUndone 1 = .ok (.bipush 10, 2) := by decide +kernel
theorem dL_isUndone_3 : decode cL_isUndone 3 = .ok (.invokevirtual 13, 3) := by decide +kernel
theorem dL_isUndone_6 : decode cL_isUndone 6 = .ok (.istore 7, 2) := by decide +kernel
theorem dL_isUndone_8 : decode cL_isUndone 8 = .ok (.aload_n 0, 1) := by decide +kernel
theorem dL_isUndone_9 : decode cL_isUndone 9 = .ok (.invokevirtual 86, 3) := by decide +kernel
theorem dL_isUndone_12 : decode cL_isUndone 12 = .ok (.iload 7, 2) := by decide +kernel
theorem dL_isUndone_14 : decode cL_isUndone 14 = .ok (.iconst 1, 1) := by decide +kernel
theorem dL_isUndone_15 : decode cL_isUndone 15 = .ok (.isub, 1) := by decide +kernel
theorem dL_isUndone_16 : decode cL_isUndone 16 = .ok (.if_icmp .ne 53, 3) := by decide +kernel
theorem dL_isUndone_19 : decode cL_isUndone 19 = .ok (.aload_n 0, 1) := by decide +kernel
theorem dL_isUndone_20 : decode cL_isUndone 20 = .ok (.bipush 10, 2) := by decide +kernel
theorem dL_isUndone_22 : decode cL_isUndone 22 = .ok (.invokevirtual 13, 3) := by decide +kernel
theorem dL_isUndone_25 : decode cL_isUndone 25 = .ok (.iload 7, 2) := by decide +kernel
theorem dL_isUndone_27 : decode cL_isUndone 27 = .ok (.iconst 1, 1) := by decide +kernel
theorem dL_isUndone_28 : decode cL_isUndone 28 = .ok (.isub, 1) := by decide +kernel
theorem dL_isUndone_29 : decode cL_isUndone 29 = .ok (.if_icmp .ne 40, 3) := by decide +kernel
theorem dL_isUndone_32 : decode cL_isUndone 32 = .ok (.aload_n 0, 1) := by decide +kernel
theorem dL_isUndone_33 : decode cL_isUndone 33 = .ok (.invokestatic 90, 3) := by decide +kernel
theorem dL_isUndone_36 : decode cL_isUndone 36 = .ok (.lload 5, 2) := by decide +kernel
theorem dL_isUndone_38 : decode cL_isUndone 38 = .ok (.lcmp, 1) := by decide +kernel
theorem dL_isUndone_39 : decode cL_isUndone 39 = .ok (.ifCond .ne 30, 3) := by decide +kernel
theorem dL_isUndone_42 : decode cL_isUndone 42 = .ok (.aload_n 0, 1) := by decide +kernel
theorem dL_isUndone_43 : decode cL_isUndone 43 = .ok (.iload_n 1, 1) := by decide +kernel
theorem dL_isUndone_44 : decode cL_isUndone 44 = .ok (.iload_n 2, 1) := by decide +kernel
theorem dL_isUndone_45 : decode cL_isUndone 45 = .ok (.iload_n 3, 1) := by decide +kernel
theorem dL_isUndone_46 : decode cL_isUndone 46 = .ok (.invokestatic 94, 3) := by decide +kernel
theorem dL_isUndone_49 : decode cL_isUndone 49 = .ok (.iload 4, 2) := by decide +kernel
theorem dL_isUndone_51 : decode cL_isUndone 51 = .ok (.if_icmp .ne 18, 3) := by decide +kernel
theorem dL_isUndone_54 : decode cL_isUndone 54 = .ok (.aload_n 0, 1) := by decide +kernel
theorem dL_isUndone_55 : decode cL_isUndone 55 = .ok (.bipush 10, 2) := by decide +kernel
theorem dL_isUndone_57 : decode cL_isUndone 57 = .ok (.invokevirtual 13, 3) := by decide +kernel
theorem dL_isUndone_60 : decode cL_isUndone 60 = .ok (.iload 7, 2) := by decide +kernel
theorem dL_isUndone_62 : decode cL_isUndone 62 = .ok (.if_icmp .ne 7, 3) := by decide +kernel
theorem dL_isUndone_65 : decode cL_isUndone 65 = .ok (.iconst 1, 1) := by decide +kernel
theorem dL_isUndone_66 : decode cL_isUndone 66 = .ok (.goto 4, 3) := by decide +kernel
theorem dL_isUndone_69 : decode cL_isUndone 69 = .ok (.iconst 0, 1) := by decide +kernel
theorem dL_isUndone_70 : decode cL_isUndone 70 = .ok (.ireturn, 1) := by decide +kernel
theorem dL_isSaved_0 : decode cL_isSaved 0 = .ok (.aload_n 0, 1) := by decide +kernel
theorem dL_isSaved_1 : decode cL_isSaved 1 = .ok (.invokestatic 90, 3) := by decide +kernel
theorem dL_isSaved_4 : decode cL_isSaved 4 = .ok (.lstore_n 3, 1) := by decide +kernel
theorem dL_isSaved_5 : decode cL_isSaved 5 = .ok (.aload_n 0, 1) := by decide +kernel
theorem dL_isSaved_6 : decode cL_isSaved 6 = .ok (.bipush 10, 2) := by decide +kernel
theorem dL_isSaved_8 : decode cL_isSaved 8 = .ok (.invokevirtual 13, 3) := by decide +kernel
theorem dL_isSaved_11 : decode cL_isSaved 11 = .ok (.istore 5, 2) := by decide +kernel
theorem dL_isSaved_13 : decode cL_isSaved 13 = .ok (.aload_n 0, 1) := by decide +kernel
theorem dL_isSaved_14 : decode cL_isSaved 14 = .ok (.iload_n 1, 1) := by decide +kernel
theorem dL_isSaved_15 : decode cL_isSaved 15 = .ok (.iconst 1, 1) := by decide +kernel
theorem dL_isSaved_16 : decode cL_isSaved 16 = .ok (.iand, 1) := by decide +kernel
theorem dL_isSaved_17 : decode cL_isSaved 17 = .ok (.invokevirtual 98, 3) := by decide +kernel
theorem dL_isSaved_20 : decode cL_isSaved 20 = .ok (.aload_n 0, 1) := by decide +kernel
theorem dL_isSaved_21 : decode cL_isSaved 21 = .ok (.iconst 0, 1) := by decide +kernel
theorem dL_isSaved_22 : decode cL_isSaved 22 = .ok (.invokevirtual 13, 3) := by decide +kernel
theorem dL_isSaved_25 : decode cL_isSaved 25 = .ok (.if_icmp .ne 14, 3) := by decide +kernel
theorem dL_isSaved_28 : decode cL_isSaved 28 = .ok (.aload_n 0, 1) := by decide +kernel
theorem dL_isSaved_29 : decode cL_isSaved 29 = .ok (.bipush 10, 2) := by decide +kernel
theorem dL_isSaved_31 : decode cL_isSaved 31 = .ok (.invokevirtual 13, 3) := by decide +kernel
theorem dL_isSaved_34 : decode cL_isSaved 34 = .ok (.iload 5, 2) := by decide +kernel
theorem dL_isSaved_36 : decode cL_isSaved 36 = .ok (.if_icmp .eq 5, 3) := by decide +kernel
theorem dL_isSaved_39 : decode cL_isSaved 39 = .ok (.iconst 0, 1) := by decide +kernel
theorem dL_isSaved_40 : decode cL_isSaved 40 = .ok (.ireturn, 1) := by decide +kernel
theorem dL_isSaved_41 : decode cL_isSaved 41 = .ok (.aload_n 0, 1) := by decide +kernel
theorem dL_isSaved_42 : decode cL_isSaved 42 = .ok (.iload_n 2, 1) := by decide +kernel
theorem dL_isSaved_43 : decode cL_isSaved 43 = .ok (.bipush 14, 2) := by decide +kernel
theorem dL_isSaved_45 : decode cL_isSaved 45 = .ok (.invokestatic 37, 3) := by decide +kernel
theorem dL_isSaved_48 : decode cL_isSaved 48 = .ok (.iload_n 2, 1) := by decide +kernel
theorem dL_isSaved_49 : decode cL_isSaved 49 = .ok (.iload_n 1, 1) := by decide +kernel
theorem dL_isSaved_50 : decode cL_isSaved 50 = .ok (.invokestatic 94, 3) := by decide +kernel
theorem dL_isSaved_53 : decode cL_isSaved 53 = .ok (.pop, 1) := by decide +kernel
theorem dL_isSaved_54 : decode cL_isSaved 54 = .ok (.aload_n 0, 1) := by decide +kernel
theorem dL_isSaved_55 : decode cL_isSaved 55 = .ok (.iload_n 1, 1) := by decide +kernel
theorem dL_isSaved_56 : decode cL_isSaved 56 = .ok (.iconst 1, 1) := by decide +kernel
theorem dL_isSaved_57 : decode cL_isSaved 57 = .ok (.iand, 1) := by decide +kernel
theorem dL_isSaved_58 : decode cL_isSaved 58 = .ok (.invokevirtual 101, 3) := by decide +kernel
theorem dL_isSaved_61 : decode cL_isSaved 61 = .ok (.aload_n 0, 1) := by decide +kernel
theorem dL_isSaved_62 : decode cL_isSaved 62 = .ok (.iconst 0, 1) := by decide +kernel
theorem dL_isSaved_63 : decode cL_isSaved 63 = .ok (.invokevirtual 13, 3) := by decide +kernel
theorem dL_isSaved_66 : decode cL_isSaved 66 = .ok (.if_icmp .ne 16, 3) := by decide +kernel
theorem dL_isSaved_69 : decode cL_isSaved 69 = .ok (.aload_n 0, 1) := by decide +kernel
theorem dL_isSaved_70 : decode cL_isSaved 70 = .ok (.invokestatic 90, 3) := by decide +kernel
theorem dL_isSaved_73 : decode cL_isSaved 73 = .ok (.lload_n 3, 1) := by decide +kernel
theorem dL_isSaved_74 : decode cL_isSaved 74 = .ok (.lcmp, 1) := by decide +kernel
theorem dL_isSaved_75 : decode cL_isSaved 75 = .ok (.ifCond .ne 7, 3) := by decide +kernel
theorem dL_isSaved_78 : decode cL_isSaved 78 = .ok (.iconst 1, 1) := by decide +kernel
theorem dL_isSaved_79 : decode cL_isSaved 79 = .ok (.goto 4, 3) := by decide +kernel
theorem dL_isSaved_82 : decode cL_isSaved 82 = .ok (.iconst 0, 1) := by decide +kernel
theorem dL_isSaved_83 : decode cL_isSaved 83 = .ok (.ireturn, 1) := by decide +kernel
theorem dL_asks_0 : decode cL_asks 0 = .ok (.aload_n 0, 1) := by decide +kernel
theorem dL_asks_1 : decode cL_asks 1 = .ok (.invokestatic 90, 3) := by decide +kernel
theorem dL_asks_4 : decode cL_asks 4 = .ok (.lstore_n 3, 1) := by decide +kernel
theorem dL_asks_5 : decode cL_asks 5 = .ok (.aload_n 0, 1) := by decide +kernel
theorem dL_asks_6 : decode cL_asks 6 = .ok (.bipush 10, 2) := by decide +kernel
theorem dL_asks_8 : decode cL_asks 8 = .ok (.invokevirtual 13, 3) := by decide +kernel
theorem dL_asks_11 : decode cL_asks 11 = .ok (.istore 5, 2) := by decide +kernel
theorem dL_asks_13 : decode cL_asks 13 = .ok (.aload_n 0, 1) := by decide +kernel
theorem dL_asks_14 : decode cL_asks 14 = .ok (.iload_n 1, 1) := by decide +kernel
theorem dL_asks_15 : decode cL_asks 15 = .ok (.iconst 4, 1) := by decide +kernel
theorem dL_asks_16 : decode cL_asks 16 = .ok (.invokestatic 37, 3) := by decide +kernel
theorem dL_asks_19 : decode cL_asks 19 = .ok (.iconst 1, 1) := by decide +kernel
theorem dL_asks_20 : decode cL_asks 20 = .ok (.iload_n 2, 1) := by decide +kernel
theorem dL_asks_21 : decode cL_asks 21 = .ok (.bipush 30, 2) := by decide +kernel
theorem dL_asks_23 : decode cL_asks 23 = .ok (.invokestatic 37, 3) := by decide +kernel
theorem dL_asks_26 : decode cL_asks 26 = .ok (.iadd, 1) := by decide +kernel
theorem dL_asks_27 : decode cL_asks 27 = .ok (.invokevirtual 104, 3) := by decide +kernel
theorem dL_asks_30 : decode cL_asks 30 = .ok (.pop2, 1) := by decide +kernel
theorem dL_asks_31 : decode cL_asks 31 = .ok (.aload_n 0, 1) := by decide +kernel
theorem dL_asks_32 : decode cL_asks 32 = .ok (.iload_n 1, 1) := by decide +kernel
theorem dL_asks_33 : decode cL_asks 33 = .ok (.iconst 4, 1) := by decide +kernel
theorem dL_asks_34 : decode cL_asks 34 = .ok (.invokestatic 37, 3) := by decide +kernel
theorem dL_asks_37 : decode cL_asks 37 = .ok (.iconst 1, 1) := by decide +kernel
theorem dL_asks_38 : decode cL_asks 38 = .ok (.iload_n 2, 1) := by decide +kernel
theorem dL_asks_39 : decode cL_asks 39 = .ok (.bipush 30, 2) := by decide +kernel
theorem dL_asks_41 : decode cL_asks 41 = .ok (.invokestatic 37, 3) := by decide +kernel
theorem dL_asks_44 : decode cL_asks 44 = .ok (.iadd, 1) := by decide +kernel
theorem dL_asks_45 : decode cL_asks 45 = .ok (.iload_n 2, 1) := by decide +kernel
theorem dL_asks_46 : decode cL_asks 46 = .ok (.iconst 3, 1) := by decide +kernel
theorem dL_asks_47 : decode cL_asks 47 = .ok (.iand, 1) := by decide +kernel
theorem dL_asks_48 : decode cL_asks 48 = .ok (.invokevirtual 107, 3) := by decide +kernel
theorem dL_asks_51 : decode cL_asks 51 = .ok (.pop, 1) := by decide +kernel
theorem dL_asks_52 : decode cL_asks 52 = .ok (.aload_n 0, 1) := by decide +kernel
theorem dL_asks_53 : decode cL_asks 53 = .ok (.iload_n 1, 1) := by decide +kernel
theorem dL_asks_54 : decode cL_asks 54 = .ok (.iconst 4, 1) := by decide +kernel
theorem dL_asks_55 : decode cL_asks 55 = .ok (.invokestatic 37, 3) := by decide +kernel
theorem dL_asks_58 : decode cL_asks 58 = .ok (.iconst 1, 1) := by decide +kernel
theorem dL_asks_59 : decode cL_asks 59 = .ok (.iload_n 2, 1) := by decide +kernel
theorem dL_asks_60 : decode cL_asks 60 = .ok (.iconst 5, 1) := by decide +kernel
theorem dL_asks_61 : decode cL_asks 61 = .ok (.invokestatic 37, 3) := by decide +kernel
theorem dL_asks_64 : decode cL_asks 64 = .ok (.iadd, 1) := by decide +kernel
theorem dL_asks_65 : decode cL_asks 65 = .ok (.invokevirtual 110, 3) := by decide +kernel
theorem dL_asks_68 : decode cL_asks 68 = .ok (.pop, 1) := by decide +kernel
theorem dL_asks_69 : decode cL_asks 69 = .ok (.aload_n 0, 1) := by decide +kernel
theorem dL_asks_70 : decode cL_asks 70 = .ok (.invokestatic 90, 3) := by decide +kernel
theorem dL_asks_73 : decode cL_asks 73 = .ok (.lload_n 3, 1) := by decide +kernel
theorem dL_asks_74 : decode cL_asks 74 = .ok (.lcmp, 1) := by decide +kernel
theorem dL_asks_75 : decode cL_asks 75 = .ok (.ifCond .ne 18, 3) := by decide +kernel
theorem dL_asks_78 : decode cL_asks 78 = .ok (.aload_n 0, 1) := by decide +kernel
theorem dL_asks_79 : decode cL_asks 79 = .ok (.bipush 10, 2) := by decide +kernel
theorem dL_asks_81 : decode cL_asks 81 = .ok (.invokevirtual 13, 3) := by decide +kernel
theorem dL_asks_84 : decode cL_asks 84 = .ok (.iload 5, 2) := by decide +kernel
theorem dL_asks_86 : decode cL_asks 86 = .ok (.if_icmp .ne 7, 3) := by decide +kernel
theorem dL_asks_89 : decode cL_asks 89 = .ok (.iconst 1, 1) := by decide +kernel
theorem dL_asks_90 : decode cL_asks 90 = .ok (.goto 4, 3) := by decide +kernel
theorem dL_asks_93 : decode cL_asks 93 = .ok (.iconst 0, 1) := by decide +kernel
theorem dL_asks_94 : decode cL_asks 94 = .ok (.ireturn, 1) := by decide +kernel
theorem dL_law_0 : decode cL_law 0 = .ok (.new 14, 3) := by decide +kernel
theorem dL_law_3 : decode cL_law 3 = .ok (.dup, 1) := by decide +kernel
theorem dL_law_4 : decode cL_law 4 = .ok (.invokespecial 113, 3) := by decide +kernel
theorem dL_law_7 : decode cL_law 7 = .ok (.astore_n 1, 1) := by decide +kernel
theorem dL_law_8 : decode cL_law 8 = .ok (.aload_n 0, 1) := by decide +kernel
theorem dL_law_9 : decode cL_law 9 = .ok (.arraylength, 1) := by decide +kernel
theorem dL_law_10 : decode cL_law 10 = .ok (.iconst 3, 1) := by decide +kernel
theorem dL_law_11 : decode cL_law 11 = .ok (.idiv, 1) := by decide +kernel
theorem dL_law_12 : decode cL_law 12 = .ok (.bipush 32, 2) := by decide +kernel
theorem dL_law_14 : decode cL_law 14 = .ok (.if_icmp .ge 10, 3) := by decide +kernel
theorem dL_law_17 : decode cL_law 17 = .ok (.aload_n 0, 1) := by decide +kernel
theorem dL_law_18 : decode cL_law 18 = .ok (.arraylength, 1) := by decide +kernel
theorem dL_law_19 : decode cL_law 19 = .ok (.iconst 3, 1) := by decide +kernel
theorem dL_law_20 : decode cL_law 20 = .ok (.idiv, 1) := by decide +kernel
theorem dL_law_21 : decode cL_law 21 = .ok (.goto 5, 3) := by decide +kernel
theorem dL_law_24 : decode cL_law 24 = .ok (.bipush 32, 2) := by decide +kernel
theorem dL_law_26 : decode cL_law 26 = .ok (.istore_n 2, 1) := by decide +kernel
theorem dL_law_27 : decode cL_law 27 = .ok (.iconst 0, 1) := by decide +kernel
theorem dL_law_28 : decode cL_law 28 = .ok (.istore_n 3, 1) := by decide +kernel
theorem dL_law_29 : decode cL_law 29 = .ok (.iload_n 3, 1) := by decide +kernel
theorem dL_law_30 : decode cL_law 30 = .ok (.iload_n 2, 1) := by decide +kernel
theorem dL_law_31 : decode cL_law 31 = .ok (.if_icmp .ge 237, 3) := by decide +kernel
theorem dL_law_34 : decode cL_law 34 = .ok (.aload_n 0, 1) := by decide +kernel
theorem dL_law_35 : decode cL_law 35 = .ok (.iconst 3, 1) := by decide +kernel
theorem dL_law_36 : decode cL_law 36 = .ok (.iload_n 3, 1) := by decide +kernel
theorem dL_law_37 : decode cL_law 37 = .ok (.imul, 1) := by decide +kernel
theorem dL_law_38 : decode cL_law 38 = .ok (.invokestatic 114, 3) := by decide +kernel
theorem dL_law_41 : decode cL_law 41 = .ok (.istore 4, 2) := by decide +kernel
theorem dL_law_43 : decode cL_law 43 = .ok (.aload_n 0, 1) := by decide +kernel
theorem dL_law_44 : decode cL_law 44 = .ok (.iconst 3, 1) := by decide +kernel
theorem dL_law_45 : decode cL_law 45 = .ok (.iload_n 3, 1) := by decide +kernel
theorem dL_law_46 : decode cL_law 46 = .ok (.imul, 1) := by decide +kernel
theorem dL_law_47 : decode cL_law 47 = .ok (.iconst 1, 1) := by decide +kernel
theorem dL_law_48 : decode cL_law 48 = .ok (.iadd, 1) := by decide +kernel
theorem dL_law_49 : decode cL_law 49 = .ok (.invokestatic 114, 3) := by decide +kernel
theorem dL_law_52 : decode cL_law 52 = .ok (.istore 5, 2) := by decide +kernel
theorem dL_law_54 : decode cL_law 54 = .ok (.aload_n 0, 1) := by decide +kernel
theorem dL_law_55 : decode cL_law 55 = .ok (.iconst 3, 1) := by decide +kernel
theorem dL_law_56 : decode cL_law 56 = .ok (.iload_n 3, 1) := by decide +kernel
theorem dL_law_57 : decode cL_law 57 = .ok (.imul, 1) := by decide +kernel
theorem dL_law_58 : decode cL_law 58 = .ok (.iconst 2, 1) := by decide +kernel
theorem dL_law_59 : decode cL_law 59 = .ok (.iadd, 1) := by decide +kernel
theorem dL_law_60 : decode cL_law 60 = .ok (.invokestatic 114, 3) := by decide +kernel
theorem dL_law_63 : decode cL_law 63 = .ok (.istore 6, 2) := by decide +kernel
theorem dL_law_65 : decode cL_law 65 = .ok (.iload_n 3, 1) := by decide +kernel
theorem dL_law_66 : decode cL_law 66 = .ok (.iconst 3, 1) := by decide +kernel
theorem dL_law_67 : decode cL_law 67 = .ok (.if_icmp .ge 7, 3) := by decide +kernel
theorem dL_law_70 : decode cL_law 70 = .ok (.iconst 2, 1) := by decide +kernel
theorem dL_law_71 : decode cL_law 71 = .ok (.goto 8, 3) := by decide +kernel
theorem dL_law_74 : decode cL_law 74 = .ok (.iload 4, 2) := by decide +kernel
theorem dL_law_76 : decode cL_law 76 = .ok (.bipush 15, 2) := by decide +kernel
theorem dL_law_78 : decode cL_law 78 = .ok (.iand, 1) := by decide +kernel
theorem dL_law_79 : decode cL_law 79 = .ok (.istore 7, 2) := by decide +kernel
theorem dL_law_81 : decode cL_law 81 = .ok (.aload_n 1, 1) := by decide +kernel
theorem dL_law_82 : decode cL_law 82 = .ok (.invokestatic 90, 3) := by decide +kernel
theorem dL_law_85 : decode cL_law 85 = .ok (.lstore 8, 2) := by decide +kernel
theorem dL_law_87 : decode cL_law 87 = .ok (.aload_n 1, 1) := by decide +kernel
theorem dL_law_88 : decode cL_law 88 = .ok (.bipush 10, 2) := by decide +kernel
theorem dL_law_90 : decode cL_law 90 = .ok (.invokevirtual 13, 3) := by decide +kernel
theorem dL_law_93 : decode cL_law 93 = .ok (.istore 10, 2) := by decide +kernel
theorem dL_law_95 : decode cL_law 95 = .ok (.aload_n 1, 1) := by decide +kernel
theorem dL_law_96 : decode cL_law 96 = .ok (.iload 7, 2) := by decide +kernel
theorem dL_law_98 : decode cL_law 98 = .ok (.iload 5, 2) := by decide +kernel
theorem dL_law_100 : decode cL_law 100 = .ok (.iload 6, 2) := by decide +kernel
theorem dL_law_102 : decode cL_law 102 = .ok (.invokestatic 94, 3) := by decide +kernel
theorem dL_law_105 : decode cL_law 105 = .ok (.istore 11, 2) := by decide +kernel
theorem dL_law_107 : decode cL_law 107 = .ok (.iload 11, 2) := by decide +kernel
theorem dL_law_109 : decode cL_law 109 = .ok (.bipush (-6), 2) := by decide +kernel
theorem dL_law_111 : decode cL_law 111 = .ok (.if_icmp .ne 7, 3) := by decide +kernel
theorem dL_law_114 : decode cL_law 114 = .ok (.iconst 1, 1) := by decide +kernel
theorem dL_law_115 : decode cL_law 115 = .ok (.goto 4, 3) := by decide +kernel
theorem dL_law_118 : decode cL_law 118 = .ok (.iconst 0, 1) := by decide +kernel
theorem dL_law_119 : decode cL_law 119 = .ok (.istore 12, 2) := by decide +kernel
theorem dL_law_121 : decode cL_law 121 = .ok (.iload 11, 2) := by decide +kernel
theorem dL_law_123 : decode cL_law 123 = .ok (.ifCond .ge 31, 3) := by decide +kernel
theorem dL_law_126 : decode cL_law 126 = .ok (.iload 12, 2) := by decide +kernel
theorem dL_law_128 : decode cL_law 128 = .ok (.ifCond .ne 26, 3) := by decide +kernel
theorem dL_law_131 : decode cL_law 131 = .ok (.aload_n 1, 1) := by decide +kernel
theorem dL_law_132 : decode cL_law 132 = .ok (.invokestatic 90, 3) := by decide +kernel
theorem dL_law_135 : decode cL_law 135 = .ok (.lload 8, 2) := by decide +kernel
theorem dL_law_137 : decode cL_law 137 = .ok (.lcmp, 1) := by decide +kernel
theorem dL_law_138 : decode cL_law 138 = .ok (.ifCond .ne 14, 3) := by decide +kernel
theorem dL_law_141 : decode cL_law 141 = .ok (.aload_n 1, 1) := by decide +kernel
theorem dL_law_142 : decode cL_law 142 = .ok (.bipush 10, 2) := by decide +kernel
theorem dL_law_144 : decode cL_law 144 = .ok (.invokevirtual 13, 3) := by decide +kernel
theorem dL_law_147 : decode cL_law 147 = .ok (.iload 10, 2) := by decide +kernel
theorem dL_law_149 : decode cL_law 149 = .ok (.if_icmp .eq 57, 3) := by decide +kernel
theorem dL_law_152 : decode cL_law 152 = .ok (.iconst 0, 1) := by decide +kernel
theorem dL_law_153 : decode cL_law 153 = .ok (.ireturn, 1) := by decide +kernel
theorem dL_law_154 : decode cL_law 154 = .ok (.aload_n 1, 1) := by decide +kernel
theorem dL_law_155 : decode cL_law 155 = .ok (.bipush 10, 2) := by decide +kernel
theorem dL_law_157 : decode cL_law 157 = .ok (.invokevirtual 13, 3) := by decide +kernel
theorem dL_law_160 : decode cL_law 160 = .ok (.iload 10, 2) := by decide +kernel
theorem dL_law_162 : decode cL_law 162 = .ok (.bipush 6, 2) := by decide +kernel
theorem dL_law_164 : decode cL_law 164 = .ok (.if_icmp .ge 10, 3) := by decide +kernel
theorem dL_law_167 : decode cL_law 167 = .ok (.iload 10, 2) := by decide +kernel
theorem dL_law_169 : decode cL_law 169 = .ok (.iconst 1, 1) := by decide +kernel
theorem dL_law_170 : decode cL_law 170 = .ok (.iadd, 1) := by decide +kernel
theorem dL_law_171 : decode cL_law 171 = .ok (.goto 5, 3) := by decide +kernel
theorem dL_law_174 : decode cL_law 174 = .ok (.bipush 6, 2) := by decide +kernel
theorem dL_law_176 : decode cL_law 176 = .ok (.if_icmp .ne 28, 3) := by decide +kernel
theorem dL_law_179 : decode cL_law 179 = .ok (.iload 4, 2) := by decide +kernel
theorem dL_law_181 : decode cL_law 181 = .ok (.bipush 16, 2) := by decide +kernel
theorem dL_law_183 : decode cL_law 183 = .ok (.iand, 1) := by decide +kernel
theorem dL_law_184 : decode cL_law 184 = .ok (.ifCond .ne 22, 3) := by decide +kernel
theorem dL_law_187 : decode cL_law 187 = .ok (.aload_n 1, 1) := by decide +kernel
theorem dL_law_188 : decode cL_law 188 = .ok (.iload 7, 2) := by decide +kernel
theorem dL_law_190 : decode cL_law 190 = .ok (.iload 5, 2) := by decide +kernel
theorem dL_law_192 : decode cL_law 192 = .ok (.iload 6, 2) := by decide +kernel
theorem dL_law_194 : decode cL_law 194 = .ok (.iload 11, 2) := by decide +kernel
theorem dL_law_196 : decode cL_law 196 = .ok (.lload 8, 2) := by decide +kernel
theorem dL_law_198 : decode cL_law 198 = .ok (.invokestatic 118, 3) := by decide +kernel
theorem dL_law_201 : decode cL_law 201 = .ok (.ifCond .ne 5, 3) := by decide +kernel
theorem dL_law_204 : decode cL_law 204 = .ok (.iconst 0, 1) := by decide +kernel
theorem dL_law_205 : decode cL_law 205 = .ok (.ireturn, 1) := by decide +kernel
theorem dL_law_206 : decode cL_law 206 = .ok (.iload 4, 2) := by decide +kernel
theorem dL_law_208 : decode cL_law 208 = .ok (.bipush 96, 2) := by decide +kernel
theorem dL_law_210 : decode cL_law 210 = .ok (.iand, 1) := by decide +kernel
theorem dL_law_211 : decode cL_law 211 = .ok (.ifCond .ne 14, 3) := by decide +kernel
theorem dL_law_214 : decode cL_law 214 = .ok (.aload_n 1, 1) := by decide +kernel
theorem dL_law_215 : decode cL_law 215 = .ok (.iload 5, 2) := by decide +kernel
theorem dL_law_217 : decode cL_law 217 = .ok (.iload 6, 2) := by decide +kernel
theorem dL_law_219 : decode cL_law 219 = .ok (.invokestatic 122, 3) := by decide +kernel
theorem dL_law_222 : decode cL_law 222 = .ok (.ifCond .eq 38, 3) := by decide +kernel
theorem dL_law_225 : decode cL_law 225 = .ok (.iload 4, 2) := by decide +kernel
theorem dL_law_227 : decode cL_law 227 = .ok (.bipush 96, 2) := by decide +kernel
theorem dL_law_229 : decode cL_law 229 = .ok (.iand, 1) := by decide +kernel
theorem dL_law_230 : decode cL_law 230 = .ok (.bipush 32, 2) := by decide +kernel
theorem dL_law_232 : decode cL_law 232 = .ok (.if_icmp .ne 14, 3) := by decide +kernel
theorem dL_law_235 : decode cL_law 235 = .ok (.aload_n 1, 1) := by decide +kernel
theorem dL_law_236 : decode cL_law 236 = .ok (.iload 5, 2) := by decide +kernel
theorem dL_law_238 : decode cL_law 238 = .ok (.iload 6, 2) := by decide +kernel
theorem dL_law_240 : decode cL_law 240 = .ok (.invokestatic 126, 3) := by decide +kernel
theorem dL_law_243 : decode cL_law 243 = .ok (.ifCond .eq 17, 3) := by decide +kernel
theorem dL_law_246 : decode cL_law 246 = .ok (.aload_n 1, 1) := by decide +kernel
theorem dL_law_247 : decode cL_law 247 = .ok (.invokestatic 129, 3) := by decide +kernel
theorem dL_law_250 : decode cL_law 250 = .ok (.ifCond .eq 10, 3) := by decide +kernel
theorem dL_law_253 : decode cL_law 253 = .ok (.aload_n 1, 1) := by decide +kernel
theorem dL_law_254 : decode cL_law 254 = .ok (.invokestatic 133, 3) := by decide +kernel
theorem dL_law_257 : decode cL_law 257 = .ok (.ifCond .ne 5, 3) := by decide +kernel
theorem dL_law_260 : decode cL_law 260 = .ok (.iconst 0, 1) := by decide +kernel
theorem dL_law_261 : decode cL_law 261 = .ok (.ireturn, 1) := by decide +kernel
theorem dL_law_262 : decode cL_law 262 = .ok (.iinc 3 1, 3) := by decide +kernel
theorem dL_law_265 : decode cL_law 265 = .ok (.goto (-236), 3) := by decide +kernel
theorem dL_law_268 : decode cL_law 268 = .ok (.iconst 1, 1) := by decide +kernel
theorem dL_law_269 : decode cL_law 269 = .ok (.ireturn, 1) := by decide +kernel
