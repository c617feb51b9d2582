/-! decode rows -/
theorem dX5_mends_59 : decode cX5_mends 59 = .ok (.ireturn, 1) := by decide +kernel
theorem dX5_isSet_0 : decode cX5_isSet 0 = .ok (.iload_n 0, 1) := by decide +kernel
theorem dX5_isSet_1 : decode cX5_isSet 1 = .ok (.i2l, 1) := by decide +kernel
theorem dX5_isSet_2 : decode cX5_isSet 2 = .ok (.ldc2_w 103, 3) := by decide +kernel
theorem dX5_isSet_5 : decode cX5_isSet 5 = .ok (.ldc2_w 160, 3) := by decide +kernel
theorem dX5_isSet_8 : decode cX5_isSet 8 = .ok (.invokestatic 53, 3) := by decide +kernel
theorem dX5_isSet_11 : decode cX5_isSet 11 = .ok (.ifCond .eq 13, 3) := by decide +kernel
theorem dX5_isSet_14 : decode cX5_isSet 14 = .ok (.iload_n 0, 1) := by decide +kernel
theorem dX5_isSet_15 : decode cX5_isSet 15 = .ok (.iconst 1, 1) := by decide +kernel
theorem dX5_isSet_16 : decode cX5_isSet 16 = .ok (.iand, 1) := by decide +kernel
theorem dX5_isSet_17 : decode cX5_isSet 17 = .ok (.ifCond .ne 7, 3) := by decide +kernel
theorem dX5_isSet_20 : decode cX5_isSet 20 = .ok (.iconst 1, 1) := by decide +kernel
theorem dX5_isSet_21 : decode cX5_isSet 21 = .ok (.goto 4, 3) := by decide +kernel
theorem dX5_isSet_24 : decode cX5_isSet 24 = .ok (.iconst 0, 1) := by decide +kernel
theorem dX5_isSet_25 : decode cX5_isSet 25 = .ok (.ireturn, 1) := by decide +kernel
theorem dX5_waysOf_0 : decode cX5_waysOf 0 = .ok (.iconst 0, 1) := by decide +kernel
theorem dX5_waysOf_1 : decode cX5_waysOf 1 = .ok (.istore 4, 2) := by decide +kernel
theorem dX5_waysOf_3 : decode cX5_waysOf 3 = .ok (.iconst 0, 1) := by decide +kernel
theorem dX5_waysOf_4 : decode cX5_waysOf 4 = .ok (.istore 5, 2) := by decide +kernel
theorem dX5_waysOf_6 : decode cX5_waysOf 6 = .ok (.bipush 9, 2) := by decide +kernel
theorem dX5_waysOf_8 : decode cX5_waysOf 8 = .ok (.istore 6, 2) := by decide +kernel
theorem dX5_waysOf_10 : decode cX5_waysOf 10 = .ok (.iload 6, 2) := by decide +kernel
theorem dX5_waysOf_12 : decode cX5_waysOf 12 = .ok (.iconst 1, 1) := by decide +kernel
theorem dX5_waysOf_13 : decode cX5_waysOf 13 = .ok (.if_icmp .lt 27, 3) := by decide +kernel
theorem dX5_waysOf_16 : decode cX5_waysOf 16 = .ok (.iload_n 1, 1) := by decide +kernel
theorem dX5_waysOf_17 : decode cX5_waysOf 17 = .ok (.iload 6, 2) := by decide +kernel
theorem dX5_waysOf_19 : decode cX5_waysOf 19 = .ok (.ishr, 1) := by decide +kernel
theorem dX5_waysOf_20 : decode cX5_waysOf 20 = .ok (.iconst 1, 1) := by decide +kernel
theorem dX5_waysOf_21 : decode cX5_waysOf 21 = .ok (.iand, 1) := by decide +kernel
theorem dX5_waysOf_22 : decode cX5_waysOf 22 = .ok (.iconst 1, 1) := by decide +kernel
theorem dX5_waysOf_23 : decode cX5_waysOf 23 = .ok (.if_icmp .ne 11, 3) := by decide +kernel
theorem dX5_waysOf_26 : decode cX5_waysOf 26 = .ok (.iload 4, 2) := by decide +kernel
theorem dX5_waysOf_28 : decode cX5_waysOf 28 = .ok (.istore 5, 2) := by decide +kernel
theorem dX5_waysOf_30 : decode cX5_waysOf 30 = .ok (.iload 6, 2) := by decide +kernel
theorem dX5_waysOf_32 : decode cX5_waysOf 32 = .ok (.istore 4, 2) := by decide +kernel
theorem dX5_waysOf_34 : decode cX5_waysOf 34 = .ok (.iinc 6 (-1), 3) := by decide +kernel
theorem dX5_waysOf_37 : decode cX5_waysOf 37 = .ok (.goto (-27), 3) := by decide +kernel
theorem dX5_waysOf_40 : decode cX5_waysOf 40 = .ok (.aload_n 0, 1) := by decide +kernel
theorem dX5_waysOf_41 : decode cX5_waysOf 41 = .ok (.iload 4, 2) := by decide +kernel
theorem dX5_waysOf_43 : decode cX5_waysOf 43 = .ok (.iload_n 2, 1) := by decide +kernel
theorem dX5_waysOf_44 : decode cX5_waysOf 44 = .ok (.invokevirtual 74, 3) := by decide +kernel
theorem dX5_waysOf_47 : decode cX5_waysOf 47 = .ok (.iload_n 3, 1) := by decide +kernel
theorem dX5_waysOf_48 : decode cX5_waysOf 48 = .ok (.isub, 1) := by decide +kernel
theorem dX5_waysOf_49 : decode cX5_waysOf 49 = .ok (.iload 4, 2) := by decide +kernel
theorem dX5_waysOf_51 : decode cX5_waysOf 51 = .ok (.invokestatic 134, 3) := by decide +kernel
theorem dX5_waysOf_54 : decode cX5_waysOf 54 = .ok (.imul, 1) := by decide +kernel
theorem dX5_waysOf_55 : decode cX5_waysOf 55 = .ok (.invokestatic 67, 3) := by decide +kernel
theorem dX5_waysOf_58 : decode cX5_waysOf 58 = .ok (.istore 6, 2) := by decide +kernel
theorem dX5_waysOf_60 : decode cX5_waysOf 60 = .ok (.iconst 0, 1) := by decide +kernel
theorem dX5_waysOf_61 : decode cX5_waysOf 61 = .ok (.istore 7, 2) := by decide +kernel
theorem dX5_waysOf_63 : decode cX5_waysOf 63 = .ok (.aload_n 0, 1) := by decide +kernel
theorem dX5_waysOf_64 : decode cX5_waysOf 64 = .ok (.getfield 48, 3) := by decide +kernel
theorem dX5_waysOf_67 : decode cX5_waysOf 67 = .ok (.iconst 2, 1) := by decide +kernel
theorem dX5_waysOf_68 : decode cX5_waysOf 68 = .ok (.if_icmp .ne 11, 3) := by decide +kernel
theorem dX5_waysOf_71 : decode cX5_waysOf 71 = .ok (.iload 5, 2) := by decide +kernel
theorem dX5_waysOf_73 : decode cX5_waysOf 73 = .ok (.ifCond .ne 6, 3) := by decide +kernel
theorem dX5_waysOf_76 : decode cX5_waysOf 76 = .ok (.bipush 97, 2) := by decide +kernel
theorem dX5_waysOf_78 : decode cX5_waysOf 78 = .ok (.ireturn, 1) := by decide +kernel
theorem dX5_waysOf_79 : decode cX5_waysOf 79 = .ok (.aload_n 0, 1) := by decide +kernel
theorem dX5_waysOf_80 : decode cX5_waysOf 80 = .ok (.getfield 48, 3) := by decide +kernel
theorem dX5_waysOf_83 : decode cX5_waysOf 83 = .ok (.iconst 2, 1) := by decide +kernel
theorem dX5_waysOf_84 : decode cX5_waysOf 84 = .ok (.if_icmp .ne 61, 3) := by decide +kernel
theorem dX5_waysOf_87 : decode cX5_waysOf 87 = .ok (.aload_n 0, 1) := by decide +kernel
theorem dX5_waysOf_88 : decode cX5_waysOf 88 = .ok (.iload 5, 2) := by decide +kernel
theorem dX5_waysOf_90 : decode cX5_waysOf 90 = .ok (.iload_n 2, 1) := by decide +kernel
theorem dX5_waysOf_91 : decode cX5_waysOf 91 = .ok (.invokevirtual 74, 3) := by decide +kernel
theorem dX5_waysOf_94 : decode cX5_waysOf 94 = .ok (.iload_n 3, 1) := by decide +kernel
theorem dX5_waysOf_95 : decode cX5_waysOf 95 = .ok (.isub, 1) := by decide +kernel
theorem dX5_waysOf_96 : decode cX5_waysOf 96 = .ok (.iload 5, 2) := by decide +kernel
theorem dX5_waysOf_98 : decode cX5_waysOf 98 = .ok (.invokestatic 134, 3) := by decide +kernel
theorem dX5_waysOf_101 : decode cX5_waysOf 101 = .ok (.imul, 1) := by decide +kernel
theorem dX5_waysOf_102 : decode cX5_waysOf 102 = .ok (.invokestatic 67, 3) := by decide +kernel
theorem dX5_waysOf_105 : decode cX5_waysOf 105 = .ok (.istore 8, 2) := by decide +kernel
theorem dX5_waysOf_107 : decode cX5_waysOf 107 = .ok (.iload 6, 2) := by decide +kernel
theorem dX5_waysOf_109 : decode cX5_waysOf 109 = .ok (.iload 8, 2) := by decide +kernel
theorem dX5_waysOf_111 : decode cX5_waysOf 111 = .ok (.isub, 1) := by decide +kernel
theorem dX5_waysOf_112 : decode cX5_waysOf 112 = .ok (.invokestatic 67, 3) := by decide +kernel
theorem dX5_waysOf_115 : decode cX5_waysOf 115 = .ok (.iload 4, 2) := by decide +kernel
theorem dX5_waysOf_117 : decode cX5_waysOf 117 = .ok (.iload 5, 2) := by decide +kernel
theorem dX5_waysOf_119 : decode cX5_waysOf 119 = .ok (.isub, 1) := by decide +kernel
theorem dX5_waysOf_120 : decode cX5_waysOf 120 = .ok (.invokestatic 67, 3) := by decide +kernel
theorem dX5_waysOf_123 : decode cX5_waysOf 123 = .ok (.invokestatic 134, 3) := by decide +kernel
theorem dX5_waysOf_126 : decode cX5_waysOf 126 = .ok (.imul, 1) := by decide +kernel
theorem dX5_waysOf_127 : decode cX5_waysOf 127 = .ok (.invokestatic 67, 3) := by decide +kernel
theorem dX5_waysOf_130 : decode cX5_waysOf 130 = .ok (.istore 7, 2) := by decide +kernel
theorem dX5_waysOf_132 : decode cX5_waysOf 132 = .ok (.iload 6, 2) := by decide +kernel
theorem dX5_waysOf_134 : decode cX5_waysOf 134 = .ok (.iload 7, 2) := by decide +kernel
theorem dX5_waysOf_136 : decode cX5_waysOf 136 = .ok (.iload 4, 2) := by decide +kernel
theorem dX5_waysOf_138 : decode cX5_waysOf 138 = .ok (.imul, 1) := by decide +kernel
theorem dX5_waysOf_139 : decode cX5_waysOf 139 = .ok (.isub, 1) := by decide +kernel
theorem dX5_waysOf_140 : decode cX5_waysOf 140 = .ok (.invokestatic 67, 3) := by decide +kernel
theorem dX5_waysOf_143 : decode cX5_waysOf 143 = .ok (.istore 6, 2) := by decide +kernel
theorem dX5_waysOf_145 : decode cX5_waysOf 145 = .ok (.iconst 1, 1) := by decide +kernel
theorem dX5_waysOf_146 : decode cX5_waysOf 146 = .ok (.istore 8, 2) := by decide +kernel
theorem dX5_waysOf_148 : decode cX5_waysOf 148 = .ok (.iload 8, 2) := by decide +kernel
theorem dX5_waysOf_150 : decode cX5_waysOf 150 = .ok (.bipush 9, 2) := by decide +kernel
theorem dX5_waysOf_152 : decode cX5_waysOf 152 = .ok (.if_icmp .gt 53, 3) := by decide +kernel
theorem dX5_waysOf_155 : decode cX5_waysOf 155 = .ok (.iload_n 1, 1) := by decide +kernel
theorem dX5_waysOf_156 : decode cX5_waysOf 156 = .ok (.iload 8, 2) := by decide +kernel
theorem dX5_waysOf_158 : decode cX5_waysOf 158 = .ok (.ishr, 1) := by decide +kernel
theorem dX5_waysOf_159 : decode cX5_waysOf 159 = .ok (.iconst 1, 1) := by decide +kernel
theorem dX5_waysOf_160 : decode cX5_waysOf 160 = .ok (.iand, 1) := by decide +kernel
theorem dX5_waysOf_161 : decode cX5_waysOf 161 = .ok (.iconst 1, 1) := by decide +kernel
theorem dX5_waysOf_162 : decode cX5_waysOf 162 = .ok (.if_icmp .ne 37, 3) := by decide +kernel
theorem dX5_waysOf_165 : decode cX5_waysOf 165 = .ok (.iload_n 3, 1) := by decide +kernel
theorem dX5_waysOf_166 : decode cX5_waysOf 166 = .ok (.iload 6, 2) := by decide +kernel
theorem dX5_waysOf_168 : decode cX5_waysOf 168 = .ok (.iload 8, 2) := by decide +kernel
theorem dX5_waysOf_170 : decode cX5_waysOf 170 = .ok (.imul, 1) := by decide +kernel
theorem dX5_waysOf_171 : decode cX5_waysOf 171 = .ok (.iadd, 1) := by decide +kernel
theorem dX5_waysOf_172 : decode cX5_waysOf 172 = .ok (.iload 7, 2) := by decide +kernel
theorem dX5_waysOf_174 : decode cX5_waysOf 174 = .ok (.iload 8, 2) := by decide +kernel
theorem dX5_waysOf_176 : decode cX5_waysOf 176 = .ok (.imul, 1) := by decide +kernel
theorem dX5_waysOf_177 : decode cX5_waysOf 177 = .ok (.invokestatic 67, 3) := by decide +kernel
theorem dX5_waysOf_180 : decode cX5_waysOf 180 = .ok (.iload 8, 2) := by decide +kernel
theorem dX5_waysOf_182 : decode cX5_waysOf 182 = .ok (.imul, 1) := by decide +kernel
theorem dX5_waysOf_183 : decode cX5_waysOf 183 = .ok (.iadd, 1) := by decide +kernel
theorem dX5_waysOf_184 : decode cX5_waysOf 184 = .ok (.invokestatic 67, 3) := by decide +kernel
theorem dX5_waysOf_187 : decode cX5_waysOf 187 = .ok (.aload_n 0, 1) := by decide +kernel
theorem dX5_waysOf_188 : decode cX5_waysOf 188 = .ok (.iload 8, 2) := by decide +kernel
theorem dX5_waysOf_190 : decode cX5_waysOf 190 = .ok (.iload_n 2, 1) := by decide +kernel
theorem dX5_waysOf_191 : decode cX5_waysOf 191 = .ok (.invokevirtual 74, 3) := by decide +kernel
theorem dX5_waysOf_194 : decode cX5_waysOf 194 = .ok (.if_icmp .eq 5, 3) := by decide +kernel
theorem dX5_waysOf_197 : decode cX5_waysOf 197 = .ok (.iconst 0, 1) := by decide +kernel
theorem dX5_waysOf_198 : decode cX5_waysOf 198 = .ok (.ireturn, 1) := by decide +kernel
theorem dX5_waysOf_199 : decode cX5_waysOf 199 = .ok (.iinc 8 1, 3) := by decide +kernel
theorem dX5_waysOf_202 : decode cX5_waysOf 202 = .ok (.goto (-54), 3) := by decide +kernel
theorem dX5_waysOf_205 : decode cX5_waysOf 205 = .ok (.iconst 1, 1) := by decide +kernel
theorem dX5_waysOf_206 : decode cX5_waysOf 206 = .ok (.ireturn, 1) := by decide +kernel
theorem dX5_waysFor_0 : decode cX5_waysFor 0 = .ok (.lconst 1, 1) := by decide +kernel
theorem dX5_waysFor_1 : decode cX5_waysFor 1 = .ok (.lstore_n 3, 1) := by decide +kernel
theorem dX5_waysFor_2 : decode cX5_waysFor 2 = .ok (.iconst 0, 1) := by decide +kernel
theorem dX5_waysFor_3 : decode cX5_waysFor 3 = .ok (.istore 5, 2) := by decide +kernel
theorem dX5_waysFor_5 : decode cX5_waysFor 5 = .ok (.iload 5, 2) := by decide +kernel
theorem dX5_waysFor_7 : decode cX5_waysFor 7 = .ok (.aload_n 0, 1) := by decide +kernel
theorem dX5_waysFor_8 : decode cX5_waysFor 8 = .ok (.getfield 7, 3) := by decide +kernel
theorem dX5_waysFor_11 : decode cX5_waysFor 11 = .ok (.if_icmp .ge 26, 3) := by decide +kernel
theorem dX5_waysFor_14 : decode cX5_waysFor 14 = .ok (.lload_n 3, 1) := by decide +kernel
theorem dX5_waysFor_15 : decode cX5_waysFor 15 = .ok (.aload_n 0, 1) := by decide +kernel
theorem dX5_waysFor_16 : decode cX5_waysFor 16 = .ok (.iload_n 1, 1) := by decide +kernel
theorem dX5_waysFor_17 : decode cX5_waysFor 17 = .ok (.iload 5, 2) := by decide +kernel
theorem dX5_waysFor_19 : decode cX5_waysFor 19 = .ok (.iload_n 2, 1) := by decide +kernel
theorem dX5_waysFor_20 : decode cX5_waysFor 20 = .ok (.iload 5, 2) := by decide +kernel
theorem dX5_waysFor_22 : decode cX5_waysFor 22 = .ok (.ishr, 1) := by decide +kernel
theorem dX5_waysFor_23 : decode cX5_waysFor 23 = .ok (.iconst 1, 1) := by decide +kernel
theorem dX5_waysFor_24 : decode cX5_waysFor 24 = .ok (.iand, 1) := by decide +kernel
theorem dX5_waysFor_25 : decode cX5_waysFor 25 = .ok (.invokevirtual 162, 3) := by decide +kernel
theorem dX5_waysFor_28 : decode cX5_waysFor 28 = .ok (.i2l, 1) := by decide +kernel
theorem dX5_waysFor_29 : decode cX5_waysFor 29 = .ok (.lmul, 1) := by decide +kernel
theorem dX5_waysFor_30 : decode cX5_waysFor 30 = .ok (.lstore_n 3, 1) := by decide +kernel
theorem dX5_waysFor_31 : decode cX5_waysFor 31 = .ok (.iinc 5 1, 3) := by decide +kernel
theorem dX5_waysFor_34 : decode cX5_waysFor 34 = .ok (.goto (-29), 3) := by decide +kernel
theorem dX5_waysFor_37 : decode cX5_waysFor 37 = .ok (.lload_n 3, 1) := by decide +kernel
theorem dX5_waysFor_38 : decode cX5_waysFor 38 = .ok (.lreturn, 1) := by decide +kernel
theorem dX5_ways_0 : decode cX5_ways 0 = .ok (.aload_n 0, 1) := by decide +kernel
theorem dX5_ways_1 : decode cX5_ways 1 = .ok (.iconst 0, 1) := by decide +kernel
theorem dX5_ways_2 : decode cX5_ways 2 = .ok (.putfield 45, 3) := by decide +kernel
theorem dX5_ways_5 : decode cX5_ways 5 = .ok (.aload_n 0, 1) := by decide +kernel
theorem dX5_ways_6 : decode cX5_ways 6 = .ok (.getfield 90, 3) := by decide +kernel
theorem dX5_ways_9 : decode cX5_ways 9 = .ok (.ifCond .ne 9, 3) := by decide +kernel
theorem dX5_ways_12 : decode cX5_ways 12 = .ok (.ldc2_w 166, 3) := by decide +kernel
theorem dX5_ways_15 : decode cX5_ways 15 = .ok (.goto 36, 3) := by decide +kernel
theorem dX5_ways_18 : decode cX5_ways 18 = .ok (.iload_n 1, 1) := by decide +kernel
theorem dX5_ways_19 : decode cX5_ways 19 = .ok (.invokestatic 168, 3) := by decide +kernel
theorem dX5_ways_22 : decode cX5_ways 22 = .ok (.ifCond .ne 9, 3) := by decide +kernel
theorem dX5_ways_25 : decode cX5_ways 25 = .ok (.ldc2_w 171, 3) := by decide +kernel
theorem dX5_ways_28 : decode cX5_ways 28 = .ok (.goto 23, 3) := by decide +kernel
theorem dX5_ways_31 : decode cX5_ways 31 = .ok (.aload_n 0, 1) := by decide +kernel
theorem dX5_ways_32 : decode cX5_ways 32 = .ok (.iload_n 2, 1) := by decide +kernel
theorem dX5_ways_33 : decode cX5_ways 33 = .ok (.invokevirtual 93, 3) := by decide +kernel
theorem dX5_ways_36 : decode cX5_ways 36 = .ok (.ifCond .ne 9, 3) := by decide +kernel
theorem dX5_ways_39 : decode cX5_ways 39 = .ok (.ldc2_w 173, 3) := by decide +kernel
theorem dX5_ways_42 : decode cX5_ways 42 = .ok (.goto 9, 3) := by decide +kernel
theorem dX5_ways_45 : decode cX5_ways 45 = .ok (.aload_n 0, 1) := by decide +kernel
theorem dX5_ways_46 : decode cX5_ways 46 = .ok (.iload_n 1, 1) := by decide +kernel
theorem dX5_ways_47 : decode cX5_ways 47 = .ok (.iload_n 2, 1) := by decide +kernel
theorem dX5_ways_48 : decode cX5_ways 48 = .ok (.invokevirtual 175, 3) := by decide +kernel
theorem dX5_ways_51 : decode cX5_ways 51 = .ok (.lreturn, 1) := by decide +kernel
theorem dX5_might_0 : decode cX5_might 0 = .ok (.aload_n 0, 1) := by decide +kernel
theorem dX5_might_1 : decode cX5_might 1 = .ok (.iconst 0, 1) := by decide +kernel
theorem dX5_might_2 : decode cX5_might 2 = .ok (.putfield 45, 3) := by decide +kernel
theorem dX5_might_5 : decode cX5_might 5 = .ok (.aload_n 0, 1) := by decide +kernel
theorem dX5_might_6 : decode cX5_might 6 = .ok (.getfield 90, 3) := by decide +kernel
theorem dX5_might_9 : decode cX5_might 9 = .ok (.ifCond .eq 10, 3) := by decide +kernel
theorem dX5_might_12 : decode cX5_might 12 = .ok (.iload_n 1, 1) := by decide +kernel
theorem dX5_might_13 : decode cX5_might 13 = .ok (.invokestatic 168, 3) := by decide +kernel
theorem dX5_might_16 : decode cX5_might 16 = .ok (.ifCond .ne 18, 3) := by decide +kernel
theorem dX5_might_19 : decode cX5_might 19 = .ok (.aload_n 0, 1) := by decide +kernel
theorem dX5_might_20 : decode cX5_might 20 = .ok (.getfield 90, 3) := by decide +kernel
theorem dX5_might_23 : decode cX5_might 23 = .ok (.ifCond .eq 8, 3) := by decide +kernel
theorem dX5_might_26 : decode cX5_might 26 = .ok (.bipush (-2), 2) := by decide +kernel
theorem dX5_might_28 : decode cX5_might 28 = .ok (.goto 5, 3) := by decide +kernel
theorem dX5_might_31 : decode cX5_might 31 = .ok (.bipush (-3), 2) := by decide +kernel
theorem dX5_might_33 : decode cX5_might 33 = .ok (.ireturn, 1) := by decide +kernel
theorem dX5_might_34 : decode cX5_might 34 = .ok (.iconst 0, 1) := by decide +kernel
theorem dX5_might_35 : decode cX5_might 35 = .ok (.istore_n 2, 1) := by decide +kernel
theorem dX5_might_36 : decode cX5_might 36 = .ok (.iconst 0, 1) := by decide +kernel
theorem dX5_might_37 : decode cX5_might 37 = .ok (.istore_n 3, 1) := by decide +kernel
theorem dX5_might_38 : decode cX5_might 38 = .ok (.iload_n 3, 1) := by decide +kernel
theorem dX5_might_39 : decode cX5_might 39 = .ok (.aload_n 0, 1) := by decide +kernel
theorem dX5_might_40 : decode cX5_might 40 = .ok (.invokevirtual 57, 3) := by decide +kernel
theorem dX5_might_43 : decode cX5_might 43 = .ok (.if_icmp .ge 28, 3) := by decide +kernel
theorem dX5_might_46 : decode cX5_might 46 = .ok (.iload_n 2, 1) := by decide +kernel
theorem dX5_might_47 : decode cX5_might 47 = .ok (.aload_n 0, 1) := by decide +kernel
theorem dX5_might_48 : decode cX5_might 48 = .ok (.iload_n 1, 1) := by decide +kernel
theorem dX5_might_49 : decode cX5_might 49 = .ok (.iload_n 3, 1) := by decide +kernel
theorem dX5_might_50 : decode cX5_might 50 = .ok (.invokevirtual 175, 3) := by decide +kernel
theorem dX5_might_53 : decode cX5_might 53 = .ok (.lconst 0, 1) := by decide +kernel
theorem dX5_might_54 : decode cX5_might 54 = .ok (.lcmp, 1) := by decide +kernel
theorem dX5_might_55 : decode cX5_might 55 = .ok (.ifCond .le 7, 3) := by decide +kernel
theorem dX5_might_58 : decode cX5_might 58 = .ok (.iconst 1, 1) := by decide +kernel
theorem dX5_might_59 : decode cX5_might 59 = .ok (.goto 4, 3) := by decide +kernel
theorem dX5_might_62 : decode cX5_might 62 = .ok (.iconst 0, 1) := by decide +kernel
theorem dX5_might_63 : decode cX5_might 63 = .ok (.iadd, 1) := by decide +kernel
theorem dX5_might_64 : decode cX5_might 64 = .ok (.istore_n 2, 1) := by decide +kernel
theorem dX5_might_65 : decode cX5_might 65 = .ok (.iinc 3 1, 3) := by decide +kernel
theorem dX5_might_68 : decode cX5_might 68 = .ok (.goto (-30), 3) := by decide +kernel
theorem dX5_might_71 : decode cX5_might 71 = .ok (.iload_n 2, 1) := by decide +kernel
theorem dX5_might_72 : decode cX5_might 72 = .ok (.ireturn, 1) := by decide +kernel
theorem dX5_learnsOf_0 : decode cX5_learnsOf 0 = .ok (.iconst 0, 1) := by decide +kernel
theorem dX5_learnsOf_1 : decode cX5_learnsOf 1 = .ok (.istore_n 2, 1) := by decide +kernel
theorem dX5_learnsOf_2 : decode cX5_learnsOf 2 = .ok (.iconst 1, 1) := by decide +kernel
theorem dX5_learnsOf_3 : decode cX5_learnsOf 3 = .ok (.istore_n 3, 1) := by decide +kernel
theorem dX5_learnsOf_4 : decode cX5_learnsOf 4 = .ok (.iload_n 3, 1) := by decide +kernel
theorem dX5_learnsOf_5 : decode cX5_learnsOf 5 = .ok (.aload_n 0, 1) := by decide +kernel
theorem dX5_learnsOf_6 : decode cX5_learnsOf 6 = .ok (.invokevirtual 57, 3) := by decide +kernel
theorem dX5_learnsOf_9 : decode cX5_learnsOf 9 = .ok (.if_icmp .ge 35, 3) := by decide +kernel
theorem dX5_learnsOf_12 : decode cX5_learnsOf 12 = .ok (.iload_n 2, 1) := by decide +kernel
theorem dX5_learnsOf_13 : decode cX5_learnsOf 13 = .ok (.ifCond .ne 19, 3) := by decide +kernel
theorem dX5_learnsOf_16 : decode cX5_learnsOf 16 = .ok (.aload_n 0, 1) := by decide +kernel
theorem dX5_learnsOf_17 : decode cX5_learnsOf 17 = .ok (.iload_n 1, 1) := by decide +kernel
theorem dX5_learnsOf_18 : decode cX5_learnsOf 18 = .ok (.iload_n 3, 1) := by decide +kernel
theorem dX5_learnsOf_19 : decode cX5_learnsOf 19 = .ok (.invokevirtual 175, 3) := by decide +kernel
theorem dX5_learnsOf_22 : decode cX5_learnsOf 22 = .ok (.aload_n 0, 1) := by decide +kernel
theorem dX5_learnsOf_23 : decode cX5_learnsOf 23 = .ok (.iload_n 1, 1) := by decide +kernel
theorem dX5_learnsOf_24 : decode cX5_learnsOf 24 = .ok (.iconst 0, 1) := by decide +kernel
theorem dX5_learnsOf_25 : decode cX5_learnsOf 25 = .ok (.invokevirtual 175, 3) := by decide +kernel
theorem dX5_learnsOf_28 : decode cX5_learnsOf 28 = .ok (.lcmp, 1) := by decide +kernel
theorem dX5_learnsOf_29 : decode cX5_learnsOf 29 = .ok (.ifCond .eq 7, 3) := by decide +kernel
theorem dX5_learnsOf_32 : decode cX5_learnsOf 32 = .ok (.iconst 1, 1) := by decide +kernel
theorem dX5_learnsOf_33 : decode cX5_learnsOf 33 = .ok (.goto 4, 3) := by decide +kernel
theorem dX5_learnsOf_36 : decode cX5_learnsOf 36 = .ok (.iconst 0, 1) := by decide +kernel
theorem dX5_learnsOf_37 : decode cX5_learnsOf 37 = .ok (.istore_n 2, 1) := by decide +kernel
theorem dX5_learnsOf_38 : decode cX5_learnsOf 38 = .ok (.iinc 3 1, 3) := by decide +kernel
theorem dX5_learnsOf_41 : decode cX5_learnsOf 41 = .ok (.goto (-37), 3) := by decide +kernel
theorem dX5_learnsOf_44 : decode cX5_learnsOf 44 = .ok (.iload_n 2, 1) := by decide +kernel
theorem dX5_learnsOf_45 : decode cX5_learnsOf 45 = .ok (.ireturn, 1) := by decide +kernel
theorem dX5_learns_0 : decode cX5_learns 0 = .ok (.aload_n 0, 1) := by decide +kernel
theorem dX5_learns_1 : decode cX5_learns 1 = .ok (.iconst 0, 1) := by decide +kernel
theorem dX5_learns_2 : decode cX5_learns 2 = .ok (.putfield 45, 3) := by decide +kernel
theorem dX5_learns_5 : decode cX5_learns 5 = .ok (.aload_n 0, 1) := by decide +kernel
theorem dX5_learns_6 : decode cX5_learns 6 = .ok (.getfield 90, 3) := by decide +kernel
theorem dX5_learns_9 : decode cX5_learns 9 = .ok (.ifCond .ne 8, 3) := by decide +kernel
theorem dX5_learns_12 : decode cX5_learns 12 = .ok (.bipush (-3), 2) := by decide +kernel
theorem dX5_learns_14 : decode cX5_learns 14 = .ok (.goto 28, 3) := by decide +kernel
theorem dX5_learns_17 : decode cX5_learns 17 = .ok (.iload_n 1, 1) := by decide +kernel
theorem dX5_learns_18 : decode cX5_learns 18 = .ok (.invokestatic 168, 3) := by decide +kernel
theorem dX5_learns_21 : decode cX5_learns 21 = .ok (.ifCond .ne 8, 3) := by decide +kernel
theorem dX5_learns_24 : decode cX5_learns 24 = .ok (.bipush (-2), 2) := by decide +kernel
theorem dX5_learns_26 : decode cX5_learns 26 = .ok (.goto 16, 3) := by decide +kernel
theorem dX5_learns_29 : decode cX5_learns 29 = .ok (.aload_n 0, 1) := by decide +kernel
theorem dX5_learns_30 : decode cX5_learns 30 = .ok (.iload_n 1, 1) := by decide +kernel
theorem dX5_learns_31 : decode cX5_learns 31 = .ok (.invokevirtual 179, 3) := by decide +kernel
theorem dX5_learns_34 : decode cX5_learns 34 = .ok (.ifCond .eq 7, 3) := by decide +kernel
theorem dX5_learns_37 : decode cX5_learns 37 = .ok (.iconst 1, 1) := by decide +kernel
theorem dX5_learns_38 : decode cX5_learns 38 = .ok (.goto 4, 3) := by decide +kernel
theorem dX5_learns_41 : decode cX5_learns 41 = .ok (.iconst 0, 1) := by decide +kernel
theorem dX5_learns_42 : decode cX5_learns 42 = .ok (.ireturn, 1) := by decide +kernel
theorem dX5_least_0 : decode cX5_least 0 = .ok (.aload_n 0, 1) := by decide +kernel
theorem dX5_least_1 : decode cX5_least 1 = .ok (.iconst 0, 1) := by decide +kernel
theorem dX5_least_2 : decode cX5_least 2 = .ok (.putfield 45, 3) := by decide +kernel
theorem dX5_least_5 : decode cX5_least 5 = .ok (.aload_n 0, 1) := by decide +kernel
theorem dX5_least_6 : decode cX5_least 6 = .ok (.getfield 90, 3) := by decide +kernel
theorem dX5_least_9 : decode cX5_least 9 = .ok (.ifCond .ne 6, 3) := by decide +kernel
theorem dX5_least_12 : decode cX5_least 12 = .ok (.bipush (-3), 2) := by decide +kernel
theorem dX5_least_14 : decode cX5_least 14 = .ok (.ireturn, 1) := by decide +kernel
theorem dX5_least_15 : decode cX5_least 15 = .ok (.iconst 2, 1) := by decide +kernel
theorem dX5_least_16 : decode cX5_least 16 = .ok (.istore_n 1, 1) := by decide +kernel
theorem dX5_least_17 : decode cX5_least 17 = .ok (.iload_n 1, 1) := by decide +kernel
theorem dX5_least_18 : decode cX5_least 18 = .ok (.sipush 1022, 3) := by decide +kernel
theorem dX5_least_21 : decode cX5_least 21 = .ok (.if_icmp .gt 19, 3) := by decide +kernel
theorem dX5_least_24 : decode cX5_least 24 = .ok (.aload_n 0, 1) := by decide +kernel
theorem dX5_least_25 : decode cX5_least 25 = .ok (.iload_n 1, 1) := by decide +kernel
theorem dX5_least_26 : decode cX5_least 26 = .ok (.invokevirtual 179, 3) := by decide +kernel
theorem dX5_least_29 : decode cX5_least 29 = .ok (.ifCond .eq 5, 3) := by decide +kernel
theorem dX5_least_32 : decode cX5_least 32 = .ok (.iload_n 1, 1) := by decide +kernel
theorem dX5_least_33 : decode cX5_least 33 = .ok (.ireturn, 1) := by decide +kernel
theorem dX5_least_34 : decode cX5_least 34 = .ok (.iinc 1 2, 3) := by decide +kernel
theorem dX5_least_37 : decode cX5_least 37 = .ok (.goto (-20), 3) := by decide +kernel
theorem dX5_least_40 : decode cX5_least 40 = .ok (.bipush (-9), 2) := by decide +kernel
theorem dX5_least_42 : decode cX5_least 42 = .ok (.ireturn, 1) := by decide +kernel
theorem dX5_fits_0 : decode cX5_fits 0 = .ok (.aload_n 0, 1) := by decide +kernel
theorem dX5_fits_1 : decode cX5_fits 1 = .ok (.iconst 0, 1) := by decide +kernel
theorem dX5_fits_2 : decode cX5_fits 2 = .ok (.putfield 45, 3) := by decide +kernel
theorem dX5_fits_5 : decode cX5_fits 5 = .ok (.iload_n 1, 1) := by decide +kernel
theorem dX5_fits_6 : decode cX5_fits 6 = .ok (.invokestatic 100, 3) := by decide +kernel
theorem dX5_fits_9 : decode cX5_fits 9 = .ok (.ifCond .eq 10, 3) := by decide +kernel
theorem dX5_fits_12 : decode cX5_fits 12 = .ok (.iload_n 2, 1) := by decide +kernel
theorem dX5_fits_13 : decode cX5_fits 13 = .ok (.invokestatic 97, 3) := by decide +kernel
theorem dX5_fits_16 : decode cX5_fits 16 = .ok (.ifCond .ne 6, 3) := by decide +kernel
theorem dX5_fits_19 : decode cX5_fits 19 = .ok (.bipush (-2), 2) := by decide +kernel
theorem dX5_fits_21 : decode cX5_fits 21 = .ok (.ireturn, 1) := by decide +kernel
theorem dX5_fits_22 : decode cX5_fits 22 = .ok (.aload_n 0, 1) := by decide +kernel
theorem dX5_fits_23 : decode cX5_fits 23 = .ok (.getfield 90, 3) := by decide +kernel
theorem dX5_fits_26 : decode cX5_fits 26 = .ok (.ifCond .ne 6, 3) := by decide +kernel
theorem dX5_fits_29 : decode cX5_fits 29 = .ok (.bipush (-3), 2) := by decide +kernel
theorem dX5_fits_31 : decode cX5_fits 31 = .ok (.ireturn, 1) := by decide +kernel
theorem dX5_fits_32 : decode cX5_fits 32 = .ok (.aload_n 0, 1) := by decide +kernel
theorem dX5_fits_33 : decode cX5_fits 33 = .ok (.iload_n 1, 1) := by decide +kernel
theorem dX5_fits_34 : decode cX5_fits 34 = .ok (.invokevirtual 140, 3) := by decide +kernel
theorem dX5_fits_37 : decode cX5_fits 37 = .ok (.aload_n 0, 1) := by decide +kernel
theorem dX5_fits_38 : decode cX5_fits 38 = .ok (.getfield 131, 3) := by decide +kernel
theorem dX5_fits_41 : decode cX5_fits 41 = .ok (.aload_n 0, 1) := by decide +kernel
theorem dX5_fits_42 : decode cX5_fits 42 = .ok (.invokevirtual 81, 3) := by decide +kernel
theorem dX5_fits_45 : decode cX5_fits 45 = .ok (.if_icmp .gt 6, 3) := by decide +kernel
theorem dX5_fits_48 : decode cX5_fits 48 = .ok (.bipush (-3), 2) := by decide +kernel
theorem dX5_fits_50 : decode cX5_fits 50 = .ok (.ireturn, 1) := by decide +kernel
theorem dX5_fits_51 : decode cX5_fits 51 = .ok (.aload_n 0, 1) := by decide +kernel
theorem dX5_fits_52 : decode cX5_fits 52 = .ok (.invokevirtual 150, 3) := by decide +kernel
theorem dX5_fits_55 : decode cX5_fits 55 = .ok (.aload_n 0, 1) := by decide +kernel
theorem dX5_fits_56 : decode cX5_fits 56 = .ok (.invokevirtual 153, 3) := by decide +kernel
theorem dX5_fits_59 : decode cX5_fits 59 = .ok (.aload_n 0, 1) := by decide +kernel
theorem dX5_fits_60 : decode cX5_fits 60 = .ok (.getfield 131, 3) := by decide +kernel
theorem dX5_fits_63 : decode cX5_fits 63 = .ok (.if_icmp .ne 16, 3) := by decide +kernel
theorem dX5_fits_66 : decode cX5_fits 66 = .ok (.aload_n 0, 1) := by decide +kernel
theorem dX5_fits_67 : decode cX5_fits 67 = .ok (.iconst 0, 1) := by decide +kernel
theorem dX5_fits_68 : decode cX5_fits 68 = .ok (.invokevirtual 137, 3) := by decide +kernel
theorem dX5_fits_71 : decode cX5_fits 71 = .ok (.iload_n 2, 1) := by decide +kernel
theorem dX5_fits_72 : decode cX5_fits 72 = .ok (.if_icmp .ne 7, 3) := by decide +kernel
theorem dX5_fits_75 : decode cX5_fits 75 = .ok (.iconst 1, 1) := by decide +kernel
theorem dX5_fits_76 : decode cX5_fits 76 = .ok (.goto 4, 3) := by decide +kernel
theorem dX5_fits_79 : decode cX5_fits 79 = .ok (.iconst 0, 1) := by decide +kernel
theorem dX5_fits_80 : decode cX5_fits 80 = .ok (.ireturn, 1) := by decide +kernel
theorem dX5_isSum_0 : decode cX5_isSum 0 = .ok (.iload_n 1, 1) := by decide +kernel
theorem dX5_isSum_1 : decode cX5_isSum 1 = .ok (.ifCond .lt 16, 3) := by decide +kernel
theorem dX5_isSum_4 : decode cX5_isSum 4 = .ok (.iload_n 1, 1) := by decide +kernel
theorem dX5_isSum_5 : decode cX5_isSum 5 = .ok (.aload_n 0, 1) := by decide +kernel
theorem dX5_isSum_6 : decode cX5_isSum 6 = .ok (.invokevirtual 57, 3) := by decide +kernel
theorem dX5_isSum_9 : decode cX5_isSum 9 = .ok (.ishr, 1) := by decide +kernel
theorem dX5_isSum_10 : decode cX5_isSum 10 = .ok (.ifCond .ne 7, 3) := by decide +kernel
theorem dX5_isSum_13 : decode cX5_isSum 13 = .ok (.iconst 1, 1) := by decide +kernel
theorem dX5_isSum_14 : decode cX5_isSum 14 = .ok (.goto 4, 3) := by decide +kernel
theorem dX5_isSum_17 : decode cX5_isSum 17 = .ok (.iconst 0, 1) := by decide +kernel
theorem dX5_isSum_18 : decode cX5_isSum 18 = .ok (.ireturn, 1) := by decide +kernel
theorem dX5_bothOf_0 : decode cX5_bothOf 0 = .ok (.iconst 0, 1) := by decide +kernel
theorem dX5_bothOf_1 : decode cX5_bothOf 1 = .ok (.istore_n 3, 1) := by decide +kernel
theorem dX5_bothOf_2 : decode cX5_bothOf 2 = .ok (.iconst 0, 1) := by decide +kernel
theorem dX5_bothOf_3 : decode cX5_bothOf 3 = .ok (.istore 4, 2) := by decide +kernel
theorem dX5_bothOf_5 : decode cX5_bothOf 5 = .ok (.iload 4, 2) := by decide +kernel
theorem dX5_bothOf_7 : decode cX5_bothOf 7 = .ok (.aload_n 0, 1) := by decide +kernel
theorem dX5_bothOf_8 : decode cX5_bothOf 8 = .ok (.invokevirtual 57, 3) := by decide +kernel
theorem dX5_bothOf_11 : decode cX5_bothOf 11 = .ok (.if_icmp .ge 33, 3) := by decide +kernel
theorem dX5_bothOf_14 : decode cX5_bothOf 14 = .ok (.iload_n 3, 1) := by decide +kernel
theorem dX5_bothOf_15 : decode cX5_bothOf 15 = .ok (.iload_n 2, 1) := by decide +kernel
theorem dX5_bothOf_16 : decode cX5_bothOf 16 = .ok (.iload 4, 2) := by decide +kernel
theorem dX5_bothOf_18 : decode cX5_bothOf 18 = .ok (.ishr, 1) := by decide +kernel
theorem dX5_bothOf_19 : decode cX5_bothOf 19 = .ok (.iconst 1, 1) := by decide +kernel
theorem dX5_bothOf_20 : decode cX5_bothOf 20 = .ok (.iand, 1) := by decide +kernel
theorem dX5_bothOf_21 : decode cX5_bothOf 21 = .ok (.iconst 1, 1) := by decide +kernel
theorem dX5_bothOf_22 : decode cX5_bothOf 22 = .ok (.if_icmp .ne 13, 3) := by decide +kernel
theorem dX5_bothOf_25 : decode cX5_bothOf 25 = .ok (.aload_n 0, 1) := by decide +kernel
theorem dX5_bothOf_26 : decode cX5_bothOf 26 = .ok (.iload_n 1, 1) := by decide +kernel
theorem dX5_bothOf_27 : decode cX5_bothOf 27 = .ok (.iload 4, 2) := by decide +kernel
theorem dX5_bothOf_29 : decode cX5_bothOf 29 = .ok (.invokevirtual 63, 3) := by decide +kernel
theorem dX5_bothOf_32 : decode cX5_bothOf 32 = .ok (.goto 4, 3) := by decide +kernel
theorem dX5_bothOf_35 : decode cX5_bothOf 35 = .ok (.iconst 0, 1) := by decide +kernel
theorem dX5_bothOf_36 : decode cX5_bothOf 36 = .ok (.ixor, 1) := by decide +kernel
theorem dX5_bothOf_37 : decode cX5_bothOf 37 = .ok (.istore_n 3, 1) := by decide +kernel
theorem dX5_bothOf_38 : decode cX5_bothOf 38 = .ok (.iinc 4 1, 3) := by decide +kernel
theorem dX5_bothOf_41 : decode cX5_bothOf 41 = .ok (.goto (-36), 3) := by decide +kernel
theorem dX5_bothOf_44 : decode cX5_bothOf 44 = .ok (.aload_n 0, 1) := by decide +kernel
theorem dX5_bothOf_45 : decode cX5_bothOf 45 = .ok (.getfield 17, 3) := by decide +kernel
theorem dX5_bothOf_48 : decode cX5_bothOf 48 = .ok (.iload_n 1, 1) := by decide +kernel
theorem dX5_bothOf_49 : decode cX5_bothOf 49 = .ok (.iaload, 1) := by decide +kernel
theorem dX5_bothOf_50 : decode cX5_bothOf 50 = .ok (.iconst 1, 1) := by decide +kernel
theorem dX5_bothOf_51 : decode cX5_bothOf 51 = .ok (.if_icmp .ne 18, 3) := by decide +kernel
theorem dX5_bothOf_54 : decode cX5_bothOf 54 = .ok (.iload_n 3, 1) := by decide +kernel
theorem dX5_bothOf_55 : decode cX5_bothOf 55 = .ok (.aload_n 0, 1) := by decide +kernel
theorem dX5_bothOf_56 : decode cX5_bothOf 56 = .ok (.getfield 20, 3) := by decide +kernel
theorem dX5_bothOf_59 : decode cX5_bothOf 59 = .ok (.iload_n 1, 1) := by decide +kernel
theorem dX5_bothOf_60 : decode cX5_bothOf 60 = .ok (.iaload, 1) := by decide +kernel
theorem dX5_bothOf_61 : decode cX5_bothOf 61 = .ok (.iadd, 1) := by decide +kernel
theorem dX5_bothOf_62 : decode cX5_bothOf 62 = .ok (.sipush 128, 3) := by decide +kernel
theorem dX5_bothOf_65 : decode cX5_bothOf 65 = .ok (.irem, 1) := by decide +kernel
theorem dX5_bothOf_66 : decode cX5_bothOf 66 = .ok (.goto 4, 3) := by decide +kernel
theorem dX5_bothOf_69 : decode cX5_bothOf 69 = .ok (.iload_n 3, 1) := by decide +kernel
theorem dX5_bothOf_70 : decode cX5_bothOf 70 = .ok (.ireturn, 1) := by decide +kernel
theorem dX5_both_0 : decode cX5_both 0 = .ok (.aload_n 0, 1) := by decide +kernel
theorem dX5_both_1 : decode cX5_both 1 = .ok (.iconst 0, 1) := by decide +kernel
theorem dX5_both_2 : decode cX5_both 2 = .ok (.putfield 45, 3) := by decide +kernel
theorem dX5_both_5 : decode cX5_both 5 = .ok (.iload_n 1, 1) := by decide +kernel
theorem dX5_both_6 : decode cX5_both 6 = .ok (.invokestatic 100, 3) := by decide +kernel
theorem dX5_both_9 : decode cX5_both 9 = .ok (.ifCond .ne 5, 3) := by decide +kernel
theorem dX5_both_12 : decode cX5_both 12 = .ok (.iconst (-1), 1) := by decide +kernel
theorem dX5_both_13 : decode cX5_both 13 = .ok (.ireturn, 1) := by decide +kernel
theorem dX5_both_14 : decode cX5_both 14 = .ok (.aload_n 0, 1) := by decide +kernel
theorem dX5_both_15 : decode cX5_both 15 = .ok (.iload_n 2, 1) := by decide +kernel
theorem dX5_both_16 : decode cX5_both 16 = .ok (.invokevirtual 182, 3) := by decide +kernel
theorem dX5_both_19 : decode cX5_both 19 = .ok (.ifCond .ne 8, 3) := by decide +kernel
theorem dX5_both_22 : decode cX5_both 22 = .ok (.bipush (-2), 2) := by decide +kernel
theorem dX5_both_24 : decode cX5_both 24 = .ok (.goto 24, 3) := by decide +kernel
theorem dX5_both_27 : decode cX5_both 27 = .ok (.aload_n 0, 1) := by decide +kernel
theorem dX5_both_28 : decode cX5_both 28 = .ok (.getfield 17, 3) := by decide +kernel
theorem dX5_both_31 : decode cX5_both 31 = .ok (.iload_n 1, 1) := by decide +kernel
theorem dX5_both_32 : decode cX5_both 32 = .ok (.iaload, 1) := by decide +kernel
theorem dX5_both_33 : decode cX5_both 33 = .ok (.iconst 3, 1) := by decide +kernel
theorem dX5_both_34 : decode cX5_both 34 = .ok (.if_icmp .ne 8, 3) := by decide +kernel
theorem dX5_both_37 : decode cX5_both 37 = .ok (.bipush (-9), 2) := by decide +kernel
theorem dX5_both_39 : decode cX5_both 39 = .ok (.goto 9, 3) := by decide +kernel
theorem dX5_both_42 : decode cX5_both 42 = .ok (.aload_n 0, 1) := by decide +kernel
theorem dX5_both_43 : decode cX5_both 43 = .ok (.iload_n 1, 1) := by decide +kernel
theorem dX5_both_44 : decode cX5_both 44 = .ok (.iload_n 2, 1) := by decide +kernel
theorem dX5_both_45 : decode cX5_both 45 = .ok (.invokevirtual 185, 3) := by decide +kernel
theorem dX5_both_48 : decode cX5_both 48 = .ok (.ireturn, 1) := by decide +kernel
theorem dX5_pair_0 : decode cX5_pair 0 = .ok (.aload_n 0, 1) := by decide +kernel
theorem dX5_pair_1 : decode cX5_pair 1 = .ok (.iconst 0, 1) := by decide +kernel
theorem dX5_pair_2 : decode cX5_pair 2 = .ok (.putfield 45, 3) := by decide +kernel
theorem dX5_pair_5 : decode cX5_pair 5 = .ok (.iload_n 1, 1) := by decide +kernel
theorem dX5_pair_6 : decode cX5_pair 6 = .ok (.invokestatic 100, 3) := by decide +kernel
theorem dX5_pair_9 : decode cX5_pair 9 = .ok (.ifCond .eq 19, 3) := by decide +kernel
theorem dX5_pair_12 : decode cX5_pair 12 = .ok (.iload_n 2, 1) := by decide +kernel
theorem dX5_pair_13 : decode cX5_pair 13 = .ok (.invokestatic 100, 3) := by decide +kernel
theorem dX5_pair_16 : decode cX5_pair 16 = .ok (.ifCond .eq 12, 3) := by decide +kernel
theorem dX5_pair_19 : decode cX5_pair 19 = .ok (.aload_n 0, 1) := by decide +kernel
theorem dX5_pair_20 : decode cX5_pair 20 = .ok (.iload 4, 2) := by decide +kernel
theorem dX5_pair_22 : decode cX5_pair 22 = .ok (.invokevirtual 93, 3) := by decide +kernel
theorem dX5_pair_25 : decode cX5_pair 25 = .ok (.ifCond .ne 5, 3) := by decide +kernel
theorem dX5_pair_28 : decode cX5_pair 28 = .ok (.iconst (-1), 1) := by decide +kernel
theorem dX5_pair_29 : decode cX5_pair 29 = .ok (.ireturn, 1) := by decide +kernel
theorem dX5_pair_30 : decode cX5_pair 30 = .ok (.iload_n 1, 1) := by decide +kernel
theorem dX5_pair_31 : decode cX5_pair 31 = .ok (.iload_n 2, 1) := by decide +kernel
theorem dX5_pair_32 : decode cX5_pair 32 = .ok (.if_icmp .ne 6, 3) := by decide +kernel
theorem dX5_pair_35 : decode cX5_pair 35 = .ok (.bipush (-3), 2) := by decide +kernel
theorem dX5_pair_37 : decode cX5_pair 37 = .ok (.ireturn, 1) := by decide +kernel
theorem dX5_pair_38 : decode cX5_pair 38 = .ok (.aload_n 0, 1) := by decide +kernel
theorem dX5_pair_39 : decode cX5_pair 39 = .ok (.iload_n 3, 1) := by decide +kernel
theorem dX5_pair_40 : decode cX5_pair 40 = .ok (.invokevirtual 182, 3) := by decide +kernel
theorem dX5_pair_43 : decode cX5_pair 43 = .ok (.ifCond .ne 6, 3) := by decide +kernel
theorem dX5_pair_46 : decode cX5_pair 46 = .ok (.bipush (-2), 2) := by decide +kernel
theorem dX5_pair_48 : decode cX5_pair 48 = .ok (.ireturn, 1) := by decide +kernel
theorem dX5_pair_49 : decode cX5_pair 49 = .ok (.aload_n 0, 1) := by decide +kernel
theorem dX5_pair_50 : decode cX5_pair 50 = .ok (.getfield 17, 3) := by decide +kernel
theorem dX5_pair_53 : decode cX5_pair 53 = .ok (.iload_n 1, 1) := by decide +kernel
theorem dX5_pair_54 : decode cX5_pair 54 = .ok (.iaload, 1) := by decide +kernel
theorem dX5_pair_55 : decode cX5_pair 55 = .ok (.iconst 3, 1) := by decide +kernel
theorem dX5_pair_56 : decode cX5_pair 56 = .ok (.if_icmp .eq 13, 3) := by decide +kernel
theorem dX5_pair_59 : decode cX5_pair 59 = .ok (.aload_n 0, 1) := by decide +kernel
theorem dX5_pair_60 : decode cX5_pair 60 = .ok (.getfield 17, 3) := by decide +kernel
theorem dX5_pair_63 : decode cX5_pair 63 = .ok (.iload_n 2, 1) := by decide +kernel
theorem dX5_pair_64 : decode cX5_pair 64 = .ok (.iaload, 1) := by decide +kernel
theorem dX5_pair_65 : decode cX5_pair 65 = .ok (.iconst 3, 1) := by decide +kernel
theorem dX5_pair_66 : decode cX5_pair 66 = .ok (.if_icmp .ne 8, 3) := by decide +kernel
theorem dX5_pair_69 : decode cX5_pair 69 = .ok (.bipush (-9), 2) := by decide +kernel
theorem dX5_pair_71 : decode cX5_pair 71 = .ok (.goto 21, 3) := by decide +kernel
theorem dX5_pair_74 : decode cX5_pair 74 = .ok (.aload_n 0, 1) := by decide +kernel
theorem dX5_pair_75 : decode cX5_pair 75 = .ok (.iload_n 1, 1) := by decide +kernel
theorem dX5_pair_76 : decode cX5_pair 76 = .ok (.iload_n 3, 1) := by decide +kernel
theorem dX5_pair_77 : decode cX5_pair 77 = .ok (.invokevirtual 185, 3) := by decide +kernel
theorem dX5_pair_80 : decode cX5_pair 80 = .ok (.aload_n 0, 1) := by decide +kernel
theorem dX5_pair_81 : decode cX5_pair 81 = .ok (.iload_n 2, 1) := by decide +kernel
theorem dX5_pair_82 : decode cX5_pair 82 = .ok (.iload_n 3, 1) := by decide +kernel
theorem dX5_pair_83 : decode cX5_pair 83 = .ok (.iconst 1, 1) := by decide +kernel
theorem dX5_pair_84 : decode cX5_pair 84 = .ok (.iload 4, 2) := by decide +kernel
theorem dX5_pair_86 : decode cX5_pair 86 = .ok (.ishl, 1) := by decide +kernel
theorem dX5_pair_87 : decode cX5_pair 87 = .ok (.ixor, 1) := by decide +kernel
theorem dX5_pair_88 : decode cX5_pair 88 = .ok (.invokevirtual 185, 3) := by decide +kernel
theorem dX5_pair_91 : decode cX5_pair 91 = .ok (.ixor, 1) := by decide +kernel
theorem dX5_pair_92 : decode cX5_pair 92 = .ok (.ireturn, 1) := by decide +kernel
theorem dX5_total_0 : decode cX5_total 0 = .ok (.aload_n 0, 1) := by decide +kernel
theorem dX5_total_1 : decode cX5_total 1 = .ok (.iconst 0, 1) := by decide +kernel
theorem dX5_total_2 : decode cX5_total 2 = .ok (.putfield 45, 3) := by decide +kernel
theorem dX5_total_5 : decode cX5_total 5 = .ok (.iconst 0, 1) := by decide +kernel
theorem dX5_total_6 : decode cX5_total 6 = .ok (.istore_n 2, 1) := by decide +kernel
theorem dX5_total_7 : decode cX5_total 7 = .ok (.iconst 1, 1) := by decide +kernel
theorem dX5_total_8 : decode cX5_total 8 = .ok (.istore_n 3, 1) := by decide +kernel
theorem dX5_total_9 : decode cX5_total 9 = .ok (.iload_n 3, 1) := by decide +kernel
theorem dX5_total_10 : decode cX5_total 10 = .ok (.bipush 9, 2) := by decide +kernel
theorem dX5_total_12 : decode cX5_total 12 = .ok (.if_icmp .gt 26, 3) := by decide +kernel
theorem dX5_total_15 : decode cX5_total 15 = .ok (.iload_n 2, 1) := by decide +kernel
theorem dX5_total_16 : decode cX5_total 16 = .ok (.aload_n 0, 1) := by decide +kernel
theorem dX5_total_17 : decode cX5_total 17 = .ok (.getfield 17, 3) := by decide +kernel
theorem dX5_total_20 : decode cX5_total 20 = .ok (.iload_n 3, 1) := by decide +kernel
theorem dX5_total_21 : decode cX5_total 21 = .ok (.iaload, 1) := by decide +kernel
theorem dX5_total_22 : decode cX5_total 22 = .ok (.ifCond .ne 7, 3) := by decide +kernel
theorem dX5_total_25 : decode cX5_total 25 = .ok (.iconst 1, 1) := by decide +kernel
theorem dX5_total_26 : decode cX5_total 26 = .ok (.goto 4, 3) := by decide +kernel
theorem dX5_total_29 : decode cX5_total 29 = .ok (.iconst 0, 1) := by decide +kernel
theorem dX5_total_30 : decode cX5_total 30 = .ok (.iadd, 1) := by decide +kernel
theorem dX5_total_31 : decode cX5_total 31 = .ok (.istore_n 2, 1) := by decide +kernel
theorem dX5_total_32 : decode cX5_total 32 = .ok (.iinc 3 1, 3) := by decide +kernel
theorem dX5_total_35 : decode cX5_total 35 = .ok (.goto (-26), 3) := by decide +kernel
theorem dX5_total_38 : decode cX5_total 38 = .ok (.iload_n 1, 1) := by decide +kernel
theorem dX5_total_39 : decode cX5_total 39 = .ok (.tableswitch 93 0 6 #[41, 46, 51, 56, 61, 63, 76], 41) := by decide +kernel
theorem dX5_total_80 : decode cX5_total 80 = .ok (.aload_n 0, 1) := by decide +kernel
theorem dX5_total_81 : decode cX5_total 81 = .ok (.invokevirtual 57, 3) := by decide +kernel
theorem dX5_total_84 : decode cX5_total 84 = .ok (.ireturn, 1) := by decide +kernel
theorem dX5_total_85 : decode cX5_total 85 = .ok (.aload_n 0, 1) := by decide +kernel
theorem dX5_total_86 : decode cX5_total 86 = .ok (.getfield 144, 3) := by decide +kernel
theorem dX5_total_89 : decode cX5_total 89 = .ok (.ireturn, 1) := by decide +kernel
theorem dX5_total_90 : decode cX5_total 90 = .ok (.aload_n 0, 1) := by decide +kernel
theorem dX5_total_91 : decode cX5_total 91 = .ok (.getfield 147, 3) := by decide +kernel
theorem dX5_total_94 : decode cX5_total 94 = .ok (.ireturn, 1) := by decide +kernel
theorem dX5_total_95 : decode cX5_total 95 = .ok (.aload_n 0, 1) := by decide +kernel
theorem dX5_total_96 : decode cX5_total 96 = .ok (.getfield 115, 3) := by decide +kernel
theorem dX5_total_99 : decode cX5_total 99 = .ok (.ireturn, 1) := by decide +kernel
theorem dX5_total_100 : decode cX5_total 100 = .ok (.iload_n 2, 1) := by decide +kernel
theorem dX5_total_101 : decode cX5_total 101 = .ok (.ireturn, 1) := by decide +kernel
theorem dX5_total_102 : decode cX5_total 102 = .ok (.aload_n 0, 1) := by decide +kernel
theorem dX5_total_103 : decode cX5_total 103 = .ok (.getfield 90, 3) := by decide +kernel
theorem dX5_total_106 : decode cX5_total 106 = .ok (.ifCond .eq 7, 3) := by decide +kernel
theorem dX5_total_109 : decode cX5_total 109 = .ok (.iconst 1, 1) := by decide +kernel
theorem dX5_total_110 : decode cX5_total 110 = .ok (.goto 4, 3) := by decide +kernel
theorem dX5_total_113 : decode cX5_total 113 = .ok (.iconst 0, 1) := by decide +kernel
theorem dX5_total_114 : decode cX5_total 114 = .ok (.ireturn, 1) := by decide +kernel
theorem dX5_total_115 : decode cX5_total 115 = .ok (.aload_n 0, 1) := by decide +kernel
theorem dX5_total_116 : decode cX5_total 116 = .ok (.getfield 90, 3) := by decide +kernel
theorem dX5_total_119 : decode cX5_total 119 = .ok (.ifCond .eq 10, 3) := by decide +kernel
theorem dX5_total_122 : decode cX5_total 122 = .ok (.aload_n 0, 1) := by decide +kernel
theorem dX5_total_123 : decode cX5_total 123 = .ok (.invokevirtual 81, 3) := by decide +kernel
theorem dX5_total_126 : decode cX5_total 126 = .ok (.goto 5, 3) := by decide +kernel
theorem dX5_total_129 : decode cX5_total 129 = .ok (.bipush (-9), 2) := by decide +kernel
theorem dX5_total_131 : decode cX5_total 131 = .ok (.ireturn, 1) := by decide +kernel
theorem dX5_total_132 : decode cX5_total 132 = .ok (.bipush (-2), 2) := by decide +kernel
theorem dX5_total_134 : decode cX5_total 134 = .ok (.ireturn, 1) := by decide +kernel
theorem dJ6_bitCount_0f7a4_0 : decode cJ6_bitCount_0f7a4 0 = .ok (.iload_n 0, 1) := by decide +kernel
theorem dJ6_bitCount_0f7a4_1 : decode cJ6_bitCount_0f7a4 1 = .ok (.iload_n 0, 1) := by decide +kernel
theorem dJ6_bitCount_0f7a4_2 : decode cJ6_bitCount_0f7a4 2 = .ok (.iconst 1, 1) := by decide +kernel
theorem dJ6_bitCount_0f7a4_3 : decode cJ6_bitCount_0f7a4 3 = .ok (.iushr, 1) := by decide +kernel
theorem dJ6_bitCount_0f7a4_4 : decode cJ6_bitCount_0f7a4 4 = .ok (.ldc_w 265, 3) := by decide +kernel
theorem dJ6_bitCount_0f7a4_7 : decode cJ6_bitCount_0f7a4 7 = .ok (.iand, 1) := by decide +kernel
theorem dJ6_bitCount_0f7a4_8 : decode cJ6_bitCount_0f7a4 8 = .ok (.isub, 1) := by decide +kernel
theorem dJ6_bitCount_0f7a4_9 : decode cJ6_bitCount_0f7a4 9 = .ok (.istore_n 0, 1) := by decide +kernel
theorem dJ6_bitCount_0f7a4_10 : decode cJ6_bitCount_0f7a4 10 = .ok (.iload_n 0, 1) := by decide +kernel
theorem dJ6_bitCount_0f7a4_11 : decode cJ6_bitCount_0f7a4 11 = .ok (.ldc_w 266, 3) := by decide +kernel
theorem dJ6_bitCount_0f7a4_14 : decode cJ6_bitCount_0f7a4 14 = .ok (.iand, 1) := by decide +kernel
theorem dJ6_bitCount_0f7a4_15 : decode cJ6_bitCount_0f7a4 15 = .ok (.iload_n 0, 1) := by decide +kernel
theorem dJ6_bitCount_0f7a4_16 : decode cJ6_bitCount_0f7a4 16 = .ok (.iconst 2, 1) := by decide +kernel
theorem dJ6_bitCount_0f7a4_17 : decode cJ6_bitCount_0f7a4 17 = .ok (.iushr, 1) := by decide +kernel
theorem dJ6_bitCount_0f7a4_18 : decode cJ6_bitCount_0f7a4 18 = .ok (.ldc_w 266, 3) := by decide +kernel
theorem dJ6_bitCount_0f7a4_21 : decode cJ6_bitCount_0f7a4 21 = .ok (.iand, 1) := by decide +kernel
theorem dJ6_bitCount_0f7a4_22 : decode cJ6_bitCount_0f7a4 22 = .ok (.iadd, 1) := by decide +kernel
theorem dJ6_bitCount_0f7a4_23 : decode cJ6_bitCount_0f7a4 23 = .ok (.istore_n 0, 1) := by decide +kernel
theorem dJ6_bitCount_0f7a4_24 : decode cJ6_bitCount_0f7a4 24 = .ok (.iload_n 0, 1) := by decide +kernel
theorem dJ6_bitCount_0f7a4_25 : decode cJ6_bitCount_0f7a4 25 = .ok (.iload_n 0, 1) := by decide +kernel
theorem dJ6_bitCount_0f7a4_26 : decode cJ6_bitCount_0f7a4 26 = .ok (.iconst 4, 1) := by decide +kernel
theorem dJ6_bitCount_0f7a4_27 : decode cJ6_bitCount_0f7a4 27 = .ok (.iushr, 1) := by decide +kernel
theorem dJ6_bitCount_0f7a4_28 : decode cJ6_bitCount_0f7a4 28 = .ok (.iadd, 1) := by decide +kernel
theorem dJ6_bitCount_0f7a4_29 : decode cJ6_bitCount_0f7a4 29 = .ok (.ldc_w 267, 3) := by decide +kernel
theorem dJ6_bitCount_0f7a4_32 : decode cJ6_bitCount_0f7a4 32 = .ok (.iand, 1) := by decide +kernel
theorem dJ6_bitCount_0f7a4_33 : decode cJ6_bitCount_0f7a4 33 = .ok (.istore_n 0, 1) := by decide +kernel
theorem dJ6_bitCount_0f7a4_34 : decode cJ6_bitCount_0f7a4 34 = .ok (.iload_n 0, 1) := by decide +kernel
theorem dJ6_bitCount_0f7a4_35 : decode cJ6_bitCount_0f7a4 35 = .ok (.iload_n 0, 1) := by decide +kernel
theorem dJ6_bitCount_0f7a4_36 : decode cJ6_bitCount_0f7a4 36 = .ok (.bipush 8, 2) := by decide +kernel
theorem dJ6_bitCount_0f7a4_38 : decode cJ6_bitCount_0f7a4 38 = .ok (.iushr, 1) := by decide +kernel
theorem dJ6_bitCount_0f7a4_39 : decode cJ6_bitCount_0f7a4 39 = .ok (.iadd, 1) := by decide +kernel
theorem dJ6_bitCount_0f7a4_40 : decode cJ6_bitCount_0f7a4 40 = .ok (.istore_n 0, 1) := by decide +kernel
theorem dJ6_bitCount_0f7a4_41 : decode cJ6_bitCount_0f7a4 41 = .ok (.iload_n 0, 1) := by decide +kernel
theorem dJ6_bitCount_0f7a4_42 : decode cJ6_bitCount_0f7a4 42 = .ok (.iload_n 0, 1) := by decide +kernel
theorem dJ6_bitCount_0f7a4_43 : decode cJ6_bitCount_0f7a4 43 = .ok (.bipush 16, 2) := by decide +kernel
theorem dJ6_bitCount_0f7a4_45 : decode cJ6_bitCount_0f7a4 45 = .ok (.iushr, 1) := by decide +kernel
theorem dJ6_bitCount_0f7a4_46 : decode cJ6_bitCount_0f7a4 46 = .ok (.iadd, 1) := by decide +kernel
theorem dJ6_bitCount_0f7a4_47 : decode cJ6_bitCount_0f7a4 47 = .ok (.istore_n 0, 1) := by decide +kernel
theorem dJ6_bitCount_0f7a4_48 : decode cJ6_bitCount_0f7a4 48 = .ok (.iload_n 0, 1) := by decide +kernel
theorem dJ6_bitCount_0f7a4_49 : decode cJ6_bitCount_0f7a4 49 = .ok (.bipush 63, 2) := by decide +kernel
theorem dJ6_bitCount_0f7a4_51 : decode cJ6_bitCount_0f7a4 51 = .ok (.iand, 1) := by decide +kernel
theorem dJ6_bitCount_0f7a4_52 : decode cJ6_bitCount_0f7a4 52 = .ok (.ireturn, 1) := by decide +kernel
theorem dL_law_0 : decode cL_law 0 = .ok (.new 7, 3) := by decide +kernel
theorem dL_law_3 : decode cL_law 3 = .ok (.dup, 1) := by decide +kernel
theorem dL_law_4 : decode cL_law 4 = .ok (.invokespecial 9, 3) := by decide +kernel
theorem dL_law_7 : decode cL_law 7 = .ok (.astore_n 1, 1) := by decide +kernel
theorem dL_law_8 : decode cL_law 8 = .ok (.new 10, 3) := by decide +kernel
theorem dL_law_11 : decode cL_law 11 = .ok (.dup, 1) := by decide +kernel
theorem dL_law_12 : decode cL_law 12 = .ok (.invokespecial 12, 3) := by decide +kernel
theorem dL_law_15 : decode cL_law 15 = .ok (.astore_n 2, 1) := by decide +kernel
theorem dL_law_16 : decode cL_law 16 = .ok (.iconst 0, 1) := by decide +kernel
theorem dL_law_17 : decode cL_law 17 = .ok (.istore_n 3, 1) := by decide +kernel
theorem dL_law_18 : decode cL_law 18 = .ok (.iload_n 3, 1) := by decide +kernel
theorem dL_law_19 : decode cL_law 19 = .ok (.aload_n 0, 1) := by decide +kernel
theorem dL_law_20 : decode cL_law 20 = .ok (.arraylength, 1) := by decide +kernel
theorem dL_law_21 : decode cL_law 21 = .ok (.iconst 5, 1) := by decide +kernel
theorem dL_law_22 : decode cL_law 22 = .ok (.isub, 1) := by decide +kernel
theorem dL_law_23 : decode cL_law 23 = .ok (.if_icmp .gt 833, 3) := by decide +kernel
theorem dL_law_26 : decode cL_law 26 = .ok (.aload_n 0, 1) := by decide +kernel
theorem dL_law_27 : decode cL_law 27 = .ok (.iload_n 3, 1) := by decide +kernel
theorem dL_law_28 : decode cL_law 28 = .ok (.iaload, 1) := by decide +kernel
theorem dL_law_29 : decode cL_law 29 = .ok (.bipush 31, 2) := by decide +kernel
theorem dL_law_31 : decode cL_law 31 = .ok (.iand, 1) := by decide +kernel
theorem dL_law_32 : decode cL_law 32 = .ok (.tableswitch 818 0 22 #[108, 131, 164, 187, 230, 273, 306, 349, 392, 415, 448, 471, 514, 537, 560, 583, 617, 640, 663, 676, 709, 742, 795], 108) := by decide +kernel
theorem dL_law_140 : decode cL_law 140 = .ok (.aload_n 1, 1) := by decide +kernel
theorem dL_law_141 : decode cL_law 141 = .ok (.aload_n 0, 1) := by decide +kernel
theorem dL_law_142 : decode cL_law 142 = .ok (.iload_n 3, 1) := by decide +kernel
theorem dL_law_143 : decode cL_law 143 = .ok (.iconst 1, 1) := by decide +kernel
theorem dL_law_144 : decode cL_law 144 = .ok (.iadd, 1) := by decide +kernel
theorem dL_law_145 : decode cL_law 145 = .ok (.iaload, 1) := by decide +kernel
theorem dL_law_146 : decode cL_law 146 = .ok (.invokevirtual 13, 3) := by decide +kernel
theorem dL_law_149 : decode cL_law 149 = .ok (.aload_n 2, 1) := by decide +kernel
theorem dL_law_150 : decode cL_law 150 = .ok (.aload_n 0, 1) := by decide +kernel
theorem dL_law_151 : decode cL_law 151 = .ok (.iload_n 3, 1) := by decide +kernel
theorem dL_law_152 : decode cL_law 152 = .ok (.iconst 1, 1) := by decide +kernel
theorem dL_law_153 : decode cL_law 153 = .ok (.iadd, 1) := by decide +kernel
theorem dL_law_154 : decode cL_law 154 = .ok (.iaload, 1) := by decide +kernel
theorem dL_law_155 : decode cL_law 155 = .ok (.invokevirtual 17, 3) := by decide +kernel
theorem dL_law_158 : decode cL_law 158 = .ok (.if_icmp .eq 692, 3) := by decide +kernel
theorem dL_law_161 : decode cL_law 161 = .ok (.iconst 0, 1) := by decide +kernel
theorem dL_law_162 : decode cL_law 162 = .ok (.ireturn, 1) := by decide +kernel
theorem dL_law_163 : decode cL_law 163 = .ok (.aload_n 1, 1) := by decide +kernel
theorem dL_law_164 : decode cL_law 164 = .ok (.aload_n 0, 1) := by decide +kernel
theorem dL_law_165 : decode cL_law 165 = .ok (.iload_n 3, 1) := by decide +kernel
theorem dL_law_166 : decode cL_law 166 = .ok (.iconst 1, 1) := by decide +kernel
theorem dL_law_167 : decode cL_law 167 = .ok (.iadd, 1) := by decide +kernel
theorem dL_law_168 : decode cL_law 168 = .ok (.iaload, 1) := by decide +kernel
theorem dL_law_169 : decode cL_law 169 = .ok (.aload_n 0, 1) := by decide +kernel
theorem dL_law_170 : decode cL_law 170 = .ok (.iload_n 3, 1) := by decide +kernel
theorem dL_law_171 : decode cL_law 171 = .ok (.iconst 2, 1) := by decide +kernel
theorem dL_law_172 : decode cL_law 172 = .ok (.iadd, 1) := by decide +kernel
theorem dL_law_173 : decode cL_law 173 = .ok (.iaload, 1) := by decide +kernel
theorem dL_law_174 : decode cL_law 174 = .ok (.invokevirtual 18, 3) := by decide +kernel
theorem dL_law_177 : decode cL_law 177 = .ok (.aload_n 2, 1) := by decide +kernel
theorem dL_law_178 : decode cL_law 178 = .ok (.aload_n 0, 1) := by decide +kernel
theorem dL_law_179 : decode cL_law 179 = .ok (.iload_n 3, 1) := by decide +kernel
theorem dL_law_180 : decode cL_law 180 = .ok (.iconst 1, 1) := by decide +kernel
theorem dL_law_181 : decode cL_law 181 = .ok (.iadd, 1) := by decide +kernel
theorem dL_law_182 : decode cL_law 182 = .ok (.iaload, 1) := by decide +kernel
theorem dL_law_183 : decode cL_law 183 = .ok (.aload_n 0, 1) := by decide +kernel
theorem dL_law_184 : decode cL_law 184 = .ok (.iload_n 3, 1) := by decide +kernel
theorem dL_law_185 : decode cL_law 185 = .ok (.iconst 2, 1) := by decide +kernel
theorem dL_law_186 : decode cL_law 186 = .ok (.iadd, 1) := by decide +kernel
theorem dL_law_187 : decode cL_law 187 = .ok (.iaload, 1) := by decide +kernel
theorem dL_law_188 : decode cL_law 188 = .ok (.invokevirtual 22, 3) := by decide +kernel
theorem dL_law_191 : decode cL_law 191 = .ok (.if_icmp .eq 659, 3) := by decide +kernel
theorem dL_law_194 : decode cL_law 194 = .ok (.iconst 0, 1) := by decide +kernel
theorem dL_law_195 : decode cL_law 195 = .ok (.ireturn, 1) := by decide +kernel
theorem dL_law_196 : decode cL_law 196 = .ok (.aload_n 1, 1) := by decide +kernel
theorem dL_law_197 : decode cL_law 197 = .ok (.aload_n 0, 1) := by decide +kernel
theorem dL_law_198 : decode cL_law 198 = .ok (.iload_n 3, 1) := by decide +kernel
theorem dL_law_199 : decode cL_law 199 = .ok (.iconst 1, 1) := by decide +kernel
theorem dL_law_200 : decode cL_law 200 = .ok (.iadd, 1) := by decide +kernel
theorem dL_law_201 : decode cL_law 201 = .ok (.iaload, 1) := by decide +kernel
theorem dL_law_202 : decode cL_law 202 = .ok (.invokevirtual 23, 3) := by decide +kernel
theorem dL_law_205 : decode cL_law 205 = .ok (.aload_n 2, 1) := by decide +kernel
theorem dL_law_206 : decode cL_law 206 = .ok (.aload_n 0, 1) := by decide +kernel
theorem dL_law_207 : decode cL_law 207 = .ok (.iload_n 3, 1) := by decide +kernel
theorem dL_law_208 : decode cL_law 208 = .ok (.iconst 1, 1) := by decide +kernel
theorem dL_law_209 : decode cL_law 209 = .ok (.iadd, 1) := by decide +kernel
theorem dL_law_210 : decode cL_law 210 = .ok (.iaload, 1) := by decide +kernel
theorem dL_law_211 : decode cL_law 211 = .ok (.invokevirtual 26, 3) := by decide +kernel
theorem dL_law_214 : decode cL_law 214 = .ok (.if_icmp .eq 636, 3) := by decide +kernel
theorem dL_law_217 : decode cL_law 217 = .ok (.iconst 0, 1) := by decide +kernel
theorem dL_law_218 : decode cL_law 218 = .ok (.ireturn, 1) := by decide +kernel
theorem dL_law_219 : decode cL_law 219 = .ok (.aload_n 1, 1) := by decide +kernel
theorem dL_law_220 : decode cL_law 220 = .ok (.aload_n 0, 1) := by decide +kernel
theorem dL_law_221 : decode cL_law 221 = .ok (.iload_n 3, 1) := by decide +kernel
theorem dL_law_222 : decode cL_law 222 = .ok (.iconst 1, 1) := by decide +kernel
theorem dL_law_223 : decode cL_law 223 = .ok (.iadd, 1) := by decide +kernel
theorem dL_law_224 : decode cL_law 224 = .ok (.iaload, 1) := by decide +kernel
theorem dL_law_225 : decode cL_law 225 = .ok (.aload_n 0, 1) := by decide +kernel
theorem dL_law_226 : decode cL_law 226 = .ok (.iload_n 3, 1) := by decide +kernel
theorem dL_law_227 : decode cL_law 227 = .ok (.iconst 2, 1) := by decide +kernel
theorem dL_law_228 : decode cL_law 228 = .ok (.iadd, 1) := by decide +kernel
theorem dL_law_229 : decode cL_law 229 = .ok (.iaload, 1) := by decide +kernel
theorem dL_law_230 : decode cL_law 230 = .ok (.aload_n 0, 1) := by decide +kernel
theorem dL_law_231 : decode cL_law 231 = .ok (.iload_n 3, 1) := by decide +kernel
theorem dL_law_232 : decode cL_law 232 = .ok (.iconst 3, 1) := by decide +kernel
theorem dL_law_233 : decode cL_law 233 = .ok (.iadd, 1) := by decide +kernel
theorem dL_law_234 : decode cL_law 234 = .ok (.iaload, 1) := by decide +kernel
theorem dL_law_235 : decode cL_law 235 = .ok (.invokevirtual 27, 3) := by decide +kernel
theorem dL_law_238 : decode cL_law 238 = .ok (.aload_n 2, 1) := by decide +kernel
theorem dL_law_239 : decode cL_law 239 = .ok (.aload_n 0, 1) := by decide +kernel
theorem dL_law_240 : decode cL_law 240 = .ok (.iload_n 3, 1) := by decide +kernel
theorem dL_law_241 : decode cL_law 241 = .ok (.iconst 1, 1) := by decide +kernel
theorem dL_law_242 : decode cL_law 242 = .ok (.iadd, 1) := by decide +kernel
theorem dL_law_243 : decode cL_law 243 = .ok (.iaload, 1) := by decide +kernel
theorem dL_law_244 : decode cL_law 244 = .ok (.aload_n 0, 1) := by decide +kernel
theorem dL_law_245 : decode cL_law 245 = .ok (.iload_n 3, 1) := by decide +kernel
theorem dL_law_246 : decode cL_law 246 = .ok (.iconst 2, 1) := by decide +kernel
theorem dL_law_247 : decode cL_law 247 = .ok (.iadd, 1) := by decide +kernel
theorem dL_law_248 : decode cL_law 248 = .ok (.iaload, 1) := by decide +kernel
theorem dL_law_249 : decode cL_law 249 = .ok (.aload_n 0, 1) := by decide +kernel
theorem dL_law_250 : decode cL_law 250 = .ok (.iload_n 3, 1) := by decide +kernel
theorem dL_law_251 : decode cL_law 251 = .ok (.iconst 3, 1) := by decide +kernel
theorem dL_law_252 : decode cL_law 252 = .ok (.iadd, 1) := by decide +kernel
theorem dL_law_253 : decode cL_law 253 = .ok (.iaload, 1) := by decide +kernel
theorem dL_law_254 : decode cL_law 254 = .ok (.invokevirtual 31, 3) := by decide +kernel
theorem dL_law_257 : decode cL_law 257 = .ok (.if_icmp .eq 593, 3) := by decide +kernel
theorem dL_law_260 : decode cL_law 260 = .ok (.iconst 0, 1) := by decide +kernel
theorem dL_law_261 : decode cL_law 261 = .ok (.ireturn, 1) := by decide +kernel
theorem dL_law_262 : decode cL_law 262 = .ok (.aload_n 1, 1) := by decide +kernel
theorem dL_law_263 : decode cL_law 263 = .ok (.aload_n 0, 1) := by decide +kernel
theorem dL_law_264 : decode cL_law 264 = .ok (.iload_n 3, 1) := by decide +kernel
theorem dL_law_265 : decode cL_law 265 = .ok (.iconst 1, 1) := by decide +kernel
theorem dL_law_266 : decode cL_law 266 = .ok (.iadd, 1) := by decide +kernel
theorem dL_law_267 : decode cL_law 267 = .ok (.iaload, 1) := by decide +kernel
theorem dL_law_268 : decode cL_law 268 = .ok (.aload_n 0, 1) := by decide +kernel
theorem dL_law_269 : decode cL_law 269 = .ok (.iload_n 3, 1) := by decide +kernel
theorem dL_law_270 : decode cL_law 270 = .ok (.iconst 2, 1) := by decide +kernel
theorem dL_law_271 : decode cL_law 271 = .ok (.iadd, 1) := by decide +kernel
theorem dL_law_272 : decode cL_law 272 = .ok (.iaload, 1) := by decide +kernel
theorem dL_law_273 : decode cL_law 273 = .ok (.aload_n 0, 1) := by decide +kernel
theorem dL_law_274 : decode cL_law 274 = .ok (.iload_n 3, 1) := by decide +kernel
theorem dL_law_275 : decode cL_law 275 = .ok (.iconst 3, 1) := by decide +kernel
theorem dL_law_276 : decode cL_law 276 = .ok (.iadd, 1) := by decide +kernel
theorem dL_law_277 : decode cL_law 277 = .ok (.iaload, 1) := by decide +kernel
theorem dL_law_278 : decode cL_law 278 = .ok (.invokevirtual 32, 3) := by decide +kernel
theorem dL_law_281 : decode cL_law 281 = .ok (.aload_n 2, 1) := by decide +kernel
theorem dL_law_282 : decode cL_law 282 = .ok (.aload_n 0, 1) := by decide +kernel
theorem dL_law_283 : decode cL_law 283 = .ok (.iload_n 3, 1) := by decide +kernel
theorem dL_law_284 : decode cL_law 284 = .ok (.iconst 1, 1) := by decide +kernel
theorem dL_law_285 : decode cL_law 285 = .ok (.iadd, 1) := by decide +kernel
theorem dL_law_286 : decode cL_law 286 = .ok (.iaload, 1) := by decide +kernel
theorem dL_law_287 : decode cL_law 287 = .ok (.aload_n 0, 1) := by decide +kernel
theorem dL_law_288 : decode cL_law 288 = .ok (.iload_n 3, 1) := by decide +kernel
theorem dL_law_289 : decode cL_law 289 = .ok (.iconst 2, 1) := by decide +kernel
theorem dL_law_290 : decode cL_law 290 = .ok (.iadd, 1) := by decide +kernel
theorem dL_law_291 : decode cL_law 291 = .ok (.iaload, 1) := by decide +kernel
theorem dL_law_292 : decode cL_law 292 = .ok (.aload_n 0, 1) := by decide +kernel
theorem dL_law_293 : decode cL_law 293 = .ok (.iload_n 3, 1) := by decide +kernel
theorem dL_law_294 : decode cL_law 294 = .ok (.iconst 3, 1) := by decide +kernel
theorem dL_law_295 : decode cL_law 295 = .ok (.iadd, 1) := by decide +kernel
theorem dL_law_296 : decode cL_law 296 = .ok (.iaload, 1) := by decide +kernel
theorem dL_law_297 : decode cL_law 297 = .ok (.invokevirtual 35, 3) := by decide +kernel
theorem dL_law_300 : decode cL_law 300 = .ok (.if_icmp .eq 550, 3) := by decide +kernel
theorem dL_law_303 : decode cL_law 303 = .ok (.iconst 0, 1) := by decide +kernel
theorem dL_law_304 : decode cL_law 304 = .ok (.ireturn, 1) := by decide +kernel
theorem dL_law_305 : decode cL_law 305 = .ok (.aload_n 1, 1) := by decide +kernel
theorem dL_law_306 : decode cL_law 306 = .ok (.aload_n 0, 1) := by decide +kernel
theorem dL_law_307 : decode cL_law 307 = .ok (.iload_n 3, 1) := by decide +kernel
theorem dL_law_308 : decode cL_law 308 = .ok (.iconst 1, 1) := by decide +kernel
theorem dL_law_309 : decode cL_law 309 = .ok (.iadd, 1) := by decide +kernel
theorem dL_law_310 : decode cL_law 310 = .ok (.iaload, 1) := by decide +kernel
theorem dL_law_311 : decode cL_law 311 = .ok (.aload_n 0, 1) := by decide +kernel
theorem dL_law_312 : decode cL_law 312 = .ok (.iload_n 3, 1) := by decide +kernel
theorem dL_law_313 : decode cL_law 313 = .ok (.iconst 2, 1) := by decide +kernel
theorem dL_law_314 : decode cL_law 314 = .ok (.iadd, 1) := by decide +kernel
theorem dL_law_315 : decode cL_law 315 = .ok (.iaload, 1) := by decide +kernel
theorem dL_law_316 : decode cL_law 316 = .ok (.invokevirtual 36, 3) := by decide +kernel
theorem dL_law_319 : decode cL_law 319 = .ok (.aload_n 2, 1) := by decide +kernel
theorem dL_law_320 : decode cL_law 320 = .ok (.aload_n 0, 1) := by decide +kernel
theorem dL_law_321 : decode cL_law 321 = .ok (.iload_n 3, 1) := by decide +kernel
theorem dL_law_322 : decode cL_law 322 = .ok (.iconst 1, 1) := by decide +kernel
theorem dL_law_323 : decode cL_law 323 = .ok (.iadd, 1) := by decide +kernel
theorem dL_law_324 : decode cL_law 324 = .ok (.iaload, 1) := by decide +kernel
theorem dL_law_325 : decode cL_law 325 = .ok (.aload_n 0, 1) := by decide +kernel
theorem dL_law_326 : decode cL_law 326 = .ok (.iload_n 3, 1) := by decide +kernel
theorem dL_law_327 : decode cL_law 327 = .ok (.iconst 2, 1) := by decide +kernel
theorem dL_law_328 : decode cL_law 328 = .ok (.iadd, 1) := by decide +kernel
theorem dL_law_329 : decode cL_law 329 = .ok (.iaload, 1) := by decide +kernel
theorem dL_law_330 : decode cL_law 330 = .ok (.invokevirtual 39, 3) := by decide +kernel
theorem dL_law_333 : decode cL_law 333 = .ok (.if_icmp .eq 517, 3) := by decide +kernel
theorem dL_law_336 : decode cL_law 336 = .ok (.iconst 0, 1) := by decide +kernel
theorem dL_law_337 : decode cL_law 337 = .ok (.ireturn, 1) := by decide +kernel
theorem dL_law_338 : decode cL_law 338 = .ok (.aload_n 1, 1) := by decide +kernel
theorem dL_law_339 : decode cL_law 339 = .ok (.aload_n 0, 1) := by decide +kernel
theorem dL_law_340 : decode cL_law 340 = .ok (.iload_n 3, 1) := by decide +kernel
theorem dL_law_341 : decode cL_law 341 = .ok (.iconst 1, 1) := by decide +kernel
theorem dL_law_342 : decode cL_law 342 = .ok (.iadd, 1) := by decide +kernel
theorem dL_law_343 : decode cL_law 343 = .ok (.iaload, 1) := by decide +kernel
theorem dL_law_344 : decode cL_law 344 = .ok (.aload_n 0, 1) := by decide +kernel
theorem dL_law_345 : decode cL_law 345 = .ok (.iload_n 3, 1) := by decide +kernel
theorem dL_law_346 : decode cL_law 346 = .ok (.iconst 2, 1) := by decide +kernel
theorem dL_law_347 : decode cL_law 347 = .ok (.iadd, 1) := by decide +kernel
theorem dL_law_348 : decode cL_law 348 = .ok (.iaload, 1) := by decide +kernel
theorem dL_law_349 : decode cL_law 349 = .ok (.aload_n 0, 1) := by decide +kernel
theorem dL_law_350 : decode cL_law 350 = .ok (.iload_n 3, 1) := by decide +kernel
theorem dL_law_351 : decode cL_law 351 = .ok (.iconst 3, 1) := by decide +kernel
theorem dL_law_352 : decode cL_law 352 = .ok (.iadd, 1) := by decide +kernel
theorem dL_law_353 : decode cL_law 353 = .ok (.iaload, 1) := by decide +kernel
theorem dL_law_354 : decode cL_law 354 = .ok (.invokevirtual 40, 3) := by decide +kernel
theorem dL_law_357 : decode cL_law 357 = .ok (.aload_n 2, 1) := by decide +kernel
theorem dL_law_358 : decode cL_law 358 = .ok (.aload_n 0, 1) := by decide +kernel
theorem dL_law_359 : decode cL_law 359 = .ok (.iload_n 3, 1) := by decide +kernel
theorem dL_law_360 : decode cL_law 360 = .ok (.iconst 1, 1) := by decide +kernel
theorem dL_law_361 : decode cL_law 361 = .ok (.iadd, 1) := by decide +kernel
theorem dL_law_362 : decode cL_law 362 = .ok (.iaload, 1) := by decide +kernel
theorem dL_law_363 : decode cL_law 363 = .ok (.aload_n 0, 1) := by decide +kernel
theorem dL_law_364 : decode cL_law 364 = .ok (.iload_n 3, 1) := by decide +kernel
theorem dL_law_365 : decode cL_law 365 = .ok (.iconst 2, 1) := by decide +kernel
theorem dL_law_366 : decode cL_law 366 = .ok (.iadd, 1) := by decide +kernel
theorem dL_law_367 : decode cL_law 367 = .ok (.iaload, 1) := by decide +kernel
theorem dL_law_368 : decode cL_law 368 = .ok (.aload_n 0, 1) := by decide +kernel
theorem dL_law_369 : decode cL_law 369 = .ok (.iload_n 3, 1) := by decide +kernel
theorem dL_law_370 : decode cL_law 370 = .ok (.iconst 3, 1) := by decide +kernel
theorem dL_law_371 : decode cL_law 371 = .ok (.iadd, 1) := by decide +kernel
theorem dL_law_372 : decode cL_law 372 = .ok (.iaload, 1) := by decide +kernel
theorem dL_law_373 : decode cL_law 373 = .ok (.invokevirtual 43, 3) := by decide +kernel
theorem dL_law_376 : decode cL_law 376 = .ok (.if_icmp .eq 474, 3) := by decide +kernel
theorem dL_law_379 : decode cL_law 379 = .ok (.iconst 0, 1) := by decide +kernel
theorem dL_law_380 : decode cL_law 380 = .ok (.ireturn, 1) := by decide +kernel
theorem dL_law_381 : decode cL_law 381 = .ok (.aload_n 1, 1) := by decide +kernel
theorem dL_law_382 : decode cL_law 382 = .ok (.aload_n 0, 1) := by decide +kernel
theorem dL_law_383 : decode cL_law 383 = .ok (.iload_n 3, 1) := by decide +kernel
theorem dL_law_384 : decode cL_law 384 = .ok (.iconst 1, 1) := by decide +kernel
theorem dL_law_385 : decode cL_law 385 = .ok (.iadd, 1) := by decide +kernel
theorem dL_law_386 : decode cL_law 386 = .ok (.iaload, 1) := by decide +kernel
theorem dL_law_387 : decode cL_law 387 = .ok (.aload_n 0, 1) := by decide +kernel
theorem dL_law_388 : decode cL_law 388 = .ok (.iload_n 3, 1) := by decide +kernel
theorem dL_law_389 : decode cL_law 389 = .ok (.iconst 2, 1) := by decide +kernel
theorem dL_law_390 : decode cL_law 390 = .ok (.iadd, 1) := by decide +kernel
theorem dL_law_391 : decode cL_law 391 = .ok (.iaload, 1) := by decide +kernel
theorem dL_law_392 : decode cL_law 392 = .ok (.aload_n 0, 1) := by decide +kernel
theorem dL_law_393 : decode cL_law 393 = .ok (.iload_n 3, 1) := by decide +kernel
theorem dL_law_394 : decode cL_law 394 = .ok (.iconst 3, 1) := by decide +kernel
theorem dL_law_395 : decode cL_law 395 = .ok (.iadd, 1) := by decide +kernel
theorem dL_law_396 : decode cL_law 396 = .ok (.iaload, 1) := by decide +kernel
theorem dL_law_397 : decode cL_law 397 = .ok (.invokevirtual 44, 3) := by decide +kernel
theorem dL_law_400 : decode cL_law 400 = .ok (.aload_n 2, 1) := by decide +kernel
theorem dL_law_401 : decode cL_law 401 = .ok (.aload_n 0, 1) := by decide +kernel
theorem dL_law_402 : decode cL_law 402 = .ok (.iload_n 3, 1) := by decide +kernel
theorem dL_law_403 : decode cL_law 403 = .ok (.iconst 1, 1) := by decide +kernel
theorem dL_law_404 : decode cL_law 404 = .ok (.iadd, 1) := by decide +kernel
theorem dL_law_405 : decode cL_law 405 = .ok (.iaload, 1) := by decide +kernel
theorem dL_law_406 : decode cL_law 406 = .ok (.aload_n 0, 1) := by decide +kernel
theorem dL_law_407 : decode cL_law 407 = .ok (.iload_n 3, 1) := by decide +kernel
theorem dL_law_408 : decode cL_law 408 = .ok (.iconst 2, 1) := by decide +kernel
theorem dL_law_409 : decode cL_law 409 = .ok (.iadd, 1) := by decide +kernel
theorem dL_law_410 : decode cL_law 410 = .ok (.iaload, 1) := by decide +kernel
theorem dL_law_411 : decode cL_law 411 = .ok (.aload_n 0, 1) := by decide +kernel
theorem dL_law_412 : decode cL_law 412 = .ok (.iload_n 3, 1) := by decide +kernel
theorem dL_law_413 : decode cL_law 413 = .ok (.iconst 3, 1) := by decide +kernel
theorem dL_law_414 : decode cL_law 414 = .ok (.iadd, 1) := by decide +kernel
theorem dL_law_415 : decode cL_law 415 = .ok (.iaload, 1) := by decide +kernel
theorem dL_law_416 : decode cL_law 416 = .ok (.invokevirtual 47, 3) := by decide +kernel
theorem dL_law_419 : decode cL_law 419 = .ok (.if_icmp .eq 431, 3) := by decide +kernel
theorem dL_law_422 : decode cL_law 422 = .ok (.iconst 0, 1) := by decide +kernel
theorem dL_law_423 : decode cL_law 423 = .ok (.ireturn, 1) := by decide +kernel
theorem dL_law_424 : decode cL_law 424 = .ok (.aload_n 1, 1) := by decide +kernel
theorem dL_law_425 : decode cL_law 425 = .ok (.aload_n 0, 1) := by decide +kernel
theorem dL_law_426 : decode cL_law 426 = .ok (.iload_n 3, 1) := by decide +kernel
theorem dL_law_427 : decode cL_law 427 = .ok (.iconst 1, 1) := by decide +kernel
theorem dL_law_428 : decode cL_law 428 = .ok (.iadd, 1) := by decide +kernel
theorem dL_law_429 : decode cL_law 429 = .ok (.iaload, 1) := by decide +kernel
theorem dL_law_430 : decode cL_law 430 = .ok (.invokevirtual 48, 3) := by decide +kernel
theorem dL_law_433 : decode cL_law 433 = .ok (.aload_n 2, 1) := by decide +kernel
theorem dL_law_434 : decode cL_law 434 = .ok (.aload_n 0, 1) := by decide +kernel
theorem dL_law_435 : decode cL_law 435 = .ok (.iload_n 3, 1) := by decide +kernel
theorem dL_law_436 : decode cL_law 436 = .ok (.iconst 1, 1) := by decide +kernel
theorem dL_law_437 : decode cL_law 437 = .ok (.iadd, 1) := by decide +kernel
theorem dL_law_438 : decode cL_law 438 = .ok (.iaload, 1) := by decide +kernel
theorem dL_law_439 : decode cL_law 439 = .ok (.invokevirtual 51, 3) := by decide +kernel
theorem dL_law_442 : decode cL_law 442 = .ok (.if_icmp .eq 408, 3) := by decide +kernel
theorem dL_law_445 : decode cL_law 445 = .ok (.iconst 0, 1) := by decide +kernel
theorem dL_law_446 : decode cL_law 446 = .ok (.ireturn, 1) := by decide +kernel
theorem dL_law_447 : decode cL_law 447 = .ok (.aload_n 1, 1) := by decide +kernel
theorem dL_law_448 : decode cL_law 448 = .ok (.aload_n 0, 1) := by decide +kernel
theorem dL_law_449 : decode cL_law 449 = .ok (.iload_n 3, 1) := by decide +kernel
theorem dL_law_450 : decode cL_law 450 = .ok (.iconst 1, 1) := by decide +kernel
theorem dL_law_451 : decode cL_law 451 = .ok (.iadd, 1) := by decide +kernel
theorem dL_law_452 : decode cL_law 452 = .ok (.iaload, 1) := by decide +kernel
theorem dL_law_453 : decode cL_law 453 = .ok (.aload_n 0, 1) := by decide +kernel
theorem dL_law_454 : decode cL_law 454 = .ok (.iload_n 3, 1) := by decide +kernel
theorem dL_law_455 : decode cL_law 455 = .ok (.iconst 2, 1) := by decide +kernel
theorem dL_law_456 : decode cL_law 456 = .ok (.iadd, 1) := by decide +kernel
theorem dL_law_457 : decode cL_law 457 = .ok (.iaload, 1) := by decide +kernel
theorem dL_law_458 : decode cL_law 458 = .ok (.invokevirtual 52, 3) := by decide +kernel
theorem dL_law_461 : decode cL_law 461 = .ok (.aload_n 2, 1) := by decide +kernel
theorem dL_law_462 : decode cL_law 462 = .ok (.aload_n 0, 1) := by decide +kernel
theorem dL_law_463 : decode cL_law 463 = .ok (.iload_n 3, 1) := by decide +kernel
theorem dL_law_464 : decode cL_law 464 = .ok (.iconst 1, 1) := by decide +kernel
theorem dL_law_465 : decode cL_law 465 = .ok (.iadd, 1) := by decide +kernel
theorem dL_law_466 : decode cL_law 466 = .ok (.iaload, 1) := by decide +kernel
theorem dL_law_467 : decode cL_law 467 = .ok (.aload_n 0, 1) := by decide +kernel
theorem dL_law_468 : decode cL_law 468 = .ok (.iload_n 3, 1) := by decide +kernel
theorem dL_law_469 : decode cL_law 469 = .ok (.iconst 2, 1) := by decide +kernel
theorem dL_law_470 : decode cL_law 470 = .ok (.iadd, 1) := by decide +kernel
theorem dL_law_471 : decode cL_law 471 = .ok (.iaload, 1) := by decide +kernel
theorem dL_law_472 : decode cL_law 472 = .ok (.invokevirtual 55, 3) := by decide +kernel
theorem dL_law_475 : decode cL_law 475 = .ok (.if_icmp .eq 375, 3) := by decide +kernel
theorem dL_law_478 : decode cL_law 478 = .ok (.iconst 0, 1) := by decide +kernel
theorem dL_law_479 : decode cL_law 479 = .ok (.ireturn, 1) := by decide +kernel
theorem dL_law_480 : decode cL_law 480 = .ok (.aload_n 1, 1) := by decide +kernel
theorem dL_law_481 : decode cL_law 481 = .ok (.aload_n 0, 1) := by decide +kernel
theorem dL_law_482 : decode cL_law 482 = .ok (.iload_n 3, 1) := by decide +kernel
theorem dL_law_483 : decode cL_law 483 = .ok (.iconst 1, 1) := by decide +kernel
theorem dL_law_484 : decode cL_law 484 = .ok (.iadd, 1) := by decide +kernel
theorem dL_law_485 : decode cL_law 485 = .ok (.iaload, 1) := by decide +kernel
theorem dL_law_486 : decode cL_law 486 = .ok (.invokevirtual 56, 3) := by decide +kernel
theorem dL_law_489 : decode cL_law 489 = .ok (.aload_n 2, 1) := by decide +kernel
theorem dL_law_490 : decode cL_law 490 = .ok (.aload_n 0, 1) := by decide +kernel
theorem dL_law_491 : decode cL_law 491 = .ok (.iload_n 3, 1) := by decide +kernel
theorem dL_law_492 : decode cL_law 492 = .ok (.iconst 1, 1) := by decide +kernel
theorem dL_law_493 : decode cL_law 493 = .ok (.iadd, 1) := by decide +kernel
theorem dL_law_494 : decode cL_law 494 = .ok (.iaload, 1) := by decide +kernel
theorem dL_law_495 : decode cL_law 495 = .ok (.invokevirtual 59, 3) := by decide +kernel
theorem dL_law_498 : decode cL_law 498 = .ok (.if_icmp .eq 352, 3) := by decide +kernel
theorem dL_law_501 : decode cL_law 501 = .ok (.iconst 0, 1) := by decide +kernel
theorem dL_law_502 : decode cL_law 502 = .ok (.ireturn, 1) := by decide +kernel
theorem dL_law_503 : decode cL_law 503 = .ok (.aload_n 1, 1) := by decide +kernel
theorem dL_law_504 : decode cL_law 504 = .ok (.aload_n 0, 1) := by decide +kernel
theorem dL_law_505 : decode cL_law 505 = .ok (.iload_n 3, 1) := by decide +kernel
theorem dL_law_506 : decode cL_law 506 = .ok (.iconst 1, 1) := by decide +kernel
theorem dL_law_507 : decode cL_law 507 = .ok (.iadd, 1) := by decide +kernel
theorem dL_law_508 : decode cL_law 508 = .ok (.iaload, 1) := by decide +kernel
theorem dL_law_509 : decode cL_law 509 = .ok (.aload_n 0, 1) := by decide +kernel
theorem dL_law_510 : decode cL_law 510 = .ok (.iload_n 3, 1) := by decide +kernel
theorem dL_law_511 : decode cL_law 511 = .ok (.iconst 2, 1) := by decide +kernel
theorem dL_law_512 : decode cL_law 512 = .ok (.iadd, 1) := by decide +kernel
theorem dL_law_513 : decode cL_law 513 = .ok (.iaload, 1) := by decide +kernel
theorem dL_law_514 : decode cL_law 514 = .ok (.aload_n 0, 1) := by decide +kernel
theorem dL_law_515 : decode cL_law 515 = .ok (.iload_n 3, 1) := by decide +kernel
theorem dL_law_516 : decode cL_law 516 = .ok (.iconst 3, 1) := by decide +kernel
theorem dL_law_517 : decode cL_law 517 = .ok (.iadd, 1) := by decide +kernel
theorem dL_law_518 : decode cL_law 518 = .ok (.iaload, 1) := by decide +kernel
theorem dL_law_519 : decode cL_law 519 = .ok (.invokevirtual 60, 3) := by decide +kernel
theorem dL_law_522 : decode cL_law 522 = .ok (.aload_n 2, 1) := by decide +kernel
theorem dL_law_523 : decode cL_law 523 = .ok (.aload_n 0, 1) := by decide +kernel
theorem dL_law_524 : decode cL_law 524 = .ok (.iload_n 3, 1) := by decide +kernel
theorem dL_law_525 : decode cL_law 525 = .ok (.iconst 1, 1) := by decide +kernel
theorem dL_law_526 : decode cL_law 526 = .ok (.iadd, 1) := by decide +kernel
theorem dL_law_527 : decode cL_law 527 = .ok (.iaload, 1) := by decide +kernel
theorem dL_law_528 : decode cL_law 528 = .ok (.aload_n 0, 1) := by decide +kernel
theorem dL_law_529 : decode cL_law 529 = .ok (.iload_n 3, 1) := by decide +kernel
theorem dL_law_530 : decode cL_law 530 = .ok (.iconst 2, 1) := by decide +kernel
theorem dL_law_531 : decode cL_law 531 = .ok (.iadd, 1) := by decide +kernel
theorem dL_law_532 : decode cL_law 532 = .ok (.iaload, 1) := by decide +kernel
theorem dL_law_533 : decode cL_law 533 = .ok (.aload_n 0, 1) := by decide +kernel
theorem dL_law_534 : decode cL_law 534 = .ok (.iload_n 3, 1) := by decide +kernel
theorem dL_law_535 : decode cL_law 535 = .ok (.iconst 3, 1) := by decide +kernel
theorem dL_law_536 : decode cL_law 536 = .ok (.iadd, 1) := by decide +kernel
theorem dL_law_537 : decode cL_law 537 = .ok (.iaload, 1) := by decide +kernel
theorem dL_law_538 : decode cL_law 538 = .ok (.invokevirtual 63, 3) := by decide +kernel
theorem dL_law_541 : decode cL_law 541 = .ok (.if_icmp .eq 309, 3) := by decide +kernel
theorem dL_law_544 : decode cL_law 544 = .ok (.iconst 0, 1) := by decide +kernel
theorem dL_law_545 : decode cL_law 545 = .ok (.ireturn, 1) := by decide +kernel
theorem dL_law_546 : decode cL_law 546 = .ok (.aload_n 1, 1) := by decide +kernel
theorem dL_law_547 : decode cL_law 547 = .ok (.aload_n 0, 1) := by decide +kernel
theorem dL_law_548 : decode cL_law 548 = .ok (.iload_n 3, 1) := by decide +kernel
theorem dL_law_549 : decode cL_law 549 = .ok (.iconst 1, 1) := by decide +kernel
theorem dL_law_550 : decode cL_law 550 = .ok (.iadd, 1) := by decide +kernel
theorem dL_law_551 : decode cL_law 551 = .ok (.iaload, 1) := by decide +kernel
theorem dL_law_552 : decode cL_law 552 = .ok (.invokevirtual 64, 3) := by decide +kernel
theorem dL_law_555 : decode cL_law 555 = .ok (.aload_n 2, 1) := by decide +kernel
theorem dL_law_556 : decode cL_law 556 = .ok (.aload_n 0, 1) := by decide +kernel
theorem dL_law_557 : decode cL_law 557 = .ok (.iload_n 3, 1) := by decide +kernel
theorem dL_law_558 : decode cL_law 558 = .ok (.iconst 1, 1) := by decide +kernel
theorem dL_law_559 : decode cL_law 559 = .ok (.iadd, 1) := by decide +kernel
theorem dL_law_560 : decode cL_law 560 = .ok (.iaload, 1) := by decide +kernel
theorem dL_law_561 : decode cL_law 561 = .ok (.invokevirtual 67, 3) := by decide +kernel
theorem dL_law_564 : decode cL_law 564 = .ok (.if_icmp .eq 286, 3) := by decide +kernel
theorem dL_law_567 : decode cL_law 567 = .ok (.iconst 0, 1) := by decide +kernel
theorem dL_law_568 : decode cL_law 568 = .ok (.ireturn, 1) := by decide +kernel
theorem dL_law_569 : decode cL_law 569 = .ok (.aload_n 1, 1) := by decide +kernel
theorem dL_law_570 : decode cL_law 570 = .ok (.aload_n 0, 1) := by decide +kernel
theorem dL_law_571 : decode cL_law 571 = .ok (.iload_n 3, 1) := by decide +kernel
theorem dL_law_572 : decode cL_law 572 = .ok (.iconst 1, 1) := by decide +kernel
theorem dL_law_573 : decode cL_law 573 = .ok (.iadd, 1) := by decide +kernel
theorem dL_law_574 : decode cL_law 574 = .ok (.iaload, 1) := by decide +kernel
theorem dL_law_575 : decode cL_law 575 = .ok (.invokevirtual 68, 3) := by decide +kernel
theorem dL_law_578 : decode cL_law 578 = .ok (.aload_n 2, 1) := by decide +kernel
theorem dL_law_579 : decode cL_law 579 = .ok (.aload_n 0, 1) := by decide +kernel
theorem dL_law_580 : decode cL_law 580 = .ok (.iload_n 3, 1) := by decide +kernel
theorem dL_law_581 : decode cL_law 581 = .ok (.iconst 1, 1) := by decide +kernel
theorem dL_law_582 : decode cL_law 582 = .ok (.iadd, 1) := by decide +kernel
theorem dL_law_583 : decode cL_law 583 = .ok (.iaload, 1) := by decide +kernel
theorem dL_law_584 : decode cL_law 584 = .ok (.invokevirtual 71, 3) := by decide +kernel
theorem dL_law_587 : decode cL_law 587 = .ok (.if_icmp .eq 263, 3) := by decide +kernel
theorem dL_law_590 : decode cL_law 590 = .ok (.iconst 0, 1) := by decide +kernel
theorem dL_law_591 : decode cL_law 591 = .ok (.ireturn, 1) := by decide +kernel
theorem dL_law_592 : decode cL_law 592 = .ok (.aload_n 1, 1) := by decide +kernel
theorem dL_law_593 : decode cL_law 593 = .ok (.aload_n 0, 1) := by decide +kernel
theorem dL_law_594 : decode cL_law 594 = .ok (.iload_n 3, 1) := by decide +kernel
theorem dL_law_595 : decode cL_law 595 = .ok (.iconst 1, 1) := by decide +kernel
theorem dL_law_596 : decode cL_law 596 = .ok (.iadd, 1) := by decide +kernel
theorem dL_law_597 : decode cL_law 597 = .ok (.iaload, 1) := by decide +kernel
theorem dL_law_598 : decode cL_law 598 = .ok (.invokevirtual 72, 3) := by decide +kernel
theorem dL_law_601 : decode cL_law 601 = .ok (.aload_n 2, 1) := by decide +kernel
theorem dL_law_602 : decode cL_law 602 = .ok (.aload_n 0, 1) := by decide +kernel
theorem dL_law_603 : decode cL_law 603 = .ok (.iload_n 3, 1) := by decide +kernel
theorem dL_law_604 : decode cL_law 604 = .ok (.iconst 1, 1) := by decide +kernel
theorem dL_law_605 : decode cL_law 605 = .ok (.iadd, 1) := by decide +kernel
theorem dL_law_606 : decode cL_law 606 = .ok (.iaload, 1) := by decide +kernel
theorem dL_law_607 : decode cL_law 607 = .ok (.invokevirtual 75, 3) := by decide +kernel
theorem dL_law_610 : decode cL_law 610 = .ok (.if_icmp .eq 240, 3) := by decide +kernel
theorem dL_law_613 : decode cL_law 613 = .ok (.iconst 0, 1) := by decide +kernel
theorem dL_law_614 : decode cL_law 614 = .ok (.ireturn, 1) := by decide +kernel
theorem dL_law_615 : decode cL_law 615 = .ok (.aload_n 1, 1) := by decide +kernel
theorem dL_law_616 : decode cL_law 616 = .ok (.aload_n 0, 1) := by decide +kernel
theorem dL_law_617 : decode cL_law 617 = .ok (.iload_n 3, 1) := by decide +kernel
theorem dL_law_618 : decode cL_law 618 = .ok (.iconst 1, 1) := by decide +kernel
theorem dL_law_619 : decode cL_law 619 = .ok (.iadd, 1) := by decide +kernel
theorem dL_law_620 : decode cL_law 620 = .ok (.iaload, 1) := by decide +kernel
theorem dL_law_621 : decode cL_law 621 = .ok (.aload_n 0, 1) := by decide +kernel
theorem dL_law_622 : decode cL_law 622 = .ok (.iload_n 3, 1) := by decide +kernel
theorem dL_law_623 : decode cL_law 623 = .ok (.iconst 2, 1) := by decide +kernel
theorem dL_law_624 : decode cL_law 624 = .ok (.iadd, 1) := by decide +kernel
theorem dL_law_625 : decode cL_law 625 = .ok (.iaload, 1) := by decide +kernel
theorem dL_law_626 : decode cL_law 626 = .ok (.invokevirtual 76, 3) := by decide +kernel
theorem dL_law_629 : decode cL_law 629 = .ok (.aload_n 2, 1) := by decide +kernel
theorem dL_law_630 : decode cL_law 630 = .ok (.aload_n 0, 1) := by decide +kernel
theorem dL_law_631 : decode cL_law 631 = .ok (.iload_n 3, 1) := by decide +kernel
theorem dL_law_632 : decode cL_law 632 = .ok (.iconst 1, 1) := by decide +kernel
theorem dL_law_633 : decode cL_law 633 = .ok (.iadd, 1) := by decide +kernel
theorem dL_law_634 : decode cL_law 634 = .ok (.iaload, 1) := by decide +kernel
theorem dL_law_635 : decode cL_law 635 = .ok (.aload_n 0, 1) := by decide +kernel
theorem dL_law_636 : decode cL_law 636 = .ok (.iload_n 3, 1) := by decide +kernel
theorem dL_law_637 : decode cL_law 637 = .ok (.iconst 2, 1) := by decide +kernel
theorem dL_law_638 : decode cL_law 638 = .ok (.iadd, 1) := by decide +kernel
theorem dL_law_639 : decode cL_law 639 = .ok (.iaload, 1) := by decide +kernel
theorem dL_law_640 : decode cL_law 640 = .ok (.invokevirtual 80, 3) := by decide +kernel
theorem dL_law_643 : decode cL_law 643 = .ok (.lcmp, 1) := by decide +kernel
theorem dL_law_644 : decode cL_law 644 = .ok (.ifCond .eq 206, 3) := by decide +kernel
theorem dL_law_647 : decode cL_law 647 = .ok (.iconst 0, 1) := by decide +kernel
theorem dL_law_648 : decode cL_law 648 = .ok (.ireturn, 1) := by decide +kernel
theorem dL_law_649 : decode cL_law 649 = .ok (.aload_n 1, 1) := by decide +kernel
theorem dL_law_650 : decode cL_law 650 = .ok (.aload_n 0, 1) := by decide +kernel
theorem dL_law_651 : decode cL_law 651 = .ok (.iload_n 3, 1) := by decide +kernel
theorem dL_law_652 : decode cL_law 652 = .ok (.iconst 1, 1) := by decide +kernel
theorem dL_law_653 : decode cL_law 653 = .ok (.iadd, 1) := by decide +kernel
theorem dL_law_654 : decode cL_law 654 = .ok (.iaload, 1) := by decide +kernel
theorem dL_law_655 : decode cL_law 655 = .ok (.invokevirtual 81, 3) := by decide +kernel
theorem dL_law_658 : decode cL_law 658 = .ok (.aload_n 2, 1) := by decide +kernel
theorem dL_law_659 : decode cL_law 659 = .ok (.aload_n 0, 1) := by decide +kernel
theorem dL_law_660 : decode cL_law 660 = .ok (.iload_n 3, 1) := by decide +kernel
theorem dL_law_661 : decode cL_law 661 = .ok (.iconst 1, 1) := by decide +kernel
theorem dL_law_662 : decode cL_law 662 = .ok (.iadd, 1) := by decide +kernel
theorem dL_law_663 : decode cL_law 663 = .ok (.iaload, 1) := by decide +kernel
theorem dL_law_664 : decode cL_law 664 = .ok (.invokevirtual 84, 3) := by decide +kernel
theorem dL_law_667 : decode cL_law 667 = .ok (.if_icmp .eq 183, 3) := by decide +kernel
theorem dL_law_670 : decode cL_law 670 = .ok (.iconst 0, 1) := by decide +kernel
theorem dL_law_671 : decode cL_law 671 = .ok (.ireturn, 1) := by decide +kernel
theorem dL_law_672 : decode cL_law 672 = .ok (.aload_n 1, 1) := by decide +kernel
theorem dL_law_673 : decode cL_law 673 = .ok (.aload_n 0, 1) := by decide +kernel
theorem dL_law_674 : decode cL_law 674 = .ok (.iload_n 3, 1) := by decide +kernel
theorem dL_law_675 : decode cL_law 675 = .ok (.iconst 1, 1) := by decide +kernel
theorem dL_law_676 : decode cL_law 676 = .ok (.iadd, 1) := by decide +kernel
theorem dL_law_677 : decode cL_law 677 = .ok (.iaload, 1) := by decide +kernel
theorem dL_law_678 : decode cL_law 678 = .ok (.invokevirtual 85, 3) := by decide +kernel
theorem dL_law_681 : decode cL_law 681 = .ok (.aload_n 2, 1) := by decide +kernel
theorem dL_law_682 : decode cL_law 682 = .ok (.aload_n 0, 1) := by decide +kernel
theorem dL_law_683 : decode cL_law 683 = .ok (.iload_n 3, 1) := by decide +kernel
theorem dL_law_684 : decode cL_law 684 = .ok (.iconst 1, 1) := by decide +kernel
theorem dL_law_685 : decode cL_law 685 = .ok (.iadd, 1) := by decide +kernel
theorem dL_law_686 : decode cL_law 686 = .ok (.iaload, 1) := by decide +kernel
theorem dL_law_687 : decode cL_law 687 = .ok (.invokevirtual 88, 3) := by decide +kernel
theorem dL_law_690 : decode cL_law 690 = .ok (.if_icmp .eq 160, 3) := by decide +kernel
theorem dL_law_693 : decode cL_law 693 = .ok (.iconst 0, 1) := by decide +kernel
theorem dL_law_694 : decode cL_law 694 = .ok (.ireturn, 1) := by decide +kernel
theorem dL_law_695 : decode cL_law 695 = .ok (.aload_n 1, 1) := by decide +kernel
theorem dL_law_696 : decode cL_law 696 = .ok (.invokevirtual 89, 3) := by decide +kernel
theorem dL_law_699 : decode cL_law 699 = .ok (.aload_n 2, 1) := by decide +kernel
theorem dL_law_700 : decode cL_law 700 = .ok (.invokevirtual 93, 3) := by decide +kernel
theorem dL_law_703 : decode cL_law 703 = .ok (.if_icmp .eq 147, 3) := by decide +kernel
theorem dL_law_706 : decode cL_law 706 = .ok (.iconst 0, 1) := by decide +kernel
theorem dL_law_707 : decode cL_law 707 = .ok (.ireturn, 1) := by decide +kernel
theorem dL_law_708 : decode cL_law 708 = .ok (.aload_n 1, 1) := by decide +kernel
theorem dL_law_709 : decode cL_law 709 = .ok (.aload_n 0, 1) := by decide +kernel
theorem dL_law_710 : decode cL_law 710 = .ok (.iload_n 3, 1) := by decide +kernel
theorem dL_law_711 : decode cL_law 711 = .ok (.iconst 1, 1) := by decide +kernel
theorem dL_law_712 : decode cL_law 712 = .ok (.iadd, 1) := by decide +kernel
theorem dL_law_713 : decode cL_law 713 = .ok (.iaload, 1) := by decide +kernel
theorem dL_law_714 : decode cL_law 714 = .ok (.aload_n 0, 1) := by decide +kernel
theorem dL_law_715 : decode cL_law 715 = .ok (.iload_n 3, 1) := by decide +kernel
theorem dL_law_716 : decode cL_law 716 = .ok (.iconst 2, 1) := by decide +kernel
theorem dL_law_717 : decode cL_law 717 = .ok (.iadd, 1) := by decide +kernel
theorem dL_law_718 : decode cL_law 718 = .ok (.iaload, 1) := by decide +kernel
theorem dL_law_719 : decode cL_law 719 = .ok (.invokevirtual 94, 3) := by decide +kernel
theorem dL_law_722 : decode cL_law 722 = .ok (.aload_n 2, 1) := by decide +kernel
theorem dL_law_723 : decode cL_law 723 = .ok (.aload_n 0, 1) := by decide +kernel
theorem dL_law_724 : decode cL_law 724 = .ok (.iload_n 3, 1) := by decide +kernel
theorem dL_law_725 : decode cL_law 725 = .ok (.iconst 1, 1) := by decide +kernel
theorem dL_law_726 : decode cL_law 726 = .ok (.iadd, 1) := by decide +kernel
theorem dL_law_727 : decode cL_law 727 = .ok (.iaload, 1) := by decide +kernel
theorem dL_law_728 : decode cL_law 728 = .ok (.aload_n 0, 1) := by decide +kernel
theorem dL_law_729 : decode cL_law 729 = .ok (.iload_n 3, 1) := by decide +kernel
theorem dL_law_730 : decode cL_law 730 = .ok (.iconst 2, 1) := by decide +kernel
theorem dL_law_731 : decode cL_law 731 = .ok (.iadd, 1) := by decide +kernel
theorem dL_law_732 : decode cL_law 732 = .ok (.iaload, 1) := by decide +kernel
theorem dL_law_733 : decode cL_law 733 = .ok (.invokevirtual 97, 3) := by decide +kernel
theorem dL_law_736 : decode cL_law 736 = .ok (.if_icmp .eq 114, 3) := by decide +kernel
theorem dL_law_739 : decode cL_law 739 = .ok (.iconst 0, 1) := by decide +kernel
theorem dL_law_740 : decode cL_law 740 = .ok (.ireturn, 1) := by decide +kernel
theorem dL_law_741 : decode cL_law 741 = .ok (.aload_n 1, 1) := by decide +kernel
theorem dL_law_742 : decode cL_law 742 = .ok (.aload_n 0, 1) := by decide +kernel
theorem dL_law_743 : decode cL_law 743 = .ok (.iload_n 3, 1) := by decide +kernel
theorem dL_law_744 : decode cL_law 744 = .ok (.iconst 1, 1) := by decide +kernel
theorem dL_law_745 : decode cL_law 745 = .ok (.iadd, 1) := by decide +kernel
theorem dL_law_746 : decode cL_law 746 = .ok (.iaload, 1) := by decide +kernel
theorem dL_law_747 : decode cL_law 747 = .ok (.aload_n 0, 1) := by decide +kernel
theorem dL_law_748 : decode cL_law 748 = .ok (.iload_n 3, 1) := by decide +kernel
theorem dL_law_749 : decode cL_law 749 = .ok (.iconst 2, 1) := by decide +kernel
theorem dL_law_750 : decode cL_law 750 = .ok (.iadd, 1) := by decide +kernel
theorem dL_law_751 : decode cL_law 751 = .ok (.iaload, 1) := by decide +kernel
theorem dL_law_752 : decode cL_law 752 = .ok (.invokevirtual 98, 3) := by decide +kernel
theorem dL_law_755 : decode cL_law 755 = .ok (.aload_n 2, 1) := by decide +kernel
theorem dL_law_756 : decode cL_law 756 = .ok (.aload_n 0, 1) := by decide +kernel
theorem dL_law_757 : decode cL_law 757 = .ok (.iload_n 3, 1) := by decide +kernel
theorem dL_law_758 : decode cL_law 758 = .ok (.iconst 1, 1) := by decide +kernel
theorem dL_law_759 : decode cL_law 759 = .ok (.iadd, 1) := by decide +kernel
theorem dL_law_760 : decode cL_law 760 = .ok (.iaload, 1) := by decide +kernel
theorem dL_law_761 : decode cL_law 761 = .ok (.aload_n 0, 1) := by decide +kernel
theorem dL_law_762 : decode cL_law 762 = .ok (.iload_n 3, 1) := by decide +kernel
theorem dL_law_763 : decode cL_law 763 = .ok (.iconst 2, 1) := by decide +kernel
theorem dL_law_764 : decode cL_law 764 = .ok (.iadd, 1) := by decide +kernel
theorem dL_law_765 : decode cL_law 765 = .ok (.iaload, 1) := by decide +kernel
theorem dL_law_766 : decode cL_law 766 = .ok (.invokevirtual 101, 3) := by decide +kernel
theorem dL_law_769 : decode cL_law 769 = .ok (.if_icmp .eq 81, 3) := by decide +kernel
theorem dL_law_772 : decode cL_law 772 = .ok (.iconst 0, 1) := by decide +kernel
theorem dL_law_773 : decode cL_law 773 = .ok (.ireturn, 1) := by decide +kernel
theorem dL_law_774 : decode cL_law 774 = .ok (.aload_n 1, 1) := by decide +kernel
theorem dL_law_775 : decode cL_law 775 = .ok (.aload_n 0, 1) := by decide +kernel
theorem dL_law_776 : decode cL_law 776 = .ok (.iload_n 3, 1) := by decide +kernel
theorem dL_law_777 : decode cL_law 777 = .ok (.iconst 1, 1) := by decide +kernel
theorem dL_law_778 : decode cL_law 778 = .ok (.iadd, 1) := by decide +kernel
theorem dL_law_779 : decode cL_law 779 = .ok (.iaload, 1) := by decide +kernel
theorem dL_law_780 : decode cL_law 780 = .ok (.aload_n 0, 1) := by decide +kernel
theorem dL_law_781 : decode cL_law 781 = .ok (.iload_n 3, 1) := by decide +kernel
theorem dL_law_782 : decode cL_law 782 = .ok (.iconst 2, 1) := by decide +kernel
theorem dL_law_783 : decode cL_law 783 = .ok (.iadd, 1) := by decide +kernel
theorem dL_law_784 : decode cL_law 784 = .ok (.iaload, 1) := by decide +kernel
theorem dL_law_785 : decode cL_law 785 = .ok (.aload_n 0, 1) := by decide +kernel
theorem dL_law_786 : decode cL_law 786 = .ok (.iload_n 3, 1) := by decide +kernel
theorem dL_law_787 : decode cL_law 787 = .ok (.iconst 3, 1) := by decide +kernel
theorem dL_law_788 : decode cL_law 788 = .ok (.iadd, 1) := by decide +kernel
theorem dL_law_789 : decode cL_law 789 = .ok (.iaload, 1) := by decide +kernel
theorem dL_law_790 : decode cL_law 790 = .ok (.aload_n 0, 1) := by decide +kernel
theorem dL_law_791 : decode cL_law 791 = .ok (.iload_n 3, 1) := by decide +kernel
theorem dL_law_792 : decode cL_law 792 = .ok (.iconst 4, 1) := by decide +kernel
theorem dL_law_793 : decode cL_law 793 = .ok (.iadd, 1) := by decide +kernel
theorem dL_law_794 : decode cL_law 794 = .ok (.iaload, 1) := by decide +kernel
theorem dL_law_795 : decode cL_law 795 = .ok (.invokevirtual 102, 3) := by decide +kernel
theorem dL_law_798 : decode cL_law 798 = .ok (.aload_n 2, 1) := by decide +kernel
theorem dL_law_799 : decode cL_law 799 = .ok (.aload_n 0, 1) := by decide +kernel
theorem dL_law_800 : decode cL_law 800 = .ok (.iload_n 3, 1) := by decide +kernel
theorem dL_law_801 : decode cL_law 801 = .ok (.iconst 1, 1) := by decide +kernel
theorem dL_law_802 : decode cL_law 802 = .ok (.iadd, 1) := by decide +kernel
theorem dL_law_803 : decode cL_law 803 = .ok (.iaload, 1) := by decide +kernel
theorem dL_law_804 : decode cL_law 804 = .ok (.aload_n 0, 1) := by decide +kernel
theorem dL_law_805 : decode cL_law 805 = .ok (.iload_n 3, 1) := by decide +kernel
theorem dL_law_806 : decode cL_law 806 = .ok (.iconst 2, 1) := by decide +kernel
theorem dL_law_807 : decode cL_law 807 = .ok (.iadd, 1) := by decide +kernel
theorem dL_law_808 : decode cL_law 808 = .ok (.iaload, 1) := by decide +kernel
theorem dL_law_809 : decode cL_law 809 = .ok (.aload_n 0, 1) := by decide +kernel
theorem dL_law_810 : decode cL_law 810 = .ok (.iload_n 3, 1) := by decide +kernel
theorem dL_law_811 : decode cL_law 811 = .ok (.iconst 3, 1) := by decide +kernel
theorem dL_law_812 : decode cL_law 812 = .ok (.iadd, 1) := by decide +kernel
theorem dL_law_813 : decode cL_law 813 = .ok (.iaload, 1) := by decide +kernel
theorem dL_law_814 : decode cL_law 814 = .ok (.aload_n 0, 1) := by decide +kernel
theorem dL_law_815 : decode cL_law 815 = .ok (.iload_n 3, 1) := by decide +kernel
theorem dL_law_816 : decode cL_law 816 = .ok (.iconst 4, 1) := by decide +kernel
theorem dL_law_817 : decode cL_law 817 = .ok (.iadd, 1) := by decide +kernel
theorem dL_law_818 : decode cL_law 818 = .ok (.iaload, 1) := by decide +kernel
theorem dL_law_819 : decode cL_law 819 = .ok (.invokevirtual 106, 3) := by decide +kernel
theorem dL_law_822 : decode cL_law 822 = .ok (.if_icmp .eq 28, 3) := by decide +kernel
theorem dL_law_825 : decode cL_law 825 = .ok (.iconst 0, 1) := by decide +kernel
theorem dL_law_826 : decode cL_law 826 = .ok (.ireturn, 1) := by decide +kernel
theorem dL_law_827 : decode cL_law 827 = .ok (.aload_n 1, 1) := by decide +kernel
theorem dL_law_828 : decode cL_law 828 = .ok (.aload_n 0, 1) := by decide +kernel
theorem dL_law_829 : decode cL_law 829 = .ok (.iload_n 3, 1) := by decide +kernel
theorem dL_law_830 : decode cL_law 830 = .ok (.iconst 1, 1) := by decide +kernel
theorem dL_law_831 : decode cL_law 831 = .ok (.iadd, 1) := by decide +kernel
theorem dL_law_832 : decode cL_law 832 = .ok (.iaload, 1) := by decide +kernel
theorem dL_law_833 : decode cL_law 833 = .ok (.invokevirtual 107, 3) := by decide +kernel
theorem dL_law_836 : decode cL_law 836 = .ok (.aload_n 2, 1) := by decide +kernel
theorem dL_law_837 : decode cL_law 837 = .ok (.aload_n 0, 1) := by decide +kernel
theorem dL_law_838 : decode cL_law 838 = .ok (.iload_n 3, 1) := by decide +kernel
theorem dL_law_839 : decode cL_law 839 = .ok (.iconst 1, 1) := by decide +kernel
theorem dL_law_840 : decode cL_law 840 = .ok (.iadd, 1) := by decide +kernel
theorem dL_law_841 : decode cL_law 841 = .ok (.iaload, 1) := by decide +kernel
theorem dL_law_842 : decode cL_law 842 = .ok (.invokevirtual 110, 3) := by decide +kernel
theorem dL_law_845 : decode cL_law 845 = .ok (.if_icmp .eq 5, 3) := by decide +kernel
theorem dL_law_848 : decode cL_law 848 = .ok (.iconst 0, 1) := by decide +kernel
theorem dL_law_849 : decode cL_law 849 = .ok (.ireturn, 1) := by decide +kernel
theorem dL_law_850 : decode cL_law 850 = .ok (.iinc 3 5, 3) := by decide +kernel
theorem dL_law_853 : decode cL_law 853 = .ok (.goto (-835), 3) := by decide +kernel
theorem dL_law_856 : decode cL_law 856 = .ok (.iconst 1, 1) := by decide +kernel
theorem dL_law_857 : decode cL_law 857 = .ok (.ireturn, 1) := by decide +kernel
