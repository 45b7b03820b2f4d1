theorem dM_compareSizes_0 : decode cM_compareSizes 0 = .ok (.aload_n 2, 1) := by decide +kernel
theorem dM_compareSizes_1 : decode cM_compareSizes 1 = .ok (.getfield 1, 3) := by decide +kernel
theorem dM_compareSizes_4 : decode cM_compareSizes 4 = .ok (.invokevirtual 7, 3) := by decide +kernel
theorem dM_compareSizes_7 : decode cM_compareSizes 7 = .ok (.ifCond .eq 17, 3) := by decide +kernel
theorem dM_compareSizes_10 : decode cM_compareSizes 10 = .ok (.aload_n 0, 1) := by decide +kernel
theorem dM_compareSizes_11 : decode cM_compareSizes 11 = .ok (.getfield 13, 3) := by decide +kernel
theorem dM_compareSizes_14 : decode cM_compareSizes 14 = .ok (.aload_n 1, 1) := by decide +kernel
theorem dM_compareSizes_15 : decode cM_compareSizes 15 = .ok (.getfield 18, 3) := by decide +kernel
theorem dM_compareSizes_18 : decode cM_compareSizes 18 = .ok (.invokevirtual 21, 3) := by decide +kernel
theorem dM_compareSizes_21 : decode cM_compareSizes 21 = .ok (.goto 18, 3) := by decide +kernel
theorem dM_compareSizes_24 : decode cM_compareSizes 24 = .ok (.aload_n 0, 1) := by decide +kernel
theorem dM_compareSizes_25 : decode cM_compareSizes 25 = .ok (.getfield 13, 3) := by decide +kernel
theorem dM_compareSizes_28 : decode cM_compareSizes 28 = .ok (.aload_n 1, 1) := by decide +kernel
theorem dM_compareSizes_29 : decode cM_compareSizes 29 = .ok (.getfield 18, 3) := by decide +kernel
theorem dM_compareSizes_32 : decode cM_compareSizes 32 = .ok (.aload_n 2, 1) := by decide +kernel
theorem dM_compareSizes_33 : decode cM_compareSizes 33 = .ok (.getfield 1, 3) := by decide +kernel
theorem dM_compareSizes_36 : decode cM_compareSizes 36 = .ok (.invokevirtual 25, 3) := by decide +kernel
theorem dM_compareSizes_39 : decode cM_compareSizes 39 = .ok (.aload_n 1, 1) := by decide +kernel
theorem dM_compareSizes_40 : decode cM_compareSizes 40 = .ok (.getfield 1, 3) := by decide +kernel
theorem dM_compareSizes_43 : decode cM_compareSizes 43 = .ok (.invokevirtual 7, 3) := by decide +kernel
theorem dM_compareSizes_46 : decode cM_compareSizes 46 = .ok (.ifCond .eq 17, 3) := by decide +kernel
theorem dM_compareSizes_49 : decode cM_compareSizes 49 = .ok (.aload_n 0, 1) := by decide +kernel
theorem dM_compareSizes_50 : decode cM_compareSizes 50 = .ok (.getfield 29, 3) := by decide +kernel
theorem dM_compareSizes_53 : decode cM_compareSizes 53 = .ok (.aload_n 2, 1) := by decide +kernel
theorem dM_compareSizes_54 : decode cM_compareSizes 54 = .ok (.getfield 18, 3) := by decide +kernel
theorem dM_compareSizes_57 : decode cM_compareSizes 57 = .ok (.invokevirtual 21, 3) := by decide +kernel
theorem dM_compareSizes_60 : decode cM_compareSizes 60 = .ok (.goto 18, 3) := by decide +kernel
theorem dM_compareSizes_63 : decode cM_compareSizes 63 = .ok (.aload_n 0, 1) := by decide +kernel
theorem dM_compareSizes_64 : decode cM_compareSizes 64 = .ok (.getfield 29, 3) := by decide +kernel
theorem dM_compareSizes_67 : decode cM_compareSizes 67 = .ok (.aload_n 2, 1) := by decide +kernel
theorem dM_compareSizes_68 : decode cM_compareSizes 68 = .ok (.getfield 18, 3) := by decide +kernel
theorem dM_compareSizes_71 : decode cM_compareSizes 71 = .ok (.aload_n 1, 1) := by decide +kernel
theorem dM_compareSizes_72 : decode cM_compareSizes 72 = .ok (.getfield 1, 3) := by decide +kernel
theorem dM_compareSizes_75 : decode cM_compareSizes 75 = .ok (.invokevirtual 25, 3) := by decide +kernel
theorem dM_compareSizes_78 : decode cM_compareSizes 78 = .ok (.aload_n 0, 1) := by decide +kernel
theorem dM_compareSizes_79 : decode cM_compareSizes 79 = .ok (.getfield 13, 3) := by decide +kernel
theorem dM_compareSizes_82 : decode cM_compareSizes 82 = .ok (.invokevirtual 32, 3) := by decide +kernel
theorem dM_compareSizes_85 : decode cM_compareSizes 85 = .ok (.aload_n 1, 1) := by decide +kernel
theorem dM_compareSizes_86 : decode cM_compareSizes 86 = .ok (.getfield 36, 3) := by decide +kernel
theorem dM_compareSizes_89 : decode cM_compareSizes 89 = .ok (.iadd, 1) := by decide +kernel
theorem dM_compareSizes_90 : decode cM_compareSizes 90 = .ok (.istore_n 3, 1) := by decide +kernel
theorem dM_compareSizes_91 : decode cM_compareSizes 91 = .ok (.aload_n 0, 1) := by decide +kernel
theorem dM_compareSizes_92 : decode cM_compareSizes 92 = .ok (.getfield 29, 3) := by decide +kernel
theorem dM_compareSizes_95 : decode cM_compareSizes 95 = .ok (.invokevirtual 32, 3) := by decide +kernel
theorem dM_compareSizes_98 : decode cM_compareSizes 98 = .ok (.aload_n 2, 1) := by decide +kernel
theorem dM_compareSizes_99 : decode cM_compareSizes 99 = .ok (.getfield 36, 3) := by decide +kernel
theorem dM_compareSizes_102 : decode cM_compareSizes 102 = .ok (.iadd, 1) := by decide +kernel
theorem dM_compareSizes_103 : decode cM_compareSizes 103 = .ok (.istore 4, 2) := by decide +kernel
theorem dM_compareSizes_105 : decode cM_compareSizes 105 = .ok (.iload_n 3, 1) := by decide +kernel
theorem dM_compareSizes_106 : decode cM_compareSizes 106 = .ok (.iload 4, 2) := by decide +kernel
theorem dM_compareSizes_108 : decode cM_compareSizes 108 = .ok (.if_icmp .eq 15, 3) := by decide +kernel
theorem dM_compareSizes_111 : decode cM_compareSizes 111 = .ok (.iload_n 3, 1) := by decide +kernel
theorem dM_compareSizes_112 : decode cM_compareSizes 112 = .ok (.iload 4, 2) := by decide +kernel
theorem dM_compareSizes_114 : decode cM_compareSizes 114 = .ok (.if_icmp .ge 7, 3) := by decide +kernel
theorem dM_compareSizes_117 : decode cM_compareSizes 117 = .ok (.iconst (-1), 1) := by decide +kernel
theorem dM_compareSizes_118 : decode cM_compareSizes 118 = .ok (.goto 4, 3) := by decide +kernel
theorem dM_compareSizes_121 : decode cM_compareSizes 121 = .ok (.iconst 1, 1) := by decide +kernel
theorem dM_compareSizes_122 : decode cM_compareSizes 122 = .ok (.ireturn, 1) := by decide +kernel
theorem dM_compareSizes_123 : decode cM_compareSizes 123 = .ok (.aload_n 1, 1) := by decide +kernel
theorem dM_compareSizes_124 : decode cM_compareSizes 124 = .ok (.getfield 36, 3) := by decide +kernel
theorem dM_compareSizes_127 : decode cM_compareSizes 127 = .ok (.aload_n 2, 1) := by decide +kernel
theorem dM_compareSizes_128 : decode cM_compareSizes 128 = .ok (.getfield 36, 3) := by decide +kernel
theorem dM_compareSizes_131 : decode cM_compareSizes 131 = .ok (.if_icmp .le 22, 3) := by decide +kernel
theorem dM_compareSizes_134 : decode cM_compareSizes 134 = .ok (.aload_n 0, 1) := by decide +kernel
theorem dM_compareSizes_135 : decode cM_compareSizes 135 = .ok (.getfield 13, 3) := by decide +kernel
theorem dM_compareSizes_138 : decode cM_compareSizes 138 = .ok (.aload_n 1, 1) := by decide +kernel
theorem dM_compareSizes_139 : decode cM_compareSizes 139 = .ok (.getfield 36, 3) := by decide +kernel
theorem dM_compareSizes_142 : decode cM_compareSizes 142 = .ok (.aload_n 2, 1) := by decide +kernel
theorem dM_compareSizes_143 : decode cM_compareSizes 143 = .ok (.getfield 36, 3) := by decide +kernel
theorem dM_compareSizes_146 : decode cM_compareSizes 146 = .ok (.isub, 1) := by decide +kernel
theorem dM_compareSizes_147 : decode cM_compareSizes 147 = .ok (.invokevirtual 40, 3) := by decide +kernel
theorem dM_compareSizes_150 : decode cM_compareSizes 150 = .ok (.goto 19, 3) := by decide +kernel
theorem dM_compareSizes_153 : decode cM_compareSizes 153 = .ok (.aload_n 0, 1) := by decide +kernel
theorem dM_compareSizes_154 : decode cM_compareSizes 154 = .ok (.getfield 29, 3) := by decide +kernel
theorem dM_compareSizes_157 : decode cM_compareSizes 157 = .ok (.aload_n 2, 1) := by decide +kernel
theorem dM_compareSizes_158 : decode cM_compareSizes 158 = .ok (.getfield 36, 3) := by decide +kernel
theorem dM_compareSizes_161 : decode cM_compareSizes 161 = .ok (.aload_n 1, 1) := by decide +kernel
theorem dM_compareSizes_162 : decode cM_compareSizes 162 = .ok (.getfield 36, 3) := by decide +kernel
theorem dM_compareSizes_165 : decode cM_compareSizes 165 = .ok (.isub, 1) := by decide +kernel
theorem dM_compareSizes_166 : decode cM_compareSizes 166 = .ok (.invokevirtual 40, 3) := by decide +kernel
theorem dM_compareSizes_169 : decode cM_compareSizes 169 = .ok (.aload_n 0, 1) := by decide +kernel
theorem dM_compareSizes_170 : decode cM_compareSizes 170 = .ok (.getfield 13, 3) := by decide +kernel
theorem dM_compareSizes_173 : decode cM_compareSizes 173 = .ok (.aload_n 0, 1) := by decide +kernel
theorem dM_compareSizes_174 : decode cM_compareSizes 174 = .ok (.getfield 29, 3) := by decide +kernel
theorem dM_compareSizes_177 : decode cM_compareSizes 177 = .ok (.invokevirtual 44, 3) := by decide +kernel
theorem dM_compareSizes_180 : decode cM_compareSizes 180 = .ok (.ireturn, 1) := by decide +kernel
theorem dM_orderOf_0 : decode cM_orderOf 0 = .ok (.aload_n 1, 1) := by decide +kernel
theorem dM_orderOf_1 : decode cM_orderOf 1 = .ok (.invokevirtual 48, 3) := by decide +kernel
theorem dM_orderOf_4 : decode cM_orderOf 4 = .ok (.istore_n 3, 1) := by decide +kernel
theorem dM_orderOf_5 : decode cM_orderOf 5 = .ok (.aload_n 2, 1) := by decide +kernel
theorem dM_orderOf_6 : decode cM_orderOf 6 = .ok (.invokevirtual 48, 3) := by decide +kernel
theorem dM_orderOf_9 : decode cM_orderOf 9 = .ok (.istore 4, 2) := by decide +kernel
theorem dM_orderOf_11 : decode cM_orderOf 11 = .ok (.iload_n 3, 1) := by decide +kernel
theorem dM_orderOf_12 : decode cM_orderOf 12 = .ok (.iload 4, 2) := by decide +kernel
theorem dM_orderOf_14 : decode cM_orderOf 14 = .ok (.if_icmp .ne 7, 3) := by decide +kernel
theorem dM_orderOf_17 : decode cM_orderOf 17 = .ok (.iload_n 3, 1) := by decide +kernel
theorem dM_orderOf_18 : decode cM_orderOf 18 = .ok (.ifCond .ne 25, 3) := by decide +kernel
theorem dM_orderOf_21 : decode cM_orderOf 21 = .ok (.iload_n 3, 1) := by decide +kernel
theorem dM_orderOf_22 : decode cM_orderOf 22 = .ok (.iload 4, 2) := by decide +kernel
theorem dM_orderOf_24 : decode cM_orderOf 24 = .ok (.if_icmp .ge 7, 3) := by decide +kernel
theorem dM_orderOf_27 : decode cM_orderOf 27 = .ok (.iconst (-1), 1) := by decide +kernel
theorem dM_orderOf_28 : decode cM_orderOf 28 = .ok (.goto 14, 3) := by decide +kernel
theorem dM_orderOf_31 : decode cM_orderOf 31 = .ok (.iload_n 3, 1) := by decide +kernel
theorem dM_orderOf_32 : decode cM_orderOf 32 = .ok (.iload 4, 2) := by decide +kernel
theorem dM_orderOf_34 : decode cM_orderOf 34 = .ok (.if_icmp .le 7, 3) := by decide +kernel
theorem dM_orderOf_37 : decode cM_orderOf 37 = .ok (.iconst 1, 1) := by decide +kernel
theorem dM_orderOf_38 : decode cM_orderOf 38 = .ok (.goto 4, 3) := by decide +kernel
theorem dM_orderOf_41 : decode cM_orderOf 41 = .ok (.iconst 0, 1) := by decide +kernel
theorem dM_orderOf_42 : decode cM_orderOf 42 = .ok (.ireturn, 1) := by decide +kernel
theorem dM_orderOf_43 : decode cM_orderOf 43 = .ok (.iload_n 3, 1) := by decide +kernel
theorem dM_orderOf_44 : decode cM_orderOf 44 = .ok (.aload_n 0, 1) := by decide +kernel
theorem dM_orderOf_45 : decode cM_orderOf 45 = .ok (.aload_n 1, 1) := by decide +kernel
theorem dM_orderOf_46 : decode cM_orderOf 46 = .ok (.aload_n 2, 1) := by decide +kernel
theorem dM_orderOf_47 : decode cM_orderOf 47 = .ok (.invokevirtual 51, 3) := by decide +kernel
theorem dM_orderOf_50 : decode cM_orderOf 50 = .ok (.imul, 1) := by decide +kernel
theorem dM_orderOf_51 : decode cM_orderOf 51 = .ok (.ireturn, 1) := by decide +kernel
theorem dM_keyOf_0 : decode cM_keyOf 0 = .ok (.lload_n 0, 1) := by decide +kernel
theorem dM_keyOf_1 : decode cM_keyOf 1 = .ok (.lconst 0, 1) := by decide +kernel
theorem dM_keyOf_2 : decode cM_keyOf 2 = .ok (.lcmp, 1) := by decide +kernel
theorem dM_keyOf_3 : decode cM_keyOf 3 = .ok (.ifCond .ge 12, 3) := by decide +kernel
theorem dM_keyOf_6 : decode cM_keyOf 6 = .ok (.lload_n 0, 1) := by decide +kernel
theorem dM_keyOf_7 : decode cM_keyOf 7 = .ok (.ldc2_w 55, 3) := by decide +kernel
theorem dM_keyOf_10 : decode cM_keyOf 10 = .ok (.land, 1) := by decide +kernel
theorem dM_keyOf_11 : decode cM_keyOf 11 = .ok (.lneg, 1) := by decide +kernel
theorem dM_keyOf_12 : decode cM_keyOf 12 = .ok (.goto 4, 3) := by decide +kernel
theorem dM_keyOf_15 : decode cM_keyOf 15 = .ok (.lload_n 0, 1) := by decide +kernel
theorem dM_keyOf_16 : decode cM_keyOf 16 = .ok (.lreturn, 1) := by decide +kernel
theorem dM_floatOf_0 : decode cM_floatOf 0 = .ok (.lload_n 0, 1) := by decide +kernel
theorem dM_floatOf_1 : decode cM_floatOf 1 = .ok (.lconst 0, 1) := by decide +kernel
theorem dM_floatOf_2 : decode cM_floatOf 2 = .ok (.lcmp, 1) := by decide +kernel
theorem dM_floatOf_3 : decode cM_floatOf 3 = .ok (.ifCond .ge 12, 3) := by decide +kernel
theorem dM_floatOf_6 : decode cM_floatOf 6 = .ok (.lload_n 0, 1) := by decide +kernel
theorem dM_floatOf_7 : decode cM_floatOf 7 = .ok (.lneg, 1) := by decide +kernel
theorem dM_floatOf_8 : decode cM_floatOf 8 = .ok (.ldc2_w 57, 3) := by decide +kernel
theorem dM_floatOf_11 : decode cM_floatOf 11 = .ok (.lor, 1) := by decide +kernel
theorem dM_floatOf_12 : decode cM_floatOf 12 = .ok (.goto 4, 3) := by decide +kernel
theorem dM_floatOf_15 : decode cM_floatOf 15 = .ok (.lload_n 0, 1) := by decide +kernel
theorem dM_floatOf_16 : decode cM_floatOf 16 = .ok (.lreturn, 1) := by decide +kernel
theorem dM_minus_0 : decode cM_minus 0 = .ok (.lload_n 0, 1) := by decide +kernel
theorem dM_minus_1 : decode cM_minus 1 = .ok (.lconst 0, 1) := by decide +kernel
theorem dM_minus_2 : decode cM_minus 2 = .ok (.lcmp, 1) := by decide +kernel
theorem dM_minus_3 : decode cM_minus 3 = .ok (.ifCond .ne 7, 3) := by decide +kernel
theorem dM_minus_6 : decode cM_minus 6 = .ok (.lconst 0, 1) := by decide +kernel
theorem dM_minus_7 : decode cM_minus 7 = .ok (.goto 8, 3) := by decide +kernel
theorem dM_minus_10 : decode cM_minus 10 = .ok (.lload_n 0, 1) := by decide +kernel
theorem dM_minus_11 : decode cM_minus 11 = .ok (.ldc2_w 57, 3) := by decide +kernel
theorem dM_minus_14 : decode cM_minus 14 = .ok (.lxor, 1) := by decide +kernel
theorem dM_minus_15 : decode cM_minus 15 = .ok (.lreturn, 1) := by decide +kernel
theorem dM_down_0 : decode cM_down 0 = .ok (.aload_n 1, 1) := by decide +kernel
theorem dM_down_1 : decode cM_down 1 = .ok (.invokevirtual 48, 3) := by decide +kernel
theorem dM_down_4 : decode cM_down 4 = .ok (.ifCond .ge 7, 3) := by decide +kernel
theorem dM_down_7 : decode cM_down 7 = .ok (.iconst 1, 1) := by decide +kernel
theorem dM_down_8 : decode cM_down 8 = .ok (.goto 4, 3) := by decide +kernel
theorem dM_down_11 : decode cM_down 11 = .ok (.iconst 0, 1) := by decide +kernel
theorem dM_down_12 : decode cM_down 12 = .ok (.istore_n 2, 1) := by decide +kernel
theorem dM_down_13 : decode cM_down 13 = .ok (.iload_n 2, 1) := by decide +kernel
theorem dM_down_14 : decode cM_down 14 = .ok (.ifCond .eq 9, 3) := by decide +kernel
theorem dM_down_17 : decode cM_down 17 = .ok (.ldc2_w 59, 3) := by decide +kernel
theorem dM_down_20 : decode cM_down 20 = .ok (.goto 4, 3) := by decide +kernel
theorem dM_down_23 : decode cM_down 23 = .ok (.lconst 0, 1) := by decide +kernel
theorem dM_down_24 : decode cM_down 24 = .ok (.lstore_n 3, 1) := by decide +kernel
theorem dM_down_25 : decode cM_down 25 = .ok (.iload_n 2, 1) := by decide +kernel
theorem dM_down_26 : decode cM_down 26 = .ok (.ifCond .eq 7, 3) := by decide +kernel
theorem dM_down_29 : decode cM_down 29 = .ok (.lconst 0, 1) := by decide +kernel
theorem dM_down_30 : decode cM_down 30 = .ok (.goto 6, 3) := by decide +kernel
theorem dM_down_33 : decode cM_down 33 = .ok (.ldc2_w 61, 3) := by decide +kernel
theorem dM_down_36 : decode cM_down 36 = .ok (.lstore 5, 2) := by decide +kernel
theorem dM_down_38 : decode cM_down 38 = .ok (.aload_n 0, 1) := by decide +kernel
theorem dM_down_39 : decode cM_down 39 = .ok (.getfield 63, 3) := by decide +kernel
theorem dM_down_42 : decode cM_down 42 = .ok (.ldc2_w 59, 3) := by decide +kernel
theorem dM_down_45 : decode cM_down 45 = .ok (.invokestatic 67, 3) := by decide +kernel
theorem dM_down_48 : decode cM_down 48 = .ok (.invokevirtual 71, 3) := by decide +kernel
theorem dM_down_51 : decode cM_down 51 = .ok (.iload_n 2, 1) := by decide +kernel
theorem dM_down_52 : decode cM_down 52 = .ok (.ifCond .eq 19, 3) := by decide +kernel
theorem dM_down_55 : decode cM_down 55 = .ok (.aload_n 0, 1) := by decide +kernel
theorem dM_down_56 : decode cM_down 56 = .ok (.aload_n 0, 1) := by decide +kernel
theorem dM_down_57 : decode cM_down 57 = .ok (.getfield 63, 3) := by decide +kernel
theorem dM_down_60 : decode cM_down 60 = .ok (.aload_n 1, 1) := by decide +kernel
theorem dM_down_61 : decode cM_down 61 = .ok (.invokevirtual 75, 3) := by decide +kernel
theorem dM_down_64 : decode cM_down 64 = .ok (.ifCond .le 7, 3) := by decide +kernel
theorem dM_down_67 : decode cM_down 67 = .ok (.ldc2_w 78, 3) := by decide +kernel
theorem dM_down_70 : decode cM_down 70 = .ok (.lreturn, 1) := by decide +kernel
theorem dM_down_71 : decode cM_down 71 = .ok (.lload 5, 2) := by decide +kernel
theorem dM_down_73 : decode cM_down 73 = .ok (.lload_n 3, 1) := by decide +kernel
theorem dM_down_74 : decode cM_down 74 = .ok (.lsub, 1) := by decide +kernel
theorem dM_down_75 : decode cM_down 75 = .ok (.lconst 1, 1) := by decide +kernel
theorem dM_down_76 : decode cM_down 76 = .ok (.lcmp, 1) := by decide +kernel
theorem dM_down_77 : decode cM_down 77 = .ok (.ifCond .le 52, 3) := by decide +kernel
theorem dM_down_80 : decode cM_down 80 = .ok (.lload_n 3, 1) := by decide +kernel
theorem dM_down_81 : decode cM_down 81 = .ok (.lload 5, 2) := by decide +kernel
theorem dM_down_83 : decode cM_down 83 = .ok (.lload_n 3, 1) := by decide +kernel
theorem dM_down_84 : decode cM_down 84 = .ok (.lsub, 1) := by decide +kernel
theorem dM_down_85 : decode cM_down 85 = .ok (.ldc2_w 80, 3) := by decide +kernel
theorem dM_down_88 : decode cM_down 88 = .ok (.ldiv, 1) := by decide +kernel
theorem dM_down_89 : decode cM_down 89 = .ok (.ladd, 1) := by decide +kernel
theorem dM_down_90 : decode cM_down 90 = .ok (.lstore 7, 2) := by decide +kernel
theorem dM_down_92 : decode cM_down 92 = .ok (.aload_n 0, 1) := by decide +kernel
theorem dM_down_93 : decode cM_down 93 = .ok (.getfield 63, 3) := by decide +kernel
theorem dM_down_96 : decode cM_down 96 = .ok (.lload 7, 2) := by decide +kernel
theorem dM_down_98 : decode cM_down 98 = .ok (.invokestatic 67, 3) := by decide +kernel
theorem dM_down_101 : decode cM_down 101 = .ok (.invokevirtual 71, 3) := by decide +kernel
theorem dM_down_104 : decode cM_down 104 = .ok (.aload_n 0, 1) := by decide +kernel
theorem dM_down_105 : decode cM_down 105 = .ok (.aload_n 0, 1) := by decide +kernel
theorem dM_down_106 : decode cM_down 106 = .ok (.getfield 63, 3) := by decide +kernel
theorem dM_down_109 : decode cM_down 109 = .ok (.aload_n 1, 1) := by decide +kernel
theorem dM_down_110 : decode cM_down 110 = .ok (.invokevirtual 75, 3) := by decide +kernel
theorem dM_down_113 : decode cM_down 113 = .ok (.ifCond .gt 9, 3) := by decide +kernel
theorem dM_down_116 : decode cM_down 116 = .ok (.lload 7, 2) := by decide +kernel
theorem dM_down_118 : decode cM_down 118 = .ok (.lstore_n 3, 1) := by decide +kernel
theorem dM_down_119 : decode cM_down 119 = .ok (.goto 7, 3) := by decide +kernel
theorem dM_down_122 : decode cM_down 122 = .ok (.lload 7, 2) := by decide +kernel
theorem dM_down_124 : decode cM_down 124 = .ok (.lstore 5, 2) := by decide +kernel
theorem dM_down_126 : decode cM_down 126 = .ok (.goto (-55), 3) := by decide +kernel
theorem dM_down_129 : decode cM_down 129 = .ok (.lload_n 3, 1) := by decide +kernel
theorem dM_down_130 : decode cM_down 130 = .ok (.invokestatic 67, 3) := by decide +kernel
theorem dM_down_133 : decode cM_down 133 = .ok (.lreturn, 1) := by decide +kernel
theorem dM_up_0 : decode cM_up 0 = .ok (.aload_n 0, 1) := by decide +kernel
theorem dM_up_1 : decode cM_up 1 = .ok (.getfield 82, 3) := by decide +kernel
theorem dM_up_4 : decode cM_up 4 = .ok (.aload_n 1, 1) := by decide +kernel
theorem dM_up_5 : decode cM_up 5 = .ok (.invokevirtual 85, 3) := by decide +kernel
theorem dM_up_8 : decode cM_up 8 = .ok (.aload_n 0, 1) := by decide +kernel
theorem dM_up_9 : decode cM_up 9 = .ok (.getfield 82, 3) := by decide +kernel
theorem dM_up_12 : decode cM_up 12 = .ok (.aload_n 1, 1) := by decide +kernel
theorem dM_up_13 : decode cM_up 13 = .ok (.getfield 88, 3) := by decide +kernel
theorem dM_up_16 : decode cM_up 16 = .ok (.ifCond .ne 7, 3) := by decide +kernel
theorem dM_up_19 : decode cM_up 19 = .ok (.iconst 1, 1) := by decide +kernel
theorem dM_up_20 : decode cM_up 20 = .ok (.goto 4, 3) := by decide +kernel
theorem dM_up_23 : decode cM_up 23 = .ok (.iconst 0, 1) := by decide +kernel
theorem dM_up_24 : decode cM_up 24 = .ok (.putfield 88, 3) := by decide +kernel
theorem dM_up_27 : decode cM_up 27 = .ok (.aload_n 0, 1) := by decide +kernel
theorem dM_up_28 : decode cM_up 28 = .ok (.aload_n 0, 1) := by decide +kernel
theorem dM_up_29 : decode cM_up 29 = .ok (.getfield 82, 3) := by decide +kernel
theorem dM_up_32 : decode cM_up 32 = .ok (.invokevirtual 92, 3) := by decide +kernel
theorem dM_up_35 : decode cM_up 35 = .ok (.invokestatic 96, 3) := by decide +kernel
theorem dM_up_38 : decode cM_up 38 = .ok (.lreturn, 1) := by decide +kernel
theorem dM_rootDown_0 : decode cM_rootDown 0 = .ok (.lconst 0, 1) := by decide +kernel
theorem dM_rootDown_1 : decode cM_rootDown 1 = .ok (.lstore_n 2, 1) := by decide +kernel
theorem dM_rootDown_2 : decode cM_rootDown 2 = .ok (.ldc2_w 61, 3) := by decide +kernel
theorem dM_rootDown_5 : decode cM_rootDown 5 = .ok (.lstore 4, 2) := by decide +kernel
theorem dM_rootDown_7 : decode cM_rootDown 7 = .ok (.lload 4, 2) := by decide +kernel
theorem dM_rootDown_9 : decode cM_rootDown 9 = .ok (.lload_n 2, 1) := by decide +kernel
theorem dM_rootDown_10 : decode cM_rootDown 10 = .ok (.lsub, 1) := by decide +kernel
theorem dM_rootDown_11 : decode cM_rootDown 11 = .ok (.lconst 1, 1) := by decide +kernel
theorem dM_rootDown_12 : decode cM_rootDown 12 = .ok (.lcmp, 1) := by decide +kernel
theorem dM_rootDown_13 : decode cM_rootDown 13 = .ok (.ifCond .le 64, 3) := by decide +kernel
theorem dM_rootDown_16 : decode cM_rootDown 16 = .ok (.lload_n 2, 1) := by decide +kernel
theorem dM_rootDown_17 : decode cM_rootDown 17 = .ok (.lload 4, 2) := by decide +kernel
theorem dM_rootDown_19 : decode cM_rootDown 19 = .ok (.lload_n 2, 1) := by decide +kernel
theorem dM_rootDown_20 : decode cM_rootDown 20 = .ok (.lsub, 1) := by decide +kernel
theorem dM_rootDown_21 : decode cM_rootDown 21 = .ok (.ldc2_w 80, 3) := by decide +kernel
theorem dM_rootDown_24 : decode cM_rootDown 24 = .ok (.ldiv, 1) := by decide +kernel
theorem dM_rootDown_25 : decode cM_rootDown 25 = .ok (.ladd, 1) := by decide +kernel
theorem dM_rootDown_26 : decode cM_rootDown 26 = .ok (.lstore 6, 2) := by decide +kernel
theorem dM_rootDown_28 : decode cM_rootDown 28 = .ok (.aload_n 0, 1) := by decide +kernel
theorem dM_rootDown_29 : decode cM_rootDown 29 = .ok (.getfield 63, 3) := by decide +kernel
theorem dM_rootDown_32 : decode cM_rootDown 32 = .ok (.lload 6, 2) := by decide +kernel
theorem dM_rootDown_34 : decode cM_rootDown 34 = .ok (.invokevirtual 71, 3) := by decide +kernel
theorem dM_rootDown_37 : decode cM_rootDown 37 = .ok (.aload_n 0, 1) := by decide +kernel
theorem dM_rootDown_38 : decode cM_rootDown 38 = .ok (.getfield 99, 3) := by decide +kernel
theorem dM_rootDown_41 : decode cM_rootDown 41 = .ok (.aload_n 0, 1) := by decide +kernel
theorem dM_rootDown_42 : decode cM_rootDown 42 = .ok (.getfield 63, 3) := by decide +kernel
theorem dM_rootDown_45 : decode cM_rootDown 45 = .ok (.aload_n 0, 1) := by decide +kernel
theorem dM_rootDown_46 : decode cM_rootDown 46 = .ok (.getfield 63, 3) := by decide +kernel
theorem dM_rootDown_49 : decode cM_rootDown 49 = .ok (.invokevirtual 102, 3) := by decide +kernel
theorem dM_rootDown_52 : decode cM_rootDown 52 = .ok (.aload_n 0, 1) := by decide +kernel
theorem dM_rootDown_53 : decode cM_rootDown 53 = .ok (.aload_n 0, 1) := by decide +kernel
theorem dM_rootDown_54 : decode cM_rootDown 54 = .ok (.getfield 99, 3) := by decide +kernel
theorem dM_rootDown_57 : decode cM_rootDown 57 = .ok (.aload_n 1, 1) := by decide +kernel
theorem dM_rootDown_58 : decode cM_rootDown 58 = .ok (.invokevirtual 75, 3) := by decide +kernel
theorem dM_rootDown_61 : decode cM_rootDown 61 = .ok (.ifCond .gt 9, 3) := by decide +kernel
theorem dM_rootDown_64 : decode cM_rootDown 64 = .ok (.lload 6, 2) := by decide +kernel
theorem dM_rootDown_66 : decode cM_rootDown 66 = .ok (.lstore_n 2, 1) := by decide +kernel
theorem dM_rootDown_67 : decode cM_rootDown 67 = .ok (.goto 7, 3) := by decide +kernel
theorem dM_rootDown_70 : decode cM_rootDown 70 = .ok (.lload 6, 2) := by decide +kernel
theorem dM_rootDown_72 : decode cM_rootDown 72 = .ok (.lstore 4, 2) := by decide +kernel
theorem dM_rootDown_74 : decode cM_rootDown 74 = .ok (.goto (-67), 3) := by decide +kernel
theorem dM_rootDown_77 : decode cM_rootDown 77 = .ok (.lload_n 2, 1) := by decide +kernel
theorem dM_rootDown_78 : decode cM_rootDown 78 = .ok (.lreturn, 1) := by decide +kernel
theorem dM_rootUp_0 : decode cM_rootUp 0 = .ok (.aload_n 0, 1) := by decide +kernel
theorem dM_rootUp_1 : decode cM_rootUp 1 = .ok (.aload_n 1, 1) := by decide +kernel
theorem dM_rootUp_2 : decode cM_rootUp 2 = .ok (.invokevirtual 106, 3) := by decide +kernel
theorem dM_rootUp_5 : decode cM_rootUp 5 = .ok (.lstore_n 2, 1) := by decide +kernel
theorem dM_rootUp_6 : decode cM_rootUp 6 = .ok (.aload_n 0, 1) := by decide +kernel
theorem dM_rootUp_7 : decode cM_rootUp 7 = .ok (.getfield 63, 3) := by decide +kernel
theorem dM_rootUp_10 : decode cM_rootUp 10 = .ok (.lload_n 2, 1) := by decide +kernel
theorem dM_rootUp_11 : decode cM_rootUp 11 = .ok (.invokevirtual 71, 3) := by decide +kernel
theorem dM_rootUp_14 : decode cM_rootUp 14 = .ok (.aload_n 0, 1) := by decide +kernel
theorem dM_rootUp_15 : decode cM_rootUp 15 = .ok (.getfield 99, 3) := by decide +kernel
theorem dM_rootUp_18 : decode cM_rootUp 18 = .ok (.aload_n 0, 1) := by decide +kernel
theorem dM_rootUp_19 : decode cM_rootUp 19 = .ok (.getfield 63, 3) := by decide +kernel
theorem dM_rootUp_22 : decode cM_rootUp 22 = .ok (.aload_n 0, 1) := by decide +kernel
theorem dM_rootUp_23 : decode cM_rootUp 23 = .ok (.getfield 63, 3) := by decide +kernel
theorem dM_rootUp_26 : decode cM_rootUp 26 = .ok (.invokevirtual 102, 3) := by decide +kernel
theorem dM_rootUp_29 : decode cM_rootUp 29 = .ok (.aload_n 0, 1) := by decide +kernel
theorem dM_rootUp_30 : decode cM_rootUp 30 = .ok (.aload_n 0, 1) := by decide +kernel
theorem dM_rootUp_31 : decode cM_rootUp 31 = .ok (.getfield 99, 3) := by decide +kernel
theorem dM_rootUp_34 : decode cM_rootUp 34 = .ok (.aload_n 1, 1) := by decide +kernel
theorem dM_rootUp_35 : decode cM_rootUp 35 = .ok (.invokevirtual 75, 3) := by decide +kernel
theorem dM_rootUp_38 : decode cM_rootUp 38 = .ok (.ifCond .ne 7, 3) := by decide +kernel
theorem dM_rootUp_41 : decode cM_rootUp 41 = .ok (.lload_n 2, 1) := by decide +kernel
theorem dM_rootUp_42 : decode cM_rootUp 42 = .ok (.goto 6, 3) := by decide +kernel
theorem dM_rootUp_45 : decode cM_rootUp 45 = .ok (.lload_n 2, 1) := by decide +kernel
theorem dM_rootUp_46 : decode cM_rootUp 46 = .ok (.lconst 1, 1) := by decide +kernel
theorem dM_rootUp_47 : decode cM_rootUp 47 = .ok (.ladd, 1) := by decide +kernel
theorem dM_rootUp_48 : decode cM_rootUp 48 = .ok (.lreturn, 1) := by decide +kernel
theorem dM_init_0 : decode cM_init 0 = .ok (.aload_n 0, 1) := by decide +kernel
theorem dM_init_1 : decode cM_init 1 = .ok (.invokespecial 109, 3) := by decide +kernel
theorem dM_init_4 : decode cM_init 4 = .ok (.aload_n 0, 1) := by decide +kernel
theorem dM_init_5 : decode cM_init 5 = .ok (.new 8, 3) := by decide +kernel
theorem dM_init_8 : decode cM_init 8 = .ok (.dup, 1) := by decide +kernel
theorem dM_init_9 : decode cM_init 9 = .ok (.invokespecial 115, 3) := by decide +kernel
theorem dM_init_12 : decode cM_init 12 = .ok (.putfield 13, 3) := by decide +kernel
theorem dM_init_15 : decode cM_init 15 = .ok (.aload_n 0, 1) := by decide +kernel
theorem dM_init_16 : decode cM_init 16 = .ok (.new 8, 3) := by decide +kernel
theorem dM_init_19 : decode cM_init 19 = .ok (.dup, 1) := by decide +kernel
theorem dM_init_20 : decode cM_init 20 = .ok (.invokespecial 115, 3) := by decide +kernel
theorem dM_init_23 : decode cM_init 23 = .ok (.putfield 29, 3) := by decide +kernel
theorem dM_init_26 : decode cM_init 26 = .ok (.aload_n 0, 1) := by decide +kernel
theorem dM_init_27 : decode cM_init 27 = .ok (.new 2, 3) := by decide +kernel
theorem dM_init_30 : decode cM_init 30 = .ok (.dup, 1) := by decide +kernel
theorem dM_init_31 : decode cM_init 31 = .ok (.invokespecial 116, 3) := by decide +kernel
theorem dM_init_34 : decode cM_init 34 = .ok (.putfield 63, 3) := by decide +kernel
theorem dM_init_37 : decode cM_init 37 = .ok (.aload_n 0, 1) := by decide +kernel
theorem dM_init_38 : decode cM_init 38 = .ok (.new 2, 3) := by decide +kernel
theorem dM_init_41 : decode cM_init 41 = .ok (.dup, 1) := by decide +kernel
theorem dM_init_42 : decode cM_init 42 = .ok (.invokespecial 116, 3) := by decide +kernel
theorem dM_init_45 : decode cM_init 45 = .ok (.putfield 99, 3) := by decide +kernel
theorem dM_init_48 : decode cM_init 48 = .ok (.aload_n 0, 1) := by decide +kernel
theorem dM_init_49 : decode cM_init 49 = .ok (.new 2, 3) := by decide +kernel
theorem dM_init_52 : decode cM_init 52 = .ok (.dup, 1) := by decide +kernel
theorem dM_init_53 : decode cM_init 53 = .ok (.invokespecial 116, 3) := by decide +kernel
theorem dM_init_56 : decode cM_init 56 = .ok (.putfield 82, 3) := by decide +kernel
theorem dM_init_59 : decode cM_init 59 = .ok (.aload_n 0, 1) := by decide +kernel
theorem dM_init_60 : decode cM_init 60 = .ok (.new 2, 3) := by decide +kernel
theorem dM_init_63 : decode cM_init 63 = .ok (.dup, 1) := by decide +kernel
theorem dM_init_64 : decode cM_init 64 = .ok (.invokespecial 116, 3) := by decide +kernel
theorem dM_init_67 : decode cM_init 67 = .ok (.putfield 117, 3) := by decide +kernel
theorem dM_init_70 : decode cM_init 70 = .ok (.aload_n 0, 1) := by decide +kernel
theorem dM_init_71 : decode cM_init 71 = .ok (.new 2, 3) := by decide +kernel
theorem dM_init_74 : decode cM_init 74 = .ok (.dup, 1) := by decide +kernel
theorem dM_init_75 : decode cM_init 75 = .ok (.invokespecial 116, 3) := by decide +kernel
theorem dM_init_78 : decode cM_init 78 = .ok (.putfield 120, 3) := by decide +kernel
theorem dM_init_81 : decode cM_init 81 = .ok (.aload_n 0, 1) := by decide +kernel
theorem dM_init_82 : decode cM_init 82 = .ok (.new 2, 3) := by decide +kernel
theorem dM_init_85 : decode cM_init 85 = .ok (.dup, 1) := by decide +kernel
theorem dM_init_86 : decode cM_init 86 = .ok (.invokespecial 116, 3) := by decide +kernel
theorem dM_init_89 : decode cM_init 89 = .ok (.putfield 123, 3) := by decide +kernel
theorem dM_init_92 : decode cM_init 92 = .ok (.aload_n 0, 1) := by decide +kernel
theorem dM_init_93 : decode cM_init 93 = .ok (.new 2, 3) := by decide +kernel
theorem dM_init_96 : decode cM_init 96 = .ok (.dup, 1) := by decide +kernel
theorem dM_init_97 : decode cM_init 97 = .ok (.invokespecial 116, 3) := by decide +kernel
theorem dM_init_100 : decode cM_init 100 = .ok (.putfield 126, 3) := by decide +kernel
theorem dM_init_103 : decode cM_init 103 = .ok (.return_, 1) := by decide +kernel
theorem dM_isNan_0 : decode cM_isNan 0 = .ok (.lload_n 0, 1) := by decide +kernel
theorem dM_isNan_1 : decode cM_isNan 1 = .ok (.ldc2_w 55, 3) := by decide +kernel
theorem dM_isNan_4 : decode cM_isNan 4 = .ok (.land, 1) := by decide +kernel
theorem dM_isNan_5 : decode cM_isNan 5 = .ok (.ldc2_w 61, 3) := by decide +kernel
theorem dM_isNan_8 : decode cM_isNan 8 = .ok (.lcmp, 1) := by decide +kernel
theorem dM_isNan_9 : decode cM_isNan 9 = .ok (.ifCond .le 7, 3) := by decide +kernel
theorem dM_isNan_12 : decode cM_isNan 12 = .ok (.iconst 1, 1) := by decide +kernel
theorem dM_isNan_13 : decode cM_isNan 13 = .ok (.goto 4, 3) := by decide +kernel
theorem dM_isNan_16 : decode cM_isNan 16 = .ok (.iconst 0, 1) := by decide +kernel
theorem dM_isNan_17 : decode cM_isNan 17 = .ok (.ireturn, 1) := by decide +kernel
theorem dM_isInfinite_0 : decode cM_isInfinite 0 = .ok (.lload_n 0, 1) := by decide +kernel
theorem dM_isInfinite_1 : decode cM_isInfinite 1 = .ok (.ldc2_w 55, 3) := by decide +kernel
theorem dM_isInfinite_4 : decode cM_isInfinite 4 = .ok (.land, 1) := by decide +kernel
theorem dM_isInfinite_5 : decode cM_isInfinite 5 = .ok (.ldc2_w 61, 3) := by decide +kernel
theorem dM_isInfinite_8 : decode cM_isInfinite 8 = .ok (.lcmp, 1) := by decide +kernel
theorem dM_isInfinite_9 : decode cM_isInfinite 9 = .ok (.ifCond .ne 7, 3) := by decide +kernel
theorem dM_isInfinite_12 : decode cM_isInfinite 12 = .ok (.iconst 1, 1) := by decide +kernel
theorem dM_isInfinite_13 : decode cM_isInfinite 13 = .ok (.goto 4, 3) := by decide +kernel
theorem dM_isInfinite_16 : decode cM_isInfinite 16 = .ok (.iconst 0, 1) := by decide +kernel
theorem dM_isInfinite_17 : decode cM_isInfinite 17 = .ok (.ireturn, 1) := by decide +kernel
theorem dM_isZero_0 : decode cM_isZero 0 = .ok (.lload_n 0, 1) := by decide +kernel
theorem dM_isZero_1 : decode cM_isZero 1 = .ok (.ldc2_w 55, 3) := by decide +kernel
theorem dM_isZero_4 : decode cM_isZero 4 = .ok (.land, 1) := by decide +kernel
theorem dM_isZero_5 : decode cM_isZero 5 = .ok (.lconst 0, 1) := by decide +kernel
theorem dM_isZero_6 : decode cM_isZero 6 = .ok (.lcmp, 1) := by decide +kernel
theorem dM_isZero_7 : decode cM_isZero 7 = .ok (.ifCond .ne 7, 3) := by decide +kernel
theorem dM_isZero_10 : decode cM_isZero 10 = .ok (.iconst 1, 1) := by decide +kernel
theorem dM_isZero_11 : decode cM_isZero 11 = .ok (.goto 4, 3) := by decide +kernel
theorem dM_isZero_14 : decode cM_isZero 14 = .ok (.iconst 0, 1) := by decide +kernel
theorem dM_isZero_15 : decode cM_isZero 15 = .ok (.ireturn, 1) := by decide +kernel
theorem dM_plainZero_0 : decode cM_plainZero 0 = .ok (.lload_n 0, 1) := by decide +kernel
theorem dM_plainZero_1 : decode cM_plainZero 1 = .ok (.invokestatic 129, 3) := by decide +kernel
theorem dM_plainZero_4 : decode cM_plainZero 4 = .ok (.ifCond .eq 7, 3) := by decide +kernel
theorem dM_plainZero_7 : decode cM_plainZero 7 = .ok (.lconst 0, 1) := by decide +kernel
theorem dM_plainZero_8 : decode cM_plainZero 8 = .ok (.goto 4, 3) := by decide +kernel
theorem dM_plainZero_11 : decode cM_plainZero 11 = .ok (.lload_n 0, 1) := by decide +kernel
theorem dM_plainZero_12 : decode cM_plainZero 12 = .ok (.lreturn, 1) := by decide +kernel
theorem dM_infinity_0 : decode cM_infinity 0 = .ok (.iload_n 0, 1) := by decide +kernel
theorem dM_infinity_1 : decode cM_infinity 1 = .ok (.ifCond .eq 9, 3) := by decide +kernel
theorem dM_infinity_4 : decode cM_infinity 4 = .ok (.ldc2_w 78, 3) := by decide +kernel
theorem dM_infinity_7 : decode cM_infinity 7 = .ok (.goto 6, 3) := by decide +kernel
theorem dM_infinity_10 : decode cM_infinity 10 = .ok (.ldc2_w 61, 3) := by decide +kernel
theorem dM_infinity_13 : decode cM_infinity 13 = .ok (.lreturn, 1) := by decide +kernel
theorem dM_round_0 : decode cM_round 0 = .ok (.iload_n 2, 1) := by decide +kernel
theorem dM_round_1 : decode cM_round 1 = .ok (.ifCond .eq 11, 3) := by decide +kernel
theorem dM_round_4 : decode cM_round 4 = .ok (.aload_n 0, 1) := by decide +kernel
theorem dM_round_5 : decode cM_round 5 = .ok (.aload_n 1, 1) := by decide +kernel
theorem dM_round_6 : decode cM_round 6 = .ok (.invokevirtual 133, 3) := by decide +kernel
theorem dM_round_9 : decode cM_round 9 = .ok (.goto 8, 3) := by decide +kernel
theorem dM_round_12 : decode cM_round 12 = .ok (.aload_n 0, 1) := by decide +kernel
theorem dM_round_13 : decode cM_round 13 = .ok (.aload_n 1, 1) := by decide +kernel
theorem dM_round_14 : decode cM_round 14 = .ok (.invokevirtual 92, 3) := by decide +kernel
theorem dM_round_17 : decode cM_round 17 = .ok (.lreturn, 1) := by decide +kernel
theorem dM_add_0 : decode cM_add 0 = .ok (.lload_n 1, 1) := by decide +kernel
theorem dM_add_1 : decode cM_add 1 = .ok (.invokestatic 136, 3) := by decide +kernel
theorem dM_add_4 : decode cM_add 4 = .ok (.ifCond .ne 10, 3) := by decide +kernel
theorem dM_add_7 : decode cM_add 7 = .ok (.lload_n 3, 1) := by decide +kernel
theorem dM_add_8 : decode cM_add 8 = .ok (.invokestatic 136, 3) := by decide +kernel
theorem dM_add_11 : decode cM_add 11 = .ok (.ifCond .eq 7, 3) := by decide +kernel
theorem dM_add_14 : decode cM_add 14 = .ok (.ldc2_w 139, 3) := by decide +kernel
theorem dM_add_17 : decode cM_add 17 = .ok (.lreturn, 1) := by decide +kernel
theorem dM_add_18 : decode cM_add 18 = .ok (.lload_n 1, 1) := by decide +kernel
theorem dM_add_19 : decode cM_add 19 = .ok (.invokestatic 141, 3) := by decide +kernel
theorem dM_add_22 : decode cM_add 22 = .ok (.ifCond .ne 10, 3) := by decide +kernel
theorem dM_add_25 : decode cM_add 25 = .ok (.lload_n 3, 1) := by decide +kernel
theorem dM_add_26 : decode cM_add 26 = .ok (.invokestatic 141, 3) := by decide +kernel
theorem dM_add_29 : decode cM_add 29 = .ok (.ifCond .eq 42, 3) := by decide +kernel
theorem dM_add_32 : decode cM_add 32 = .ok (.lload_n 1, 1) := by decide +kernel
theorem dM_add_33 : decode cM_add 33 = .ok (.invokestatic 141, 3) := by decide +kernel
theorem dM_add_36 : decode cM_add 36 = .ok (.ifCond .eq 22, 3) := by decide +kernel
theorem dM_add_39 : decode cM_add 39 = .ok (.lload_n 3, 1) := by decide +kernel
theorem dM_add_40 : decode cM_add 40 = .ok (.invokestatic 141, 3) := by decide +kernel
theorem dM_add_43 : decode cM_add 43 = .ok (.ifCond .eq 15, 3) := by decide +kernel
theorem dM_add_46 : decode cM_add 46 = .ok (.lload_n 1, 1) := by decide +kernel
theorem dM_add_47 : decode cM_add 47 = .ok (.lload_n 3, 1) := by decide +kernel
theorem dM_add_48 : decode cM_add 48 = .ok (.lcmp, 1) := by decide +kernel
theorem dM_add_49 : decode cM_add 49 = .ok (.ifCond .eq 9, 3) := by decide +kernel
theorem dM_add_52 : decode cM_add 52 = .ok (.ldc2_w 139, 3) := by decide +kernel
theorem dM_add_55 : decode cM_add 55 = .ok (.goto 15, 3) := by decide +kernel
theorem dM_add_58 : decode cM_add 58 = .ok (.lload_n 1, 1) := by decide +kernel
theorem dM_add_59 : decode cM_add 59 = .ok (.invokestatic 141, 3) := by decide +kernel
theorem dM_add_62 : decode cM_add 62 = .ok (.ifCond .eq 7, 3) := by decide +kernel
theorem dM_add_65 : decode cM_add 65 = .ok (.lload_n 1, 1) := by decide +kernel
theorem dM_add_66 : decode cM_add 66 = .ok (.goto 4, 3) := by decide +kernel
theorem dM_add_69 : decode cM_add 69 = .ok (.lload_n 3, 1) := by decide +kernel
theorem dM_add_70 : decode cM_add 70 = .ok (.lreturn, 1) := by decide +kernel
theorem dM_add_71 : decode cM_add 71 = .ok (.aload_n 0, 1) := by decide +kernel
theorem dM_add_72 : decode cM_add 72 = .ok (.getfield 117, 3) := by decide +kernel
theorem dM_add_75 : decode cM_add 75 = .ok (.lload_n 1, 1) := by decide +kernel
theorem dM_add_76 : decode cM_add 76 = .ok (.invokevirtual 71, 3) := by decide +kernel
theorem dM_add_79 : decode cM_add 79 = .ok (.aload_n 0, 1) := by decide +kernel
theorem dM_add_80 : decode cM_add 80 = .ok (.getfield 120, 3) := by decide +kernel
theorem dM_add_83 : decode cM_add 83 = .ok (.lload_n 3, 1) := by decide +kernel
theorem dM_add_84 : decode cM_add 84 = .ok (.invokevirtual 71, 3) := by decide +kernel
theorem dM_add_87 : decode cM_add 87 = .ok (.aload_n 0, 1) := by decide +kernel
theorem dM_add_88 : decode cM_add 88 = .ok (.getfield 123, 3) := by decide +kernel
theorem dM_add_91 : decode cM_add 91 = .ok (.aload_n 0, 1) := by decide +kernel
theorem dM_add_92 : decode cM_add 92 = .ok (.getfield 117, 3) := by decide +kernel
theorem dM_add_95 : decode cM_add 95 = .ok (.aload_n 0, 1) := by decide +kernel
theorem dM_add_96 : decode cM_add 96 = .ok (.getfield 120, 3) := by decide +kernel
theorem dM_add_99 : decode cM_add 99 = .ok (.invokevirtual 144, 3) := by decide +kernel
theorem dM_add_102 : decode cM_add 102 = .ok (.aload_n 0, 1) := by decide +kernel
theorem dM_add_103 : decode cM_add 103 = .ok (.aload_n 0, 1) := by decide +kernel
theorem dM_add_104 : decode cM_add 104 = .ok (.getfield 123, 3) := by decide +kernel
theorem dM_add_107 : decode cM_add 107 = .ok (.iload 5, 2) := by decide +kernel
theorem dM_add_109 : decode cM_add 109 = .ok (.invokevirtual 147, 3) := by decide +kernel
theorem dM_add_112 : decode cM_add 112 = .ok (.lreturn, 1) := by decide +kernel
theorem dM_multiply_0 : decode cM_multiply 0 = .ok (.lload_n 1, 1) := by decide +kernel
theorem dM_multiply_1 : decode cM_multiply 1 = .ok (.invokestatic 136, 3) := by decide +kernel
theorem dM_multiply_4 : decode cM_multiply 4 = .ok (.ifCond .ne 10, 3) := by decide +kernel
theorem dM_multiply_7 : decode cM_multiply 7 = .ok (.lload_n 3, 1) := by decide +kernel
theorem dM_multiply_8 : decode cM_multiply 8 = .ok (.invokestatic 136, 3) := by decide +kernel
theorem dM_multiply_11 : decode cM_multiply 11 = .ok (.ifCond .eq 7, 3) := by decide +kernel
theorem dM_multiply_14 : decode cM_multiply 14 = .ok (.ldc2_w 139, 3) := by decide +kernel
theorem dM_multiply_17 : decode cM_multiply 17 = .ok (.lreturn, 1) := by decide +kernel
theorem dM_multiply_18 : decode cM_multiply 18 = .ok (.lload_n 1, 1) := by decide +kernel
theorem dM_multiply_19 : decode cM_multiply 19 = .ok (.invokestatic 129, 3) := by decide +kernel
theorem dM_multiply_22 : decode cM_multiply 22 = .ok (.ifCond .ne 10, 3) := by decide +kernel
theorem dM_multiply_25 : decode cM_multiply 25 = .ok (.lload_n 3, 1) := by decide +kernel
theorem dM_multiply_26 : decode cM_multiply 26 = .ok (.invokestatic 129, 3) := by decide +kernel
theorem dM_multiply_29 : decode cM_multiply 29 = .ok (.ifCond .eq 5, 3) := by decide +kernel
theorem dM_multiply_32 : decode cM_multiply 32 = .ok (.lconst 0, 1) := by decide +kernel
theorem dM_multiply_33 : decode cM_multiply 33 = .ok (.lreturn, 1) := by decide +kernel
theorem dM_multiply_34 : decode cM_multiply 34 = .ok (.lload_n 1, 1) := by decide +kernel
theorem dM_multiply_35 : decode cM_multiply 35 = .ok (.invokestatic 141, 3) := by decide +kernel
theorem dM_multiply_38 : decode cM_multiply 38 = .ok (.ifCond .ne 10, 3) := by decide +kernel
theorem dM_multiply_41 : decode cM_multiply 41 = .ok (.lload_n 3, 1) := by decide +kernel
theorem dM_multiply_42 : decode cM_multiply 42 = .ok (.invokestatic 141, 3) := by decide +kernel
theorem dM_multiply_45 : decode cM_multiply 45 = .ok (.ifCond .eq 37, 3) := by decide +kernel
theorem dM_multiply_48 : decode cM_multiply 48 = .ok (.lload_n 1, 1) := by decide +kernel
theorem dM_multiply_49 : decode cM_multiply 49 = .ok (.lconst 0, 1) := by decide +kernel
theorem dM_multiply_50 : decode cM_multiply 50 = .ok (.lcmp, 1) := by decide +kernel
theorem dM_multiply_51 : decode cM_multiply 51 = .ok (.ifCond .ge 7, 3) := by decide +kernel
theorem dM_multiply_54 : decode cM_multiply 54 = .ok (.iconst 1, 1) := by decide +kernel
theorem dM_multiply_55 : decode cM_multiply 55 = .ok (.goto 4, 3) := by decide +kernel
theorem dM_multiply_58 : decode cM_multiply 58 = .ok (.iconst 0, 1) := by decide +kernel
theorem dM_multiply_59 : decode cM_multiply 59 = .ok (.lload_n 3, 1) := by decide +kernel
theorem dM_multiply_60 : decode cM_multiply 60 = .ok (.lconst 0, 1) := by decide +kernel
theorem dM_multiply_61 : decode cM_multiply 61 = .ok (.lcmp, 1) := by decide +kernel
theorem dM_multiply_62 : decode cM_multiply 62 = .ok (.ifCond .ge 7, 3) := by decide +kernel
theorem dM_multiply_65 : decode cM_multiply 65 = .ok (.iconst 1, 1) := by decide +kernel
theorem dM_multiply_66 : decode cM_multiply 66 = .ok (.goto 4, 3) := by decide +kernel
theorem dM_multiply_69 : decode cM_multiply 69 = .ok (.iconst 0, 1) := by decide +kernel
theorem dM_multiply_70 : decode cM_multiply 70 = .ok (.if_icmp .eq 7, 3) := by decide +kernel
theorem dM_multiply_73 : decode cM_multiply 73 = .ok (.iconst 1, 1) := by decide +kernel
theorem dM_multiply_74 : decode cM_multiply 74 = .ok (.goto 4, 3) := by decide +kernel
theorem dM_multiply_77 : decode cM_multiply 77 = .ok (.iconst 0, 1) := by decide +kernel
theorem dM_multiply_78 : decode cM_multiply 78 = .ok (.invokestatic 151, 3) := by decide +kernel
theorem dM_multiply_81 : decode cM_multiply 81 = .ok (.lreturn, 1) := by decide +kernel
theorem dM_multiply_82 : decode cM_multiply 82 = .ok (.aload_n 0, 1) := by decide +kernel
theorem dM_multiply_83 : decode cM_multiply 83 = .ok (.getfield 117, 3) := by decide +kernel
theorem dM_multiply_86 : decode cM_multiply 86 = .ok (.lload_n 1, 1) := by decide +kernel
theorem dM_multiply_87 : decode cM_multiply 87 = .ok (.invokevirtual 71, 3) := by decide +kernel
theorem dM_multiply_90 : decode cM_multiply 90 = .ok (.aload_n 0, 1) := by decide +kernel
theorem dM_multiply_91 : decode cM_multiply 91 = .ok (.getfield 120, 3) := by decide +kernel
theorem dM_multiply_94 : decode cM_multiply 94 = .ok (.lload_n 3, 1) := by decide +kernel
theorem dM_multiply_95 : decode cM_multiply 95 = .ok (.invokevirtual 71, 3) := by decide +kernel
theorem dM_multiply_98 : decode cM_multiply 98 = .ok (.aload_n 0, 1) := by decide +kernel
theorem dM_multiply_99 : decode cM_multiply 99 = .ok (.getfield 123, 3) := by decide +kernel
theorem dM_multiply_102 : decode cM_multiply 102 = .ok (.aload_n 0, 1) := by decide +kernel
theorem dM_multiply_103 : decode cM_multiply 103 = .ok (.getfield 117, 3) := by decide +kernel
theorem dM_multiply_106 : decode cM_multiply 106 = .ok (.aload_n 0, 1) := by decide +kernel
theorem dM_multiply_107 : decode cM_multiply 107 = .ok (.getfield 120, 3) := by decide +kernel
theorem dM_multiply_110 : decode cM_multiply 110 = .ok (.invokevirtual 102, 3) := by decide +kernel
theorem dM_multiply_113 : decode cM_multiply 113 = .ok (.aload_n 0, 1) := by decide +kernel
theorem dM_multiply_114 : decode cM_multiply 114 = .ok (.aload_n 0, 1) := by decide +kernel
theorem dM_multiply_115 : decode cM_multiply 115 = .ok (.getfield 123, 3) := by decide +kernel
theorem dM_multiply_118 : decode cM_multiply 118 = .ok (.iload 5, 2) := by decide +kernel
theorem dM_multiply_120 : decode cM_multiply 120 = .ok (.invokevirtual 147, 3) := by decide +kernel
theorem dM_multiply_123 : decode cM_multiply 123 = .ok (.lreturn, 1) := by decide +kernel
theorem dM_divide_0 : decode cM_divide 0 = .ok (.lload_n 1, 1) := by decide +kernel
theorem dM_divide_1 : decode cM_divide 1 = .ok (.invokestatic 136, 3) := by decide +kernel
theorem dM_divide_4 : decode cM_divide 4 = .ok (.ifCond .ne 31, 3) := by decide +kernel
theorem dM_divide_7 : decode cM_divide 7 = .ok (.lload_n 3, 1) := by decide +kernel
theorem dM_divide_8 : decode cM_divide 8 = .ok (.invokestatic 136, 3) := by decide +kernel
theorem dM_divide_11 : decode cM_divide 11 = .ok (.ifCond .ne 24, 3) := by decide +kernel
theorem dM_divide_14 : decode cM_divide 14 = .ok (.lload_n 3, 1) := by decide +kernel
theorem dM_divide_15 : decode cM_divide 15 = .ok (.invokestatic 129, 3) := by decide +kernel
theorem dM_divide_18 : decode cM_divide 18 = .ok (.ifCond .ne 17, 3) := by decide +kernel
theorem dM_divide_21 : decode cM_divide 21 = .ok (.lload_n 1, 1) := by decide +kernel
theorem dM_divide_22 : decode cM_divide 22 = .ok (.invokestatic 141, 3) := by decide +kernel
theorem dM_divide_25 : decode cM_divide 25 = .ok (.ifCond .eq 14, 3) := by decide +kernel
theorem dM_divide_28 : decode cM_divide 28 = .ok (.lload_n 3, 1) := by decide +kernel
theorem dM_divide_29 : decode cM_divide 29 = .ok (.invokestatic 141, 3) := by decide +kernel
theorem dM_divide_32 : decode cM_divide 32 = .ok (.ifCond .eq 7, 3) := by decide +kernel
theorem dM_divide_35 : decode cM_divide 35 = .ok (.ldc2_w 139, 3) := by decide +kernel
theorem dM_divide_38 : decode cM_divide 38 = .ok (.lreturn, 1) := by decide +kernel
theorem dM_divide_39 : decode cM_divide 39 = .ok (.lload_n 3, 1) := by decide +kernel
theorem dM_divide_40 : decode cM_divide 40 = .ok (.invokestatic 141, 3) := by decide +kernel
theorem dM_divide_43 : decode cM_divide 43 = .ok (.ifCond .eq 5, 3) := by decide +kernel
theorem dM_divide_46 : decode cM_divide 46 = .ok (.lconst 0, 1) := by decide +kernel
theorem dM_divide_47 : decode cM_divide 47 = .ok (.lreturn, 1) := by decide +kernel
theorem dM_divide_48 : decode cM_divide 48 = .ok (.lload_n 1, 1) := by decide +kernel
theorem dM_divide_49 : decode cM_divide 49 = .ok (.invokestatic 141, 3) := by decide +kernel
theorem dM_divide_52 : decode cM_divide 52 = .ok (.ifCond .eq 37, 3) := by decide +kernel
theorem dM_divide_55 : decode cM_divide 55 = .ok (.lload_n 1, 1) := by decide +kernel
theorem dM_divide_56 : decode cM_divide 56 = .ok (.lconst 0, 1) := by decide +kernel
theorem dM_divide_57 : decode cM_divide 57 = .ok (.lcmp, 1) := by decide +kernel
theorem dM_divide_58 : decode cM_divide 58 = .ok (.ifCond .ge 7, 3) := by decide +kernel
theorem dM_divide_61 : decode cM_divide 61 = .ok (.iconst 1, 1) := by decide +kernel
theorem dM_divide_62 : decode cM_divide 62 = .ok (.goto 4, 3) := by decide +kernel
theorem dM_divide_65 : decode cM_divide 65 = .ok (.iconst 0, 1) := by decide +kernel
theorem dM_divide_66 : decode cM_divide 66 = .ok (.lload_n 3, 1) := by decide +kernel
theorem dM_divide_67 : decode cM_divide 67 = .ok (.lconst 0, 1) := by decide +kernel
theorem dM_divide_68 : decode cM_divide 68 = .ok (.lcmp, 1) := by decide +kernel
theorem dM_divide_69 : decode cM_divide 69 = .ok (.ifCond .ge 7, 3) := by decide +kernel
theorem dM_divide_72 : decode cM_divide 72 = .ok (.iconst 1, 1) := by decide +kernel
theorem dM_divide_73 : decode cM_divide 73 = .ok (.goto 4, 3) := by decide +kernel
theorem dM_divide_76 : decode cM_divide 76 = .ok (.iconst 0, 1) := by decide +kernel
theorem dM_divide_77 : decode cM_divide 77 = .ok (.if_icmp .eq 7, 3) := by decide +kernel
theorem dM_divide_80 : decode cM_divide 80 = .ok (.iconst 1, 1) := by decide +kernel
theorem dM_divide_81 : decode cM_divide 81 = .ok (.goto 4, 3) := by decide +kernel
theorem dM_divide_84 : decode cM_divide 84 = .ok (.iconst 0, 1) := by decide +kernel
theorem dM_divide_85 : decode cM_divide 85 = .ok (.invokestatic 151, 3) := by decide +kernel
theorem dM_divide_88 : decode cM_divide 88 = .ok (.lreturn, 1) := by decide +kernel
theorem dM_divide_89 : decode cM_divide 89 = .ok (.aload_n 0, 1) := by decide +kernel
theorem dM_divide_90 : decode cM_divide 90 = .ok (.getfield 117, 3) := by decide +kernel
theorem dM_divide_93 : decode cM_divide 93 = .ok (.lload_n 1, 1) := by decide +kernel
theorem dM_divide_94 : decode cM_divide 94 = .ok (.invokevirtual 71, 3) := by decide +kernel
theorem dM_divide_97 : decode cM_divide 97 = .ok (.aload_n 0, 1) := by decide +kernel
theorem dM_divide_98 : decode cM_divide 98 = .ok (.getfield 120, 3) := by decide +kernel
theorem dM_divide_101 : decode cM_divide 101 = .ok (.lload_n 3, 1) := by decide +kernel
theorem dM_divide_102 : decode cM_divide 102 = .ok (.invokevirtual 71, 3) := by decide +kernel
theorem dM_divide_105 : decode cM_divide 105 = .ok (.aload_n 0, 1) := by decide +kernel
theorem dM_divide_106 : decode cM_divide 106 = .ok (.getfield 123, 3) := by decide +kernel
theorem dM_divide_109 : decode cM_divide 109 = .ok (.aload_n 0, 1) := by decide +kernel
theorem dM_divide_110 : decode cM_divide 110 = .ok (.getfield 117, 3) := by decide +kernel
theorem dM_divide_113 : decode cM_divide 113 = .ok (.aload_n 0, 1) := by decide +kernel
theorem dM_divide_114 : decode cM_divide 114 = .ok (.getfield 120, 3) := by decide +kernel
theorem dM_divide_117 : decode cM_divide 117 = .ok (.invokevirtual 155, 3) := by decide +kernel
theorem dM_divide_120 : decode cM_divide 120 = .ok (.aload_n 0, 1) := by decide +kernel
theorem dM_divide_121 : decode cM_divide 121 = .ok (.aload_n 0, 1) := by decide +kernel
theorem dM_divide_122 : decode cM_divide 122 = .ok (.getfield 123, 3) := by decide +kernel
theorem dM_divide_125 : decode cM_divide 125 = .ok (.iload 5, 2) := by decide +kernel
theorem dM_divide_127 : decode cM_divide 127 = .ok (.invokevirtual 147, 3) := by decide +kernel
theorem dM_divide_130 : decode cM_divide 130 = .ok (.lreturn, 1) := by decide +kernel
theorem dM_root_0 : decode cM_root 0 = .ok (.lload_n 1, 1) := by decide +kernel
theorem dM_root_1 : decode cM_root 1 = .ok (.invokestatic 136, 3) := by decide +kernel
theorem dM_root_4 : decode cM_root 4 = .ok (.ifCond .ne 16, 3) := by decide +kernel
theorem dM_root_7 : decode cM_root 7 = .ok (.lload_n 1, 1) := by decide +kernel
theorem dM_root_8 : decode cM_root 8 = .ok (.lconst 0, 1) := by decide +kernel
theorem dM_root_9 : decode cM_root 9 = .ok (.lcmp, 1) := by decide +kernel
theorem dM_root_10 : decode cM_root 10 = .ok (.ifCond .ge 14, 3) := by decide +kernel
theorem dM_root_13 : decode cM_root 13 = .ok (.lload_n 1, 1) := by decide +kernel
theorem dM_root_14 : decode cM_root 14 = .ok (.invokestatic 129, 3) := by decide +kernel
theorem dM_root_17 : decode cM_root 17 = .ok (.ifCond .ne 7, 3) := by decide +kernel
theorem dM_root_20 : decode cM_root 20 = .ok (.ldc2_w 139, 3) := by decide +kernel
theorem dM_root_23 : decode cM_root 23 = .ok (.lreturn, 1) := by decide +kernel
theorem dM_root_24 : decode cM_root 24 = .ok (.lload_n 1, 1) := by decide +kernel
theorem dM_root_25 : decode cM_root 25 = .ok (.invokestatic 141, 3) := by decide +kernel
theorem dM_root_28 : decode cM_root 28 = .ok (.ifCond .eq 5, 3) := by decide +kernel
theorem dM_root_31 : decode cM_root 31 = .ok (.lload_n 1, 1) := by decide +kernel
theorem dM_root_32 : decode cM_root 32 = .ok (.lreturn, 1) := by decide +kernel
theorem dM_root_33 : decode cM_root 33 = .ok (.aload_n 0, 1) := by decide +kernel
theorem dM_root_34 : decode cM_root 34 = .ok (.getfield 117, 3) := by decide +kernel
theorem dM_root_37 : decode cM_root 37 = .ok (.lload_n 1, 1) := by decide +kernel
theorem dM_root_38 : decode cM_root 38 = .ok (.invokestatic 158, 3) := by decide +kernel
theorem dM_root_41 : decode cM_root 41 = .ok (.invokevirtual 71, 3) := by decide +kernel
theorem dM_root_44 : decode cM_root 44 = .ok (.iload_n 3, 1) := by decide +kernel
theorem dM_root_45 : decode cM_root 45 = .ok (.ifCond .eq 14, 3) := by decide +kernel
theorem dM_root_48 : decode cM_root 48 = .ok (.aload_n 0, 1) := by decide +kernel
theorem dM_root_49 : decode cM_root 49 = .ok (.aload_n 0, 1) := by decide +kernel
theorem dM_root_50 : decode cM_root 50 = .ok (.getfield 117, 3) := by decide +kernel
theorem dM_root_53 : decode cM_root 53 = .ok (.invokevirtual 161, 3) := by decide +kernel
theorem dM_root_56 : decode cM_root 56 = .ok (.goto 11, 3) := by decide +kernel
theorem dM_root_59 : decode cM_root 59 = .ok (.aload_n 0, 1) := by decide +kernel
theorem dM_root_60 : decode cM_root 60 = .ok (.aload_n 0, 1) := by decide +kernel
theorem dM_root_61 : decode cM_root 61 = .ok (.getfield 117, 3) := by decide +kernel
theorem dM_root_64 : decode cM_root 64 = .ok (.invokevirtual 106, 3) := by decide +kernel
theorem dM_root_67 : decode cM_root 67 = .ok (.lreturn, 1) := by decide +kernel
theorem dM_fused_0 : decode cM_fused 0 = .ok (.lload_n 1, 1) := by decide +kernel
theorem dM_fused_1 : decode cM_fused 1 = .ok (.invokestatic 136, 3) := by decide +kernel
theorem dM_fused_4 : decode cM_fused 4 = .ok (.ifCond .ne 18, 3) := by decide +kernel
theorem dM_fused_7 : decode cM_fused 7 = .ok (.lload_n 3, 1) := by decide +kernel
theorem dM_fused_8 : decode cM_fused 8 = .ok (.invokestatic 136, 3) := by decide +kernel
theorem dM_fused_11 : decode cM_fused 11 = .ok (.ifCond .ne 11, 3) := by decide +kernel
theorem dM_fused_14 : decode cM_fused 14 = .ok (.lload 5, 2) := by decide +kernel
theorem dM_fused_16 : decode cM_fused 16 = .ok (.invokestatic 136, 3) := by decide +kernel
theorem dM_fused_19 : decode cM_fused 19 = .ok (.ifCond .eq 7, 3) := by decide +kernel
theorem dM_fused_22 : decode cM_fused 22 = .ok (.ldc2_w 139, 3) := by decide +kernel
theorem dM_fused_25 : decode cM_fused 25 = .ok (.lreturn, 1) := by decide +kernel
theorem dM_fused_26 : decode cM_fused 26 = .ok (.lload_n 1, 1) := by decide +kernel
theorem dM_fused_27 : decode cM_fused 27 = .ok (.invokestatic 129, 3) := by decide +kernel
theorem dM_fused_30 : decode cM_fused 30 = .ok (.ifCond .ne 10, 3) := by decide +kernel
theorem dM_fused_33 : decode cM_fused 33 = .ok (.lload_n 3, 1) := by decide +kernel
theorem dM_fused_34 : decode cM_fused 34 = .ok (.invokestatic 129, 3) := by decide +kernel
theorem dM_fused_37 : decode cM_fused 37 = .ok (.ifCond .eq 7, 3) := by decide +kernel
theorem dM_fused_40 : decode cM_fused 40 = .ok (.iconst 1, 1) := by decide +kernel
theorem dM_fused_41 : decode cM_fused 41 = .ok (.goto 4, 3) := by decide +kernel
theorem dM_fused_44 : decode cM_fused 44 = .ok (.iconst 0, 1) := by decide +kernel
theorem dM_fused_45 : decode cM_fused 45 = .ok (.istore 8, 2) := by decide +kernel
theorem dM_fused_47 : decode cM_fused 47 = .ok (.iload 8, 2) := by decide +kernel
theorem dM_fused_49 : decode cM_fused 49 = .ok (.ifCond .ne 77, 3) := by decide +kernel
theorem dM_fused_52 : decode cM_fused 52 = .ok (.lload_n 1, 1) := by decide +kernel
theorem dM_fused_53 : decode cM_fused 53 = .ok (.invokestatic 141, 3) := by decide +kernel
theorem dM_fused_56 : decode cM_fused 56 = .ok (.ifCond .ne 10, 3) := by decide +kernel
theorem dM_fused_59 : decode cM_fused 59 = .ok (.lload_n 3, 1) := by decide +kernel
theorem dM_fused_60 : decode cM_fused 60 = .ok (.invokestatic 141, 3) := by decide +kernel
theorem dM_fused_63 : decode cM_fused 63 = .ok (.ifCond .eq 63, 3) := by decide +kernel
theorem dM_fused_66 : decode cM_fused 66 = .ok (.lload_n 1, 1) := by decide +kernel
theorem dM_fused_67 : decode cM_fused 67 = .ok (.lconst 0, 1) := by decide +kernel
theorem dM_fused_68 : decode cM_fused 68 = .ok (.lcmp, 1) := by decide +kernel
theorem dM_fused_69 : decode cM_fused 69 = .ok (.ifCond .ge 7, 3) := by decide +kernel
theorem dM_fused_72 : decode cM_fused 72 = .ok (.iconst 1, 1) := by decide +kernel
theorem dM_fused_73 : decode cM_fused 73 = .ok (.goto 4, 3) := by decide +kernel
theorem dM_fused_76 : decode cM_fused 76 = .ok (.iconst 0, 1) := by decide +kernel
theorem dM_fused_77 : decode cM_fused 77 = .ok (.lload_n 3, 1) := by decide +kernel
theorem dM_fused_78 : decode cM_fused 78 = .ok (.lconst 0, 1) := by decide +kernel
theorem dM_fused_79 : decode cM_fused 79 = .ok (.lcmp, 1) := by decide +kernel
theorem dM_fused_80 : decode cM_fused 80 = .ok (.ifCond .ge 7, 3) := by decide +kernel
theorem dM_fused_83 : decode cM_fused 83 = .ok (.iconst 1, 1) := by decide +kernel
theorem dM_fused_84 : decode cM_fused 84 = .ok (.goto 4, 3) := by decide +kernel
theorem dM_fused_87 : decode cM_fused 87 = .ok (.iconst 0, 1) := by decide +kernel
theorem dM_fused_88 : decode cM_fused 88 = .ok (.if_icmp .eq 7, 3) := by decide +kernel
theorem dM_fused_91 : decode cM_fused 91 = .ok (.iconst 1, 1) := by decide +kernel
theorem dM_fused_92 : decode cM_fused 92 = .ok (.goto 4, 3) := by decide +kernel
theorem dM_fused_95 : decode cM_fused 95 = .ok (.iconst 0, 1) := by decide +kernel
theorem dM_fused_96 : decode cM_fused 96 = .ok (.invokestatic 151, 3) := by decide +kernel
theorem dM_fused_99 : decode cM_fused 99 = .ok (.lstore 9, 2) := by decide +kernel
theorem dM_fused_101 : decode cM_fused 101 = .ok (.lload 5, 2) := by decide +kernel
theorem dM_fused_103 : decode cM_fused 103 = .ok (.invokestatic 141, 3) := by decide +kernel
theorem dM_fused_106 : decode cM_fused 106 = .ok (.ifCond .eq 17, 3) := by decide +kernel
theorem dM_fused_109 : decode cM_fused 109 = .ok (.lload 5, 2) := by decide +kernel
theorem dM_fused_111 : decode cM_fused 111 = .ok (.lload 9, 2) := by decide +kernel
theorem dM_fused_113 : decode cM_fused 113 = .ok (.lcmp, 1) := by decide +kernel
theorem dM_fused_114 : decode cM_fused 114 = .ok (.ifCond .eq 9, 3) := by decide +kernel
theorem dM_fused_117 : decode cM_fused 117 = .ok (.ldc2_w 139, 3) := by decide +kernel
theorem dM_fused_120 : decode cM_fused 120 = .ok (.goto 5, 3) := by decide +kernel
theorem dM_fused_123 : decode cM_fused 123 = .ok (.lload 9, 2) := by decide +kernel
theorem dM_fused_125 : decode cM_fused 125 = .ok (.lreturn, 1) := by decide +kernel
theorem dM_fused_126 : decode cM_fused 126 = .ok (.lload 5, 2) := by decide +kernel
theorem dM_fused_128 : decode cM_fused 128 = .ok (.invokestatic 141, 3) := by decide +kernel
theorem dM_fused_131 : decode cM_fused 131 = .ok (.ifCond .eq 6, 3) := by decide +kernel
theorem dM_fused_134 : decode cM_fused 134 = .ok (.lload 5, 2) := by decide +kernel
theorem dM_fused_136 : decode cM_fused 136 = .ok (.lreturn, 1) := by decide +kernel
theorem dM_fused_137 : decode cM_fused 137 = .ok (.aload_n 0, 1) := by decide +kernel
theorem dM_fused_138 : decode cM_fused 138 = .ok (.getfield 117, 3) := by decide +kernel
theorem dM_fused_141 : decode cM_fused 141 = .ok (.iload 8, 2) := by decide +kernel
theorem dM_fused_143 : decode cM_fused 143 = .ok (.ifCond .eq 7, 3) := by decide +kernel
theorem dM_fused_146 : decode cM_fused 146 = .ok (.lconst 0, 1) := by decide +kernel
theorem dM_fused_147 : decode cM_fused 147 = .ok (.goto 4, 3) := by decide +kernel
theorem dM_fused_150 : decode cM_fused 150 = .ok (.lload_n 1, 1) := by decide +kernel
theorem dM_fused_151 : decode cM_fused 151 = .ok (.invokevirtual 71, 3) := by decide +kernel
theorem dM_fused_154 : decode cM_fused 154 = .ok (.aload_n 0, 1) := by decide +kernel
theorem dM_fused_155 : decode cM_fused 155 = .ok (.getfield 120, 3) := by decide +kernel
theorem dM_fused_158 : decode cM_fused 158 = .ok (.iload 8, 2) := by decide +kernel
theorem dM_fused_160 : decode cM_fused 160 = .ok (.ifCond .eq 7, 3) := by decide +kernel
theorem dM_fused_163 : decode cM_fused 163 = .ok (.lconst 0, 1) := by decide +kernel
theorem dM_fused_164 : decode cM_fused 164 = .ok (.goto 4, 3) := by decide +kernel
theorem dM_fused_167 : decode cM_fused 167 = .ok (.lload_n 3, 1) := by decide +kernel
theorem dM_fused_168 : decode cM_fused 168 = .ok (.invokevirtual 71, 3) := by decide +kernel
theorem dM_fused_171 : decode cM_fused 171 = .ok (.aload_n 0, 1) := by decide +kernel
theorem dM_fused_172 : decode cM_fused 172 = .ok (.getfield 123, 3) := by decide +kernel
theorem dM_fused_175 : decode cM_fused 175 = .ok (.aload_n 0, 1) := by decide +kernel
theorem dM_fused_176 : decode cM_fused 176 = .ok (.getfield 117, 3) := by decide +kernel
theorem dM_fused_179 : decode cM_fused 179 = .ok (.aload_n 0, 1) := by decide +kernel
theorem dM_fused_180 : decode cM_fused 180 = .ok (.getfield 120, 3) := by decide +kernel
theorem dM_fused_183 : decode cM_fused 183 = .ok (.invokevirtual 102, 3) := by decide +kernel
theorem dM_fused_186 : decode cM_fused 186 = .ok (.aload_n 0, 1) := by decide +kernel
theorem dM_fused_187 : decode cM_fused 187 = .ok (.getfield 117, 3) := by decide +kernel
theorem dM_fused_190 : decode cM_fused 190 = .ok (.lload 5, 2) := by decide +kernel
theorem dM_fused_192 : decode cM_fused 192 = .ok (.invokevirtual 71, 3) := by decide +kernel
theorem dM_fused_195 : decode cM_fused 195 = .ok (.aload_n 0, 1) := by decide +kernel
theorem dM_fused_196 : decode cM_fused 196 = .ok (.getfield 126, 3) := by decide +kernel
theorem dM_fused_199 : decode cM_fused 199 = .ok (.aload_n 0, 1) := by decide +kernel
theorem dM_fused_200 : decode cM_fused 200 = .ok (.getfield 123, 3) := by decide +kernel
theorem dM_fused_203 : decode cM_fused 203 = .ok (.aload_n 0, 1) := by decide +kernel
theorem dM_fused_204 : decode cM_fused 204 = .ok (.getfield 117, 3) := by decide +kernel
theorem dM_fused_207 : decode cM_fused 207 = .ok (.invokevirtual 144, 3) := by decide +kernel
theorem dM_fused_210 : decode cM_fused 210 = .ok (.aload_n 0, 1) := by decide +kernel
theorem dM_fused_211 : decode cM_fused 211 = .ok (.aload_n 0, 1) := by decide +kernel
theorem dM_fused_212 : decode cM_fused 212 = .ok (.getfield 126, 3) := by decide +kernel
theorem dM_fused_215 : decode cM_fused 215 = .ok (.iload 7, 2) := by decide +kernel
theorem dM_fused_217 : decode cM_fused 217 = .ok (.invokevirtual 147, 3) := by decide +kernel
theorem dM_fused_220 : decode cM_fused 220 = .ok (.lreturn, 1) := by decide +kernel
theorem dM_powerOf_0 : decode cM_powerOf 0 = .ok (.aload_n 1, 1) := by decide +kernel
theorem dM_powerOf_1 : decode cM_powerOf 1 = .ok (.lconst 1, 1) := by decide +kernel
theorem dM_powerOf_2 : decode cM_powerOf 2 = .ok (.invokevirtual 164, 3) := by decide +kernel
theorem dM_powerOf_5 : decode cM_powerOf 5 = .ok (.aload_n 0, 1) := by decide +kernel
theorem dM_powerOf_6 : decode cM_powerOf 6 = .ok (.getfield 120, 3) := by decide +kernel
theorem dM_powerOf_9 : decode cM_powerOf 9 = .ok (.lload_n 2, 1) := by decide +kernel
theorem dM_powerOf_10 : decode cM_powerOf 10 = .ok (.invokevirtual 71, 3) := by decide +kernel
theorem dM_powerOf_13 : decode cM_powerOf 13 = .ok (.iconst 0, 1) := by decide +kernel
theorem dM_powerOf_14 : decode cM_powerOf 14 = .ok (.istore 5, 2) := by decide +kernel
theorem dM_powerOf_16 : decode cM_powerOf 16 = .ok (.iload 5, 2) := by decide +kernel
theorem dM_powerOf_18 : decode cM_powerOf 18 = .ok (.iload 4, 2) := by decide +kernel
theorem dM_powerOf_20 : decode cM_powerOf 20 = .ok (.if_icmp .ge 29, 3) := by decide +kernel
theorem dM_powerOf_23 : decode cM_powerOf 23 = .ok (.aload_n 0, 1) := by decide +kernel
theorem dM_powerOf_24 : decode cM_powerOf 24 = .ok (.getfield 126, 3) := by decide +kernel
theorem dM_powerOf_27 : decode cM_powerOf 27 = .ok (.aload_n 1, 1) := by decide +kernel
theorem dM_powerOf_28 : decode cM_powerOf 28 = .ok (.aload_n 0, 1) := by decide +kernel
theorem dM_powerOf_29 : decode cM_powerOf 29 = .ok (.getfield 120, 3) := by decide +kernel
theorem dM_powerOf_32 : decode cM_powerOf 32 = .ok (.invokevirtual 102, 3) := by decide +kernel
theorem dM_powerOf_35 : decode cM_powerOf 35 = .ok (.aload_n 1, 1) := by decide +kernel
theorem dM_powerOf_36 : decode cM_powerOf 36 = .ok (.aload_n 0, 1) := by decide +kernel
theorem dM_powerOf_37 : decode cM_powerOf 37 = .ok (.getfield 126, 3) := by decide +kernel
theorem dM_powerOf_40 : decode cM_powerOf 40 = .ok (.invokevirtual 85, 3) := by decide +kernel
theorem dM_powerOf_43 : decode cM_powerOf 43 = .ok (.iinc 5 1, 3) := by decide +kernel
theorem dM_powerOf_46 : decode cM_powerOf 46 = .ok (.goto (-30), 3) := by decide +kernel
theorem dM_powerOf_49 : decode cM_powerOf 49 = .ok (.return_, 1) := by decide +kernel
theorem dM_power_0 : decode cM_power 0 = .ok (.lload_n 1, 1) := by decide +kernel
theorem dM_power_1 : decode cM_power 1 = .ok (.invokestatic 136, 3) := by decide +kernel
theorem dM_power_4 : decode cM_power 4 = .ok (.ifCond .ne 26, 3) := by decide +kernel
theorem dM_power_7 : decode cM_power 7 = .ok (.iload_n 3, 1) := by decide +kernel
theorem dM_power_8 : decode cM_power 8 = .ok (.bipush (-40), 2) := by decide +kernel
theorem dM_power_10 : decode cM_power 10 = .ok (.if_icmp .lt 20, 3) := by decide +kernel
theorem dM_power_13 : decode cM_power 13 = .ok (.iload_n 3, 1) := by decide +kernel
theorem dM_power_14 : decode cM_power 14 = .ok (.bipush 40, 2) := by decide +kernel
theorem dM_power_16 : decode cM_power 16 = .ok (.if_icmp .gt 14, 3) := by decide +kernel
theorem dM_power_19 : decode cM_power 19 = .ok (.iload_n 3, 1) := by decide +kernel
theorem dM_power_20 : decode cM_power 20 = .ok (.ifCond .ge 14, 3) := by decide +kernel
theorem dM_power_23 : decode cM_power 23 = .ok (.lload_n 1, 1) := by decide +kernel
theorem dM_power_24 : decode cM_power 24 = .ok (.invokestatic 129, 3) := by decide +kernel
theorem dM_power_27 : decode cM_power 27 = .ok (.ifCond .eq 7, 3) := by decide +kernel
theorem dM_power_30 : decode cM_power 30 = .ok (.ldc2_w 139, 3) := by decide +kernel
theorem dM_power_33 : decode cM_power 33 = .ok (.lreturn, 1) := by decide +kernel
theorem dM_power_34 : decode cM_power 34 = .ok (.iload_n 3, 1) := by decide +kernel
theorem dM_power_35 : decode cM_power 35 = .ok (.ifCond .ne 7, 3) := by decide +kernel
theorem dM_power_38 : decode cM_power 38 = .ok (.ldc2_w 167, 3) := by decide +kernel
theorem dM_power_41 : decode cM_power 41 = .ok (.lreturn, 1) := by decide +kernel
theorem dM_power_42 : decode cM_power 42 = .ok (.lload_n 1, 1) := by decide +kernel
theorem dM_power_43 : decode cM_power 43 = .ok (.invokestatic 141, 3) := by decide +kernel
theorem dM_power_46 : decode cM_power 46 = .ok (.ifCond .eq 33, 3) := by decide +kernel
theorem dM_power_49 : decode cM_power 49 = .ok (.iload_n 3, 1) := by decide +kernel
theorem dM_power_50 : decode cM_power 50 = .ok (.ifCond .ge 7, 3) := by decide +kernel
theorem dM_power_53 : decode cM_power 53 = .ok (.lconst 0, 1) := by decide +kernel
theorem dM_power_54 : decode cM_power 54 = .ok (.goto 24, 3) := by decide +kernel
theorem dM_power_57 : decode cM_power 57 = .ok (.lload_n 1, 1) := by decide +kernel
theorem dM_power_58 : decode cM_power 58 = .ok (.lconst 0, 1) := by decide +kernel
theorem dM_power_59 : decode cM_power 59 = .ok (.lcmp, 1) := by decide +kernel
theorem dM_power_60 : decode cM_power 60 = .ok (.ifCond .ge 14, 3) := by decide +kernel
theorem dM_power_63 : decode cM_power 63 = .ok (.iload_n 3, 1) := by decide +kernel
theorem dM_power_64 : decode cM_power 64 = .ok (.iconst 2, 1) := by decide +kernel
theorem dM_power_65 : decode cM_power 65 = .ok (.irem, 1) := by decide +kernel
theorem dM_power_66 : decode cM_power 66 = .ok (.iconst 1, 1) := by decide +kernel
theorem dM_power_67 : decode cM_power 67 = .ok (.if_icmp .ne 7, 3) := by decide +kernel
theorem dM_power_70 : decode cM_power 70 = .ok (.iconst 1, 1) := by decide +kernel
theorem dM_power_71 : decode cM_power 71 = .ok (.goto 4, 3) := by decide +kernel
theorem dM_power_74 : decode cM_power 74 = .ok (.iconst 0, 1) := by decide +kernel
theorem dM_power_75 : decode cM_power 75 = .ok (.invokestatic 151, 3) := by decide +kernel
theorem dM_power_78 : decode cM_power 78 = .ok (.lreturn, 1) := by decide +kernel
theorem dM_power_79 : decode cM_power 79 = .ok (.aload_n 0, 1) := by decide +kernel
theorem dM_power_80 : decode cM_power 80 = .ok (.aload_n 0, 1) := by decide +kernel
theorem dM_power_81 : decode cM_power 81 = .ok (.getfield 123, 3) := by decide +kernel
theorem dM_power_84 : decode cM_power 84 = .ok (.lload_n 1, 1) := by decide +kernel
theorem dM_power_85 : decode cM_power 85 = .ok (.iload_n 3, 1) := by decide +kernel
theorem dM_power_86 : decode cM_power 86 = .ok (.ifCond .ge 8, 3) := by decide +kernel
theorem dM_power_89 : decode cM_power 89 = .ok (.iload_n 3, 1) := by decide +kernel
theorem dM_power_90 : decode cM_power 90 = .ok (.ineg, 1) := by decide +kernel
theorem dM_power_91 : decode cM_power 91 = .ok (.goto 4, 3) := by decide +kernel
theorem dM_power_94 : decode cM_power 94 = .ok (.iload_n 3, 1) := by decide +kernel
theorem dM_power_95 : decode cM_power 95 = .ok (.invokevirtual 169, 3) := by decide +kernel
theorem dM_power_98 : decode cM_power 98 = .ok (.iload_n 3, 1) := by decide +kernel
theorem dM_power_99 : decode cM_power 99 = .ok (.ifCond .le 14, 3) := by decide +kernel
theorem dM_power_102 : decode cM_power 102 = .ok (.aload_n 0, 1) := by decide +kernel
theorem dM_power_103 : decode cM_power 103 = .ok (.aload_n 0, 1) := by decide +kernel
theorem dM_power_104 : decode cM_power 104 = .ok (.getfield 123, 3) := by decide +kernel
theorem dM_power_107 : decode cM_power 107 = .ok (.iload 4, 2) := by decide +kernel
theorem dM_power_109 : decode cM_power 109 = .ok (.invokevirtual 147, 3) := by decide +kernel
theorem dM_power_112 : decode cM_power 112 = .ok (.lreturn, 1) := by decide +kernel
theorem dM_power_113 : decode cM_power 113 = .ok (.aload_n 0, 1) := by decide +kernel
theorem dM_power_114 : decode cM_power 114 = .ok (.getfield 117, 3) := by decide +kernel
theorem dM_power_117 : decode cM_power 117 = .ok (.lconst 1, 1) := by decide +kernel
theorem dM_power_118 : decode cM_power 118 = .ok (.invokevirtual 164, 3) := by decide +kernel
theorem dM_power_121 : decode cM_power 121 = .ok (.aload_n 0, 1) := by decide +kernel
theorem dM_power_122 : decode cM_power 122 = .ok (.getfield 126, 3) := by decide +kernel
theorem dM_power_125 : decode cM_power 125 = .ok (.aload_n 0, 1) := by decide +kernel
theorem dM_power_126 : decode cM_power 126 = .ok (.getfield 117, 3) := by decide +kernel
theorem dM_power_129 : decode cM_power 129 = .ok (.aload_n 0, 1) := by decide +kernel
theorem dM_power_130 : decode cM_power 130 = .ok (.getfield 123, 3) := by decide +kernel
theorem dM_power_133 : decode cM_power 133 = .ok (.invokevirtual 155, 3) := by decide +kernel
theorem dM_power_136 : decode cM_power 136 = .ok (.aload_n 0, 1) := by decide +kernel
theorem dM_power_137 : decode cM_power 137 = .ok (.aload_n 0, 1) := by decide +kernel
theorem dM_power_138 : decode cM_power 138 = .ok (.getfield 126, 3) := by decide +kernel
theorem dM_power_141 : decode cM_power 141 = .ok (.iload 4, 2) := by decide +kernel
theorem dM_power_143 : decode cM_power 143 = .ok (.invokevirtual 147, 3) := by decide +kernel
theorem dM_power_146 : decode cM_power 146 = .ok (.lreturn, 1) := by decide +kernel
theorem dM_nearest_0 : decode cM_nearest 0 = .ok (.aload_n 0, 1) := by decide +kernel
theorem dM_nearest_1 : decode cM_nearest 1 = .ok (.aload_n 1, 1) := by decide +kernel
theorem dM_nearest_2 : decode cM_nearest 2 = .ok (.invokevirtual 92, 3) := by decide +kernel
theorem dM_nearest_5 : decode cM_nearest 5 = .ok (.lstore_n 2, 1) := by decide +kernel
theorem dM_nearest_6 : decode cM_nearest 6 = .ok (.aload_n 0, 1) := by decide +kernel
theorem dM_nearest_7 : decode cM_nearest 7 = .ok (.aload_n 1, 1) := by decide +kernel
theorem dM_nearest_8 : decode cM_nearest 8 = .ok (.invokevirtual 133, 3) := by decide +kernel
theorem dM_nearest_11 : decode cM_nearest 11 = .ok (.lstore 4, 2) := by decide +kernel
theorem dM_nearest_13 : decode cM_nearest 13 = .ok (.lload_n 2, 1) := by decide +kernel
theorem dM_nearest_14 : decode cM_nearest 14 = .ok (.lload 4, 2) := by decide +kernel
theorem dM_nearest_16 : decode cM_nearest 16 = .ok (.lcmp, 1) := by decide +kernel
theorem dM_nearest_17 : decode cM_nearest 17 = .ok (.ifCond .ne 5, 3) := by decide +kernel
theorem dM_nearest_20 : decode cM_nearest 20 = .ok (.lload_n 2, 1) := by decide +kernel
theorem dM_nearest_21 : decode cM_nearest 21 = .ok (.lreturn, 1) := by decide +kernel
theorem dM_nearest_22 : decode cM_nearest 22 = .ok (.aload_n 0, 1) := by decide +kernel
theorem dM_nearest_23 : decode cM_nearest 23 = .ok (.getfield 117, 3) := by decide +kernel
theorem dM_nearest_26 : decode cM_nearest 26 = .ok (.lload_n 2, 1) := by decide +kernel
theorem dM_nearest_27 : decode cM_nearest 27 = .ok (.invokevirtual 71, 3) := by decide +kernel
theorem dM_nearest_30 : decode cM_nearest 30 = .ok (.aload_n 0, 1) := by decide +kernel
theorem dM_nearest_31 : decode cM_nearest 31 = .ok (.getfield 120, 3) := by decide +kernel
theorem dM_nearest_34 : decode cM_nearest 34 = .ok (.lload 4, 2) := by decide +kernel
theorem dM_nearest_36 : decode cM_nearest 36 = .ok (.invokevirtual 71, 3) := by decide +kernel
theorem dM_nearest_39 : decode cM_nearest 39 = .ok (.aload_n 0, 1) := by decide +kernel
theorem dM_nearest_40 : decode cM_nearest 40 = .ok (.getfield 126, 3) := by decide +kernel
theorem dM_nearest_43 : decode cM_nearest 43 = .ok (.aload_n 0, 1) := by decide +kernel
theorem dM_nearest_44 : decode cM_nearest 44 = .ok (.getfield 117, 3) := by decide +kernel
theorem dM_nearest_47 : decode cM_nearest 47 = .ok (.aload_n 0, 1) := by decide +kernel
theorem dM_nearest_48 : decode cM_nearest 48 = .ok (.getfield 120, 3) := by decide +kernel
theorem dM_nearest_51 : decode cM_nearest 51 = .ok (.invokevirtual 144, 3) := by decide +kernel
theorem dM_nearest_54 : decode cM_nearest 54 = .ok (.aload_n 0, 1) := by decide +kernel
theorem dM_nearest_55 : decode cM_nearest 55 = .ok (.getfield 126, 3) := by decide +kernel
theorem dM_nearest_58 : decode cM_nearest 58 = .ok (.dup, 1) := by decide +kernel
theorem dM_nearest_59 : decode cM_nearest 59 = .ok (.getfield 36, 3) := by decide +kernel
theorem dM_nearest_62 : decode cM_nearest 62 = .ok (.iconst 1, 1) := by decide +kernel
theorem dM_nearest_63 : decode cM_nearest 63 = .ok (.isub, 1) := by decide +kernel
theorem dM_nearest_64 : decode cM_nearest 64 = .ok (.putfield 36, 3) := by decide +kernel
theorem dM_nearest_67 : decode cM_nearest 67 = .ok (.aload_n 0, 1) := by decide +kernel
theorem dM_nearest_68 : decode cM_nearest 68 = .ok (.aload_n 1, 1) := by decide +kernel
theorem dM_nearest_69 : decode cM_nearest 69 = .ok (.aload_n 0, 1) := by decide +kernel
theorem dM_nearest_70 : decode cM_nearest 70 = .ok (.getfield 126, 3) := by decide +kernel
theorem dM_nearest_73 : decode cM_nearest 73 = .ok (.invokevirtual 75, 3) := by decide +kernel
theorem dM_nearest_76 : decode cM_nearest 76 = .ok (.istore 6, 2) := by decide +kernel
theorem dM_nearest_78 : decode cM_nearest 78 = .ok (.iload 6, 2) := by decide +kernel
theorem dM_nearest_80 : decode cM_nearest 80 = .ok (.ifCond .ge 7, 3) := by decide +kernel
theorem dM_nearest_83 : decode cM_nearest 83 = .ok (.lload_n 2, 1) := by decide +kernel
theorem dM_nearest_84 : decode cM_nearest 84 = .ok (.goto 27, 3) := by decide +kernel
theorem dM_nearest_87 : decode cM_nearest 87 = .ok (.iload 6, 2) := by decide +kernel
theorem dM_nearest_89 : decode cM_nearest 89 = .ok (.ifCond .le 8, 3) := by decide +kernel
theorem dM_nearest_92 : decode cM_nearest 92 = .ok (.lload 4, 2) := by decide +kernel
theorem dM_nearest_94 : decode cM_nearest 94 = .ok (.goto 17, 3) := by decide +kernel
theorem dM_nearest_97 : decode cM_nearest 97 = .ok (.lload_n 2, 1) := by decide +kernel
theorem dM_nearest_98 : decode cM_nearest 98 = .ok (.lconst 1, 1) := by decide +kernel
theorem dM_nearest_99 : decode cM_nearest 99 = .ok (.land, 1) := by decide +kernel
theorem dM_nearest_100 : decode cM_nearest 100 = .ok (.lconst 0, 1) := by decide +kernel
theorem dM_nearest_101 : decode cM_nearest 101 = .ok (.lcmp, 1) := by decide +kernel
theorem dM_nearest_102 : decode cM_nearest 102 = .ok (.ifCond .ne 7, 3) := by decide +kernel
theorem dM_nearest_105 : decode cM_nearest 105 = .ok (.lload_n 2, 1) := by decide +kernel
theorem dM_nearest_106 : decode cM_nearest 106 = .ok (.goto 5, 3) := by decide +kernel
theorem dM_nearest_109 : decode cM_nearest 109 = .ok (.lload 4, 2) := by decide +kernel
theorem dM_nearest_111 : decode cM_nearest 111 = .ok (.lreturn, 1) := by decide +kernel
theorem dM_half_0 : decode cM_half 0 = .ok (.lload_n 1, 1) := by decide +kernel
theorem dM_half_1 : decode cM_half 1 = .ok (.invokestatic 136, 3) := by decide +kernel
theorem dM_half_4 : decode cM_half 4 = .ok (.ifCond .ne 24, 3) := by decide +kernel
theorem dM_half_7 : decode cM_half 7 = .ok (.lload_n 3, 1) := by decide +kernel
theorem dM_half_8 : decode cM_half 8 = .ok (.invokestatic 136, 3) := by decide +kernel
theorem dM_half_11 : decode cM_half 11 = .ok (.ifCond .ne 17, 3) := by decide +kernel
theorem dM_half_14 : decode cM_half 14 = .ok (.lload_n 1, 1) := by decide +kernel
theorem dM_half_15 : decode cM_half 15 = .ok (.invokestatic 141, 3) := by decide +kernel
theorem dM_half_18 : decode cM_half 18 = .ok (.ifCond .ne 10, 3) := by decide +kernel
theorem dM_half_21 : decode cM_half 21 = .ok (.lload_n 3, 1) := by decide +kernel
theorem dM_half_22 : decode cM_half 22 = .ok (.invokestatic 141, 3) := by decide +kernel
theorem dM_half_25 : decode cM_half 25 = .ok (.ifCond .eq 7, 3) := by decide +kernel
theorem dM_half_28 : decode cM_half 28 = .ok (.ldc2_w 139, 3) := by decide +kernel
theorem dM_half_31 : decode cM_half 31 = .ok (.lreturn, 1) := by decide +kernel
theorem dM_half_32 : decode cM_half 32 = .ok (.aload_n 0, 1) := by decide +kernel
theorem dM_half_33 : decode cM_half 33 = .ok (.getfield 117, 3) := by decide +kernel
theorem dM_half_36 : decode cM_half 36 = .ok (.lload_n 1, 1) := by decide +kernel
theorem dM_half_37 : decode cM_half 37 = .ok (.invokevirtual 71, 3) := by decide +kernel
theorem dM_half_40 : decode cM_half 40 = .ok (.aload_n 0, 1) := by decide +kernel
theorem dM_half_41 : decode cM_half 41 = .ok (.getfield 120, 3) := by decide +kernel
theorem dM_half_44 : decode cM_half 44 = .ok (.lload_n 3, 1) := by decide +kernel
theorem dM_half_45 : decode cM_half 45 = .ok (.invokevirtual 71, 3) := by decide +kernel
theorem dM_half_48 : decode cM_half 48 = .ok (.aload_n 0, 1) := by decide +kernel
theorem dM_half_49 : decode cM_half 49 = .ok (.getfield 123, 3) := by decide +kernel
theorem dM_half_52 : decode cM_half 52 = .ok (.aload_n 0, 1) := by decide +kernel
theorem dM_half_53 : decode cM_half 53 = .ok (.getfield 117, 3) := by decide +kernel
theorem dM_half_56 : decode cM_half 56 = .ok (.aload_n 0, 1) := by decide +kernel
theorem dM_half_57 : decode cM_half 57 = .ok (.getfield 120, 3) := by decide +kernel
theorem dM_half_60 : decode cM_half 60 = .ok (.invokevirtual 144, 3) := by decide +kernel
theorem dM_half_63 : decode cM_half 63 = .ok (.aload_n 0, 1) := by decide +kernel
theorem dM_half_64 : decode cM_half 64 = .ok (.getfield 123, 3) := by decide +kernel
theorem dM_half_67 : decode cM_half 67 = .ok (.dup, 1) := by decide +kernel
theorem dM_half_68 : decode cM_half 68 = .ok (.getfield 36, 3) := by decide +kernel
theorem dM_half_71 : decode cM_half 71 = .ok (.iconst 1, 1) := by decide +kernel
theorem dM_half_72 : decode cM_half 72 = .ok (.isub, 1) := by decide +kernel
theorem dM_half_73 : decode cM_half 73 = .ok (.putfield 36, 3) := by decide +kernel
theorem dM_half_76 : decode cM_half 76 = .ok (.aload_n 0, 1) := by decide +kernel
theorem dM_half_77 : decode cM_half 77 = .ok (.aload_n 0, 1) := by decide +kernel
theorem dM_half_78 : decode cM_half 78 = .ok (.getfield 123, 3) := by decide +kernel
theorem dM_half_81 : decode cM_half 81 = .ok (.invokevirtual 173, 3) := by decide +kernel
theorem dM_half_84 : decode cM_half 84 = .ok (.invokestatic 158, 3) := by decide +kernel
theorem dM_half_87 : decode cM_half 87 = .ok (.lreturn, 1) := by decide +kernel
theorem dM_isWhole_0 : decode cM_isWhole 0 = .ok (.lload_n 0, 1) := by decide +kernel
theorem dM_isWhole_1 : decode cM_isWhole 1 = .ok (.bipush 52, 2) := by decide +kernel
theorem dM_isWhole_3 : decode cM_isWhole 3 = .ok (.lushr, 1) := by decide +kernel
theorem dM_isWhole_4 : decode cM_isWhole 4 = .ok (.ldc2_w 176, 3) := by decide +kernel
theorem dM_isWhole_7 : decode cM_isWhole 7 = .ok (.land, 1) := by decide +kernel
theorem dM_isWhole_8 : decode cM_isWhole 8 = .ok (.lstore_n 2, 1) := by decide +kernel
theorem dM_isWhole_9 : decode cM_isWhole 9 = .ok (.lload_n 0, 1) := by decide +kernel
theorem dM_isWhole_10 : decode cM_isWhole 10 = .ok (.ldc2_w 178, 3) := by decide +kernel
theorem dM_isWhole_13 : decode cM_isWhole 13 = .ok (.land, 1) := by decide +kernel
theorem dM_isWhole_14 : decode cM_isWhole 14 = .ok (.lload_n 2, 1) := by decide +kernel
theorem dM_isWhole_15 : decode cM_isWhole 15 = .ok (.lconst 0, 1) := by decide +kernel
theorem dM_isWhole_16 : decode cM_isWhole 16 = .ok (.lcmp, 1) := by decide +kernel
theorem dM_isWhole_17 : decode cM_isWhole 17 = .ok (.ifCond .ne 7, 3) := by decide +kernel
theorem dM_isWhole_20 : decode cM_isWhole 20 = .ok (.lconst 0, 1) := by decide +kernel
theorem dM_isWhole_21 : decode cM_isWhole 21 = .ok (.goto 6, 3) := by decide +kernel
theorem dM_isWhole_24 : decode cM_isWhole 24 = .ok (.ldc2_w 180, 3) := by decide +kernel
theorem dM_isWhole_27 : decode cM_isWhole 27 = .ok (.lor, 1) := by decide +kernel
theorem dM_isWhole_28 : decode cM_isWhole 28 = .ok (.lstore 4, 2) := by decide +kernel
theorem dM_isWhole_30 : decode cM_isWhole 30 = .ok (.lload_n 2, 1) := by decide +kernel
theorem dM_isWhole_31 : decode cM_isWhole 31 = .ok (.lconst 0, 1) := by decide +kernel
theorem dM_isWhole_32 : decode cM_isWhole 32 = .ok (.lcmp, 1) := by decide +kernel
theorem dM_isWhole_33 : decode cM_isWhole 33 = .ok (.ifCond .ne 9, 3) := by decide +kernel
theorem dM_isWhole_36 : decode cM_isWhole 36 = .ok (.ldc2_w 182, 3) := by decide +kernel
theorem dM_isWhole_39 : decode cM_isWhole 39 = .ok (.goto 8, 3) := by decide +kernel
theorem dM_isWhole_42 : decode cM_isWhole 42 = .ok (.ldc2_w 184, 3) := by decide +kernel
theorem dM_isWhole_45 : decode cM_isWhole 45 = .ok (.lload_n 2, 1) := by decide +kernel
theorem dM_isWhole_46 : decode cM_isWhole 46 = .ok (.lsub, 1) := by decide +kernel
theorem dM_isWhole_47 : decode cM_isWhole 47 = .ok (.l2i, 1) := by decide +kernel
theorem dM_isWhole_48 : decode cM_isWhole 48 = .ok (.istore 6, 2) := by decide +kernel
theorem dM_isWhole_50 : decode cM_isWhole 50 = .ok (.lload 4, 2) := by decide +kernel
theorem dM_isWhole_52 : decode cM_isWhole 52 = .ok (.lconst 0, 1) := by decide +kernel
theorem dM_isWhole_53 : decode cM_isWhole 53 = .ok (.lcmp, 1) := by decide +kernel
theorem dM_isWhole_54 : decode cM_isWhole 54 = .ok (.ifCond .eq 29, 3) := by decide +kernel
theorem dM_isWhole_57 : decode cM_isWhole 57 = .ok (.iload 6, 2) := by decide +kernel
theorem dM_isWhole_59 : decode cM_isWhole 59 = .ok (.ifCond .le 24, 3) := by decide +kernel
theorem dM_isWhole_62 : decode cM_isWhole 62 = .ok (.iload 6, 2) := by decide +kernel
theorem dM_isWhole_64 : decode cM_isWhole 64 = .ok (.bipush 53, 2) := by decide +kernel
theorem dM_isWhole_66 : decode cM_isWhole 66 = .ok (.if_icmp .ge 21, 3) := by decide +kernel
theorem dM_isWhole_69 : decode cM_isWhole 69 = .ok (.lload 4, 2) := by decide +kernel
theorem dM_isWhole_71 : decode cM_isWhole 71 = .ok (.lconst 1, 1) := by decide +kernel
theorem dM_isWhole_72 : decode cM_isWhole 72 = .ok (.iload 6, 2) := by decide +kernel
theorem dM_isWhole_74 : decode cM_isWhole 74 = .ok (.lshl, 1) := by decide +kernel
theorem dM_isWhole_75 : decode cM_isWhole 75 = .ok (.lconst 1, 1) := by decide +kernel
theorem dM_isWhole_76 : decode cM_isWhole 76 = .ok (.lsub, 1) := by decide +kernel
theorem dM_isWhole_77 : decode cM_isWhole 77 = .ok (.land, 1) := by decide +kernel
theorem dM_isWhole_78 : decode cM_isWhole 78 = .ok (.lconst 0, 1) := by decide +kernel
theorem dM_isWhole_79 : decode cM_isWhole 79 = .ok (.lcmp, 1) := by decide +kernel
theorem dM_isWhole_80 : decode cM_isWhole 80 = .ok (.ifCond .ne 7, 3) := by decide +kernel
theorem dM_isWhole_83 : decode cM_isWhole 83 = .ok (.iconst 1, 1) := by decide +kernel
theorem dM_isWhole_84 : decode cM_isWhole 84 = .ok (.goto 4, 3) := by decide +kernel
theorem dM_isWhole_87 : decode cM_isWhole 87 = .ok (.iconst 0, 1) := by decide +kernel
theorem dM_isWhole_88 : decode cM_isWhole 88 = .ok (.ireturn, 1) := by decide +kernel
theorem dM_ofWhole_0 : decode cM_ofWhole 0 = .ok (.lload_n 0, 1) := by decide +kernel
theorem dM_ofWhole_1 : decode cM_ofWhole 1 = .ok (.lconst 0, 1) := by decide +kernel
theorem dM_ofWhole_2 : decode cM_ofWhole 2 = .ok (.lcmp, 1) := by decide +kernel
theorem dM_ofWhole_3 : decode cM_ofWhole 3 = .ok (.ifCond .ge 8, 3) := by decide +kernel
theorem dM_ofWhole_6 : decode cM_ofWhole 6 = .ok (.lload_n 0, 1) := by decide +kernel
theorem dM_ofWhole_7 : decode cM_ofWhole 7 = .ok (.lneg, 1) := by decide +kernel
theorem dM_ofWhole_8 : decode cM_ofWhole 8 = .ok (.goto 4, 3) := by decide +kernel
theorem dM_ofWhole_11 : decode cM_ofWhole 11 = .ok (.lload_n 0, 1) := by decide +kernel
theorem dM_ofWhole_12 : decode cM_ofWhole 12 = .ok (.lstore_n 2, 1) := by decide +kernel
theorem dM_ofWhole_13 : decode cM_ofWhole 13 = .ok (.lload_n 2, 1) := by decide +kernel
theorem dM_ofWhole_14 : decode cM_ofWhole 14 = .ok (.lconst 0, 1) := by decide +kernel
theorem dM_ofWhole_15 : decode cM_ofWhole 15 = .ok (.lcmp, 1) := by decide +kernel
theorem dM_ofWhole_16 : decode cM_ofWhole 16 = .ok (.ifCond .ne 5, 3) := by decide +kernel
theorem dM_ofWhole_19 : decode cM_ofWhole 19 = .ok (.lconst 0, 1) := by decide +kernel
theorem dM_ofWhole_20 : decode cM_ofWhole 20 = .ok (.lreturn, 1) := by decide +kernel
theorem dM_ofWhole_21 : decode cM_ofWhole 21 = .ok (.iconst 0, 1) := by decide +kernel
theorem dM_ofWhole_22 : decode cM_ofWhole 22 = .ok (.istore 4, 2) := by decide +kernel
theorem dM_ofWhole_24 : decode cM_ofWhole 24 = .ok (.lload_n 2, 1) := by decide +kernel
theorem dM_ofWhole_25 : decode cM_ofWhole 25 = .ok (.bipush 52, 2) := by decide +kernel
theorem dM_ofWhole_27 : decode cM_ofWhole 27 = .ok (.lushr, 1) := by decide +kernel
theorem dM_ofWhole_28 : decode cM_ofWhole 28 = .ok (.lconst 0, 1) := by decide +kernel
theorem dM_ofWhole_29 : decode cM_ofWhole 29 = .ok (.lcmp, 1) := by decide +kernel
theorem dM_ofWhole_30 : decode cM_ofWhole 30 = .ok (.ifCond .ne 13, 3) := by decide +kernel
theorem dM_ofWhole_33 : decode cM_ofWhole 33 = .ok (.lload_n 2, 1) := by decide +kernel
theorem dM_ofWhole_34 : decode cM_ofWhole 34 = .ok (.iconst 1, 1) := by decide +kernel
theorem dM_ofWhole_35 : decode cM_ofWhole 35 = .ok (.lshl, 1) := by decide +kernel
theorem dM_ofWhole_36 : decode cM_ofWhole 36 = .ok (.lstore_n 2, 1) := by decide +kernel
theorem dM_ofWhole_37 : decode cM_ofWhole 37 = .ok (.iinc 4 1, 3) := by decide +kernel
theorem dM_ofWhole_40 : decode cM_ofWhole 40 = .ok (.goto (-16), 3) := by decide +kernel
theorem dM_ofWhole_43 : decode cM_ofWhole 43 = .ok (.lload_n 2, 1) := by decide +kernel
theorem dM_ofWhole_44 : decode cM_ofWhole 44 = .ok (.bipush 53, 2) := by decide +kernel
theorem dM_ofWhole_46 : decode cM_ofWhole 46 = .ok (.lushr, 1) := by decide +kernel
theorem dM_ofWhole_47 : decode cM_ofWhole 47 = .ok (.lconst 0, 1) := by decide +kernel
theorem dM_ofWhole_48 : decode cM_ofWhole 48 = .ok (.lcmp, 1) := by decide +kernel
theorem dM_ofWhole_49 : decode cM_ofWhole 49 = .ok (.ifCond .eq 10, 3) := by decide +kernel
theorem dM_ofWhole_52 : decode cM_ofWhole 52 = .ok (.lload_n 2, 1) := by decide +kernel
theorem dM_ofWhole_53 : decode cM_ofWhole 53 = .ok (.iconst 1, 1) := by decide +kernel
theorem dM_ofWhole_54 : decode cM_ofWhole 54 = .ok (.lushr, 1) := by decide +kernel
theorem dM_ofWhole_55 : decode cM_ofWhole 55 = .ok (.lstore_n 2, 1) := by decide +kernel
theorem dM_ofWhole_56 : decode cM_ofWhole 56 = .ok (.iinc 4 (-1), 3) := by decide +kernel
theorem dM_ofWhole_59 : decode cM_ofWhole 59 = .ok (.ldc2_w 184, 3) := by decide +kernel
theorem dM_ofWhole_62 : decode cM_ofWhole 62 = .ok (.iload 4, 2) := by decide +kernel
theorem dM_ofWhole_64 : decode cM_ofWhole 64 = .ok (.i2l, 1) := by decide +kernel
theorem dM_ofWhole_65 : decode cM_ofWhole 65 = .ok (.lsub, 1) := by decide +kernel
theorem dM_ofWhole_66 : decode cM_ofWhole 66 = .ok (.bipush 52, 2) := by decide +kernel
theorem dM_ofWhole_68 : decode cM_ofWhole 68 = .ok (.lshl, 1) := by decide +kernel
theorem dM_ofWhole_69 : decode cM_ofWhole 69 = .ok (.lload_n 2, 1) := by decide +kernel
theorem dM_ofWhole_70 : decode cM_ofWhole 70 = .ok (.ldc2_w 178, 3) := by decide +kernel
theorem dM_ofWhole_73 : decode cM_ofWhole 73 = .ok (.land, 1) := by decide +kernel
theorem dM_ofWhole_74 : decode cM_ofWhole 74 = .ok (.ladd, 1) := by decide +kernel
theorem dM_ofWhole_75 : decode cM_ofWhole 75 = .ok (.lload_n 0, 1) := by decide +kernel
theorem dM_ofWhole_76 : decode cM_ofWhole 76 = .ok (.lconst 0, 1) := by decide +kernel
theorem dM_ofWhole_77 : decode cM_ofWhole 77 = .ok (.lcmp, 1) := by decide +kernel
theorem dM_ofWhole_78 : decode cM_ofWhole 78 = .ok (.ifCond .ge 9, 3) := by decide +kernel
theorem dM_ofWhole_81 : decode cM_ofWhole 81 = .ok (.ldc2_w 57, 3) := by decide +kernel
theorem dM_ofWhole_84 : decode cM_ofWhole 84 = .ok (.goto 4, 3) := by decide +kernel
theorem dM_ofWhole_87 : decode cM_ofWhole 87 = .ok (.lconst 0, 1) := by decide +kernel
theorem dM_ofWhole_88 : decode cM_ofWhole 88 = .ok (.lor, 1) := by decide +kernel
theorem dM_ofWhole_89 : decode cM_ofWhole 89 = .ok (.lreturn, 1) := by decide +kernel
theorem dM_wholeOf_0 : decode cM_wholeOf 0 = .ok (.lload_n 0, 1) := by decide +kernel
theorem dM_wholeOf_1 : decode cM_wholeOf 1 = .ok (.invokestatic 141, 3) := by decide +kernel
theorem dM_wholeOf_4 : decode cM_wholeOf 4 = .ok (.ifCond .ne 10, 3) := by decide +kernel
theorem dM_wholeOf_7 : decode cM_wholeOf 7 = .ok (.lload_n 0, 1) := by decide +kernel
theorem dM_wholeOf_8 : decode cM_wholeOf 8 = .ok (.invokestatic 186, 3) := by decide +kernel
theorem dM_wholeOf_11 : decode cM_wholeOf 11 = .ok (.ifCond .eq 8, 3) := by decide +kernel
theorem dM_wholeOf_14 : decode cM_wholeOf 14 = .ok (.lload_n 0, 1) := by decide +kernel
theorem dM_wholeOf_15 : decode cM_wholeOf 15 = .ok (.invokestatic 158, 3) := by decide +kernel
theorem dM_wholeOf_18 : decode cM_wholeOf 18 = .ok (.lreturn, 1) := by decide +kernel
theorem dM_wholeOf_19 : decode cM_wholeOf 19 = .ok (.lload_n 0, 1) := by decide +kernel
theorem dM_wholeOf_20 : decode cM_wholeOf 20 = .ok (.bipush 52, 2) := by decide +kernel
theorem dM_wholeOf_22 : decode cM_wholeOf 22 = .ok (.lushr, 1) := by decide +kernel
theorem dM_wholeOf_23 : decode cM_wholeOf 23 = .ok (.ldc2_w 176, 3) := by decide +kernel
theorem dM_wholeOf_26 : decode cM_wholeOf 26 = .ok (.land, 1) := by decide +kernel
theorem dM_wholeOf_27 : decode cM_wholeOf 27 = .ok (.lstore_n 3, 1) := by decide +kernel
theorem dM_wholeOf_28 : decode cM_wholeOf 28 = .ok (.lload_n 0, 1) := by decide +kernel
theorem dM_wholeOf_29 : decode cM_wholeOf 29 = .ok (.ldc2_w 178, 3) := by decide +kernel
theorem dM_wholeOf_32 : decode cM_wholeOf 32 = .ok (.land, 1) := by decide +kernel
theorem dM_wholeOf_33 : decode cM_wholeOf 33 = .ok (.ldc2_w 180, 3) := by decide +kernel
theorem dM_wholeOf_36 : decode cM_wholeOf 36 = .ok (.lor, 1) := by decide +kernel
theorem dM_wholeOf_37 : decode cM_wholeOf 37 = .ok (.lstore 5, 2) := by decide +kernel
theorem dM_wholeOf_39 : decode cM_wholeOf 39 = .ok (.ldc2_w 184, 3) := by decide +kernel
theorem dM_wholeOf_42 : decode cM_wholeOf 42 = .ok (.lload_n 3, 1) := by decide +kernel
theorem dM_wholeOf_43 : decode cM_wholeOf 43 = .ok (.lsub, 1) := by decide +kernel
theorem dM_wholeOf_44 : decode cM_wholeOf 44 = .ok (.l2i, 1) := by decide +kernel
theorem dM_wholeOf_45 : decode cM_wholeOf 45 = .ok (.istore 7, 2) := by decide +kernel
theorem dM_wholeOf_47 : decode cM_wholeOf 47 = .ok (.lload_n 0, 1) := by decide +kernel
theorem dM_wholeOf_48 : decode cM_wholeOf 48 = .ok (.lconst 0, 1) := by decide +kernel
theorem dM_wholeOf_49 : decode cM_wholeOf 49 = .ok (.lcmp, 1) := by decide +kernel
theorem dM_wholeOf_50 : decode cM_wholeOf 50 = .ok (.ifCond .ge 7, 3) := by decide +kernel
theorem dM_wholeOf_53 : decode cM_wholeOf 53 = .ok (.iconst 1, 1) := by decide +kernel
theorem dM_wholeOf_54 : decode cM_wholeOf 54 = .ok (.goto 4, 3) := by decide +kernel
theorem dM_wholeOf_57 : decode cM_wholeOf 57 = .ok (.iconst 0, 1) := by decide +kernel
theorem dM_wholeOf_58 : decode cM_wholeOf 58 = .ok (.istore 8, 2) := by decide +kernel
theorem dM_wholeOf_60 : decode cM_wholeOf 60 = .ok (.lload_n 3, 1) := by decide +kernel
theorem dM_wholeOf_61 : decode cM_wholeOf 61 = .ok (.lconst 0, 1) := by decide +kernel
theorem dM_wholeOf_62 : decode cM_wholeOf 62 = .ok (.lcmp, 1) := by decide +kernel
theorem dM_wholeOf_63 : decode cM_wholeOf 63 = .ok (.ifCond .eq 10, 3) := by decide +kernel
theorem dM_wholeOf_66 : decode cM_wholeOf 66 = .ok (.iload 7, 2) := by decide +kernel
theorem dM_wholeOf_68 : decode cM_wholeOf 68 = .ok (.bipush 53, 2) := by decide +kernel
theorem dM_wholeOf_70 : decode cM_wholeOf 70 = .ok (.if_icmp .le 7, 3) := by decide +kernel
theorem dM_wholeOf_73 : decode cM_wholeOf 73 = .ok (.lconst 0, 1) := by decide +kernel
theorem dM_wholeOf_74 : decode cM_wholeOf 74 = .ok (.goto 8, 3) := by decide +kernel
theorem dM_wholeOf_77 : decode cM_wholeOf 77 = .ok (.lload 5, 2) := by decide +kernel
theorem dM_wholeOf_79 : decode cM_wholeOf 79 = .ok (.iload 7, 2) := by decide +kernel
theorem dM_wholeOf_81 : decode cM_wholeOf 81 = .ok (.lshr, 1) := by decide +kernel
theorem dM_wholeOf_82 : decode cM_wholeOf 82 = .ok (.lstore 9, 2) := by decide +kernel
theorem dM_wholeOf_84 : decode cM_wholeOf 84 = .ok (.iload_n 2, 1) := by decide +kernel
theorem dM_wholeOf_85 : decode cM_wholeOf 85 = .ok (.ifCond .ne 8, 3) := by decide +kernel
theorem dM_wholeOf_88 : decode cM_wholeOf 88 = .ok (.iload 8, 2) := by decide +kernel
theorem dM_wholeOf_90 : decode cM_wholeOf 90 = .ok (.goto 22, 3) := by decide +kernel
theorem dM_wholeOf_93 : decode cM_wholeOf 93 = .ok (.iload_n 2, 1) := by decide +kernel
theorem dM_wholeOf_94 : decode cM_wholeOf 94 = .ok (.iconst 1, 1) := by decide +kernel
theorem dM_wholeOf_95 : decode cM_wholeOf 95 = .ok (.if_icmp .ne 16, 3) := by decide +kernel
theorem dM_wholeOf_98 : decode cM_wholeOf 98 = .ok (.iload 8, 2) := by decide +kernel
theorem dM_wholeOf_100 : decode cM_wholeOf 100 = .ok (.ifCond .ne 7, 3) := by decide +kernel
theorem dM_wholeOf_103 : decode cM_wholeOf 103 = .ok (.iconst 1, 1) := by decide +kernel
theorem dM_wholeOf_104 : decode cM_wholeOf 104 = .ok (.goto 8, 3) := by decide +kernel
theorem dM_wholeOf_107 : decode cM_wholeOf 107 = .ok (.iconst 0, 1) := by decide +kernel
theorem dM_wholeOf_108 : decode cM_wholeOf 108 = .ok (.goto 4, 3) := by decide +kernel
theorem dM_wholeOf_111 : decode cM_wholeOf 111 = .ok (.iconst 0, 1) := by decide +kernel
theorem dM_wholeOf_112 : decode cM_wholeOf 112 = .ok (.istore 11, 2) := by decide +kernel
theorem dM_wholeOf_114 : decode cM_wholeOf 114 = .ok (.iload_n 2, 1) := by decide +kernel
theorem dM_wholeOf_115 : decode cM_wholeOf 115 = .ok (.iconst 3, 1) := by decide +kernel
theorem dM_wholeOf_116 : decode cM_wholeOf 116 = .ok (.if_icmp .ne 69, 3) := by decide +kernel
theorem dM_wholeOf_119 : decode cM_wholeOf 119 = .ok (.lload_n 3, 1) := by decide +kernel
theorem dM_wholeOf_120 : decode cM_wholeOf 120 = .ok (.lconst 0, 1) := by decide +kernel
theorem dM_wholeOf_121 : decode cM_wholeOf 121 = .ok (.lcmp, 1) := by decide +kernel
theorem dM_wholeOf_122 : decode cM_wholeOf 122 = .ok (.ifCond .le 63, 3) := by decide +kernel
theorem dM_wholeOf_125 : decode cM_wholeOf 125 = .ok (.iload 7, 2) := by decide +kernel
theorem dM_wholeOf_127 : decode cM_wholeOf 127 = .ok (.bipush 54, 2) := by decide +kernel
theorem dM_wholeOf_129 : decode cM_wholeOf 129 = .ok (.if_icmp .ge 56, 3) := by decide +kernel
theorem dM_wholeOf_132 : decode cM_wholeOf 132 = .ok (.lload 5, 2) := by decide +kernel
theorem dM_wholeOf_134 : decode cM_wholeOf 134 = .ok (.lconst 1, 1) := by decide +kernel
theorem dM_wholeOf_135 : decode cM_wholeOf 135 = .ok (.iload 7, 2) := by decide +kernel
theorem dM_wholeOf_137 : decode cM_wholeOf 137 = .ok (.lshl, 1) := by decide +kernel
theorem dM_wholeOf_138 : decode cM_wholeOf 138 = .ok (.lconst 1, 1) := by decide +kernel
theorem dM_wholeOf_139 : decode cM_wholeOf 139 = .ok (.lsub, 1) := by decide +kernel
theorem dM_wholeOf_140 : decode cM_wholeOf 140 = .ok (.land, 1) := by decide +kernel
theorem dM_wholeOf_141 : decode cM_wholeOf 141 = .ok (.lstore 12, 2) := by decide +kernel
theorem dM_wholeOf_143 : decode cM_wholeOf 143 = .ok (.lconst 1, 1) := by decide +kernel
theorem dM_wholeOf_144 : decode cM_wholeOf 144 = .ok (.iload 7, 2) := by decide +kernel
theorem dM_wholeOf_146 : decode cM_wholeOf 146 = .ok (.iconst 1, 1) := by decide +kernel
theorem dM_wholeOf_147 : decode cM_wholeOf 147 = .ok (.isub, 1) := by decide +kernel
theorem dM_wholeOf_148 : decode cM_wholeOf 148 = .ok (.lshl, 1) := by decide +kernel
theorem dM_wholeOf_149 : decode cM_wholeOf 149 = .ok (.lstore 14, 2) := by decide +kernel
theorem dM_wholeOf_151 : decode cM_wholeOf 151 = .ok (.lload 12, 2) := by decide +kernel
theorem dM_wholeOf_153 : decode cM_wholeOf 153 = .ok (.lload 14, 2) := by decide +kernel
theorem dM_wholeOf_155 : decode cM_wholeOf 155 = .ok (.lcmp, 1) := by decide +kernel
theorem dM_wholeOf_156 : decode cM_wholeOf 156 = .ok (.ifCond .gt 22, 3) := by decide +kernel
theorem dM_wholeOf_159 : decode cM_wholeOf 159 = .ok (.lload 12, 2) := by decide +kernel
theorem dM_wholeOf_161 : decode cM_wholeOf 161 = .ok (.lload 14, 2) := by decide +kernel
theorem dM_wholeOf_163 : decode cM_wholeOf 163 = .ok (.lcmp, 1) := by decide +kernel
theorem dM_wholeOf_164 : decode cM_wholeOf 164 = .ok (.ifCond .ne 18, 3) := by decide +kernel
theorem dM_wholeOf_167 : decode cM_wholeOf 167 = .ok (.lload 9, 2) := by decide +kernel
theorem dM_wholeOf_169 : decode cM_wholeOf 169 = .ok (.ldc2_w 80, 3) := by decide +kernel
theorem dM_wholeOf_172 : decode cM_wholeOf 172 = .ok (.lrem, 1) := by decide +kernel
theorem dM_wholeOf_173 : decode cM_wholeOf 173 = .ok (.lconst 1, 1) := by decide +kernel
theorem dM_wholeOf_174 : decode cM_wholeOf 174 = .ok (.lcmp, 1) := by decide +kernel
theorem dM_wholeOf_175 : decode cM_wholeOf 175 = .ok (.ifCond .ne 7, 3) := by decide +kernel
theorem dM_wholeOf_178 : decode cM_wholeOf 178 = .ok (.iconst 1, 1) := by decide +kernel
theorem dM_wholeOf_179 : decode cM_wholeOf 179 = .ok (.goto 4, 3) := by decide +kernel
theorem dM_wholeOf_182 : decode cM_wholeOf 182 = .ok (.iconst 0, 1) := by decide +kernel
theorem dM_wholeOf_183 : decode cM_wholeOf 183 = .ok (.istore 11, 2) := by decide +kernel
theorem dM_wholeOf_185 : decode cM_wholeOf 185 = .ok (.iload 11, 2) := by decide +kernel
theorem dM_wholeOf_187 : decode cM_wholeOf 187 = .ok (.ifCond .eq 10, 3) := by decide +kernel
theorem dM_wholeOf_190 : decode cM_wholeOf 190 = .ok (.lload 9, 2) := by decide +kernel
theorem dM_wholeOf_192 : decode cM_wholeOf 192 = .ok (.lconst 1, 1) := by decide +kernel
theorem dM_wholeOf_193 : decode cM_wholeOf 193 = .ok (.ladd, 1) := by decide +kernel
theorem dM_wholeOf_194 : decode cM_wholeOf 194 = .ok (.goto 5, 3) := by decide +kernel
theorem dM_wholeOf_197 : decode cM_wholeOf 197 = .ok (.lload 9, 2) := by decide +kernel
theorem dM_wholeOf_199 : decode cM_wholeOf 199 = .ok (.lstore 9, 2) := by decide +kernel
theorem dM_wholeOf_201 : decode cM_wholeOf 201 = .ok (.iload 8, 2) := by decide +kernel
theorem dM_wholeOf_203 : decode cM_wholeOf 203 = .ok (.ifCond .eq 9, 3) := by decide +kernel
theorem dM_wholeOf_206 : decode cM_wholeOf 206 = .ok (.lload 9, 2) := by decide +kernel
theorem dM_wholeOf_208 : decode cM_wholeOf 208 = .ok (.lneg, 1) := by decide +kernel
theorem dM_wholeOf_209 : decode cM_wholeOf 209 = .ok (.goto 5, 3) := by decide +kernel
theorem dM_wholeOf_212 : decode cM_wholeOf 212 = .ok (.lload 9, 2) := by decide +kernel
theorem dM_wholeOf_214 : decode cM_wholeOf 214 = .ok (.invokestatic 189, 3) := by decide +kernel
theorem dM_wholeOf_217 : decode cM_wholeOf 217 = .ok (.lreturn, 1) := by decide +kernel
theorem dM_whole_0 : decode cM_whole 0 = .ok (.lload_n 1, 1) := by decide +kernel
theorem dM_whole_1 : decode cM_whole 1 = .ok (.invokestatic 136, 3) := by decide +kernel
theorem dM_whole_4 : decode cM_whole 4 = .ok (.ifCond .ne 12, 3) := by decide +kernel
theorem dM_whole_7 : decode cM_whole 7 = .ok (.iload_n 3, 1) := by decide +kernel
theorem dM_whole_8 : decode cM_whole 8 = .ok (.ifCond .lt 8, 3) := by decide +kernel
theorem dM_whole_11 : decode cM_whole 11 = .ok (.iload_n 3, 1) := by decide +kernel
theorem dM_whole_12 : decode cM_whole 12 = .ok (.iconst 3, 1) := by decide +kernel
theorem dM_whole_13 : decode cM_whole 13 = .ok (.if_icmp .le 7, 3) := by decide +kernel
theorem dM_whole_16 : decode cM_whole 16 = .ok (.ldc2_w 139, 3) := by decide +kernel
theorem dM_whole_19 : decode cM_whole 19 = .ok (.lreturn, 1) := by decide +kernel
theorem dM_whole_20 : decode cM_whole 20 = .ok (.lload_n 1, 1) := by decide +kernel
theorem dM_whole_21 : decode cM_whole 21 = .ok (.invokestatic 158, 3) := by decide +kernel
theorem dM_whole_24 : decode cM_whole 24 = .ok (.iload_n 3, 1) := by decide +kernel
theorem dM_whole_25 : decode cM_whole 25 = .ok (.ifCond .ne 7, 3) := by decide +kernel
theorem dM_whole_28 : decode cM_whole 28 = .ok (.iconst 1, 1) := by decide +kernel
theorem dM_whole_29 : decode cM_whole 29 = .ok (.goto 13, 3) := by decide +kernel
theorem dM_whole_32 : decode cM_whole 32 = .ok (.iload_n 3, 1) := by decide +kernel
theorem dM_whole_33 : decode cM_whole 33 = .ok (.iconst 1, 1) := by decide +kernel
theorem dM_whole_34 : decode cM_whole 34 = .ok (.if_icmp .ne 7, 3) := by decide +kernel
theorem dM_whole_37 : decode cM_whole 37 = .ok (.iconst 0, 1) := by decide +kernel
theorem dM_whole_38 : decode cM_whole 38 = .ok (.goto 4, 3) := by decide +kernel
theorem dM_whole_41 : decode cM_whole 41 = .ok (.iload_n 3, 1) := by decide +kernel
theorem dM_whole_42 : decode cM_whole 42 = .ok (.invokestatic 192, 3) := by decide +kernel
theorem dM_whole_45 : decode cM_whole 45 = .ok (.lreturn, 1) := by decide +kernel
theorem dM_order_0 : decode cM_order 0 = .ok (.lload_n 1, 1) := by decide +kernel
theorem dM_order_1 : decode cM_order 1 = .ok (.invokestatic 136, 3) := by decide +kernel
theorem dM_order_4 : decode cM_order 4 = .ok (.ifCond .ne 10, 3) := by decide +kernel
theorem dM_order_7 : decode cM_order 7 = .ok (.lload_n 3, 1) := by decide +kernel
theorem dM_order_8 : decode cM_order 8 = .ok (.invokestatic 136, 3) := by decide +kernel
theorem dM_order_11 : decode cM_order 11 = .ok (.ifCond .eq 5, 3) := by decide +kernel
theorem dM_order_14 : decode cM_order 14 = .ok (.iconst 2, 1) := by decide +kernel
theorem dM_order_15 : decode cM_order 15 = .ok (.ireturn, 1) := by decide +kernel
theorem dM_order_16 : decode cM_order 16 = .ok (.lload_n 1, 1) := by decide +kernel
theorem dM_order_17 : decode cM_order 17 = .ok (.invokestatic 196, 3) := by decide +kernel
theorem dM_order_20 : decode cM_order 20 = .ok (.lstore 5, 2) := by decide +kernel
theorem dM_order_22 : decode cM_order 22 = .ok (.lload_n 3, 1) := by decide +kernel
theorem dM_order_23 : decode cM_order 23 = .ok (.invokestatic 196, 3) := by decide +kernel
theorem dM_order_26 : decode cM_order 26 = .ok (.lstore 7, 2) := by decide +kernel
theorem dM_order_28 : decode cM_order 28 = .ok (.lload 5, 2) := by decide +kernel
theorem dM_order_30 : decode cM_order 30 = .ok (.lload 7, 2) := by decide +kernel
theorem dM_order_32 : decode cM_order 32 = .ok (.lcmp, 1) := by decide +kernel
theorem dM_order_33 : decode cM_order 33 = .ok (.ifCond .ge 7, 3) := by decide +kernel
theorem dM_order_36 : decode cM_order 36 = .ok (.iconst (-1), 1) := by decide +kernel
theorem dM_order_37 : decode cM_order 37 = .ok (.goto 16, 3) := by decide +kernel
theorem dM_order_40 : decode cM_order 40 = .ok (.lload 5, 2) := by decide +kernel
theorem dM_order_42 : decode cM_order 42 = .ok (.lload 7, 2) := by decide +kernel
theorem dM_order_44 : decode cM_order 44 = .ok (.lcmp, 1) := by decide +kernel
theorem dM_order_45 : decode cM_order 45 = .ok (.ifCond .le 7, 3) := by decide +kernel
theorem dM_order_48 : decode cM_order 48 = .ok (.iconst 1, 1) := by decide +kernel
theorem dM_order_49 : decode cM_order 49 = .ok (.goto 4, 3) := by decide +kernel
theorem dM_order_52 : decode cM_order 52 = .ok (.iconst 0, 1) := by decide +kernel
theorem dM_order_53 : decode cM_order 53 = .ok (.ireturn, 1) := by decide +kernel
