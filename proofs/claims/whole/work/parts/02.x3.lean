theorem dX8_cause_76 : decode cX8_cause 76 = .ok (.aload_n 0, 1) := by decide +kernel
theorem dX8_cause_77 : decode cX8_cause 77 = .ok (.iconst 0, 1) := by decide +kernel
theorem dX8_cause_78 : decode cX8_cause 78 = .ok (.putfield 124, 3) := by decide +kernel
theorem dX8_cause_81 : decode cX8_cause 81 = .ok (.iconst 0, 1) := by decide +kernel
theorem dX8_cause_82 : decode cX8_cause 82 = .ok (.istore 5, 2) := by decide +kernel
theorem dX8_cause_84 : decode cX8_cause 84 = .ok (.iload 5, 2) := by decide +kernel
theorem dX8_cause_86 : decode cX8_cause 86 = .ok (.bipush 10, 2) := by decide +kernel
theorem dX8_cause_88 : decode cX8_cause 88 = .ok (.if_icmp .ge 36, 3) := by decide +kernel
theorem dX8_cause_91 : decode cX8_cause 91 = .ok (.aload_n 0, 1) := by decide +kernel
theorem dX8_cause_92 : decode cX8_cause 92 = .ok (.dup, 1) := by decide +kernel
theorem dX8_cause_93 : decode cX8_cause 93 = .ok (.getfield 124, 3) := by decide +kernel
theorem dX8_cause_96 : decode cX8_cause 96 = .ok (.aload_n 0, 1) := by decide +kernel
theorem dX8_cause_97 : decode cX8_cause 97 = .ok (.iload 5, 2) := by decide +kernel
theorem dX8_cause_99 : decode cX8_cause 99 = .ok (.iload_n 2, 1) := by decide +kernel
theorem dX8_cause_100 : decode cX8_cause 100 = .ok (.invokevirtual 105, 3) := by decide +kernel
theorem dX8_cause_103 : decode cX8_cause 103 = .ok (.ifCond .eq 10, 3) := by decide +kernel
theorem dX8_cause_106 : decode cX8_cause 106 = .ok (.iconst 1, 1) := by decide +kernel
theorem dX8_cause_107 : decode cX8_cause 107 = .ok (.iload 5, 2) := by decide +kernel
theorem dX8_cause_109 : decode cX8_cause 109 = .ok (.ishl, 1) := by decide +kernel
theorem dX8_cause_110 : decode cX8_cause 110 = .ok (.goto 4, 3) := by decide +kernel
theorem dX8_cause_113 : decode cX8_cause 113 = .ok (.iconst 0, 1) := by decide +kernel
theorem dX8_cause_114 : decode cX8_cause 114 = .ok (.ior, 1) := by decide +kernel
theorem dX8_cause_115 : decode cX8_cause 115 = .ok (.putfield 124, 3) := by decide +kernel
theorem dX8_cause_118 : decode cX8_cause 118 = .ok (.iinc 5 1, 3) := by decide +kernel
theorem dX8_cause_121 : decode cX8_cause 121 = .ok (.goto (-37), 3) := by decide +kernel
theorem dX8_cause_124 : decode cX8_cause 124 = .ok (.aload_n 0, 1) := by decide +kernel
theorem dX8_cause_125 : decode cX8_cause 125 = .ok (.getfield 124, 3) := by decide +kernel
theorem dX8_cause_128 : decode cX8_cause 128 = .ok (.ifCond .ne 5, 3) := by decide +kernel
theorem dX8_cause_131 : decode cX8_cause 131 = .ok (.iconst 1, 1) := by decide +kernel
theorem dX8_cause_132 : decode cX8_cause 132 = .ok (.ireturn, 1) := by decide +kernel
theorem dX8_cause_133 : decode cX8_cause 133 = .ok (.aload_n 0, 1) := by decide +kernel
theorem dX8_cause_134 : decode cX8_cause 134 = .ok (.iconst 1, 1) := by decide +kernel
theorem dX8_cause_135 : decode cX8_cause 135 = .ok (.iload_n 1, 1) := by decide +kernel
theorem dX8_cause_136 : decode cX8_cause 136 = .ok (.iload_n 2, 1) := by decide +kernel
theorem dX8_cause_137 : decode cX8_cause 137 = .ok (.invokevirtual 127, 3) := by decide +kernel
theorem dX8_cause_140 : decode cX8_cause 140 = .ok (.istore_n 3, 1) := by decide +kernel
theorem dX8_cause_141 : decode cX8_cause 141 = .ok (.iload_n 3, 1) := by decide +kernel
theorem dX8_cause_142 : decode cX8_cause 142 = .ok (.sipush (-10001), 3) := by decide +kernel
theorem dX8_cause_145 : decode cX8_cause 145 = .ok (.if_icmp .eq 5, 3) := by decide +kernel
theorem dX8_cause_148 : decode cX8_cause 148 = .ok (.iload_n 3, 1) := by decide +kernel
theorem dX8_cause_149 : decode cX8_cause 149 = .ok (.ireturn, 1) := by decide +kernel
theorem dX8_cause_150 : decode cX8_cause 150 = .ok (.aload_n 0, 1) := by decide +kernel
theorem dX8_cause_151 : decode cX8_cause 151 = .ok (.dup, 1) := by decide +kernel
theorem dX8_cause_152 : decode cX8_cause 152 = .ok (.getfield 124, 3) := by decide +kernel
theorem dX8_cause_155 : decode cX8_cause 155 = .ok (.iload 4, 2) := by decide +kernel
theorem dX8_cause_157 : decode cX8_cause 157 = .ok (.iand, 1) := by decide +kernel
theorem dX8_cause_158 : decode cX8_cause 158 = .ok (.putfield 124, 3) := by decide +kernel
theorem dX8_cause_161 : decode cX8_cause 161 = .ok (.aload_n 0, 1) := by decide +kernel
theorem dX8_cause_162 : decode cX8_cause 162 = .ok (.getfield 124, 3) := by decide +kernel
theorem dX8_cause_165 : decode cX8_cause 165 = .ok (.ifCond .ne 5, 3) := by decide +kernel
theorem dX8_cause_168 : decode cX8_cause 168 = .ok (.iconst 2, 1) := by decide +kernel
theorem dX8_cause_169 : decode cX8_cause 169 = .ok (.ireturn, 1) := by decide +kernel
theorem dX8_cause_170 : decode cX8_cause 170 = .ok (.aload_n 0, 1) := by decide +kernel
theorem dX8_cause_171 : decode cX8_cause 171 = .ok (.iconst 2, 1) := by decide +kernel
theorem dX8_cause_172 : decode cX8_cause 172 = .ok (.iload_n 1, 1) := by decide +kernel
theorem dX8_cause_173 : decode cX8_cause 173 = .ok (.iload_n 2, 1) := by decide +kernel
theorem dX8_cause_174 : decode cX8_cause 174 = .ok (.invokevirtual 127, 3) := by decide +kernel
theorem dX8_cause_177 : decode cX8_cause 177 = .ok (.istore_n 3, 1) := by decide +kernel
theorem dX8_cause_178 : decode cX8_cause 178 = .ok (.iload_n 3, 1) := by decide +kernel
theorem dX8_cause_179 : decode cX8_cause 179 = .ok (.sipush (-10001), 3) := by decide +kernel
theorem dX8_cause_182 : decode cX8_cause 182 = .ok (.if_icmp .ne 8, 3) := by decide +kernel
theorem dX8_cause_185 : decode cX8_cause 185 = .ok (.bipush 9, 2) := by decide +kernel
theorem dX8_cause_187 : decode cX8_cause 187 = .ok (.goto 4, 3) := by decide +kernel
theorem dX8_cause_190 : decode cX8_cause 190 = .ok (.iload_n 3, 1) := by decide +kernel
theorem dX8_cause_191 : decode cX8_cause 191 = .ok (.ireturn, 1) := by decide +kernel
theorem dX8_blame_0 : decode cX8_blame 0 = .ok (.iload_n 1, 1) := by decide +kernel
theorem dX8_blame_1 : decode cX8_blame 1 = .ok (.iload_n 2, 1) := by decide +kernel
theorem dX8_blame_2 : decode cX8_blame 2 = .ok (.invokestatic 41, 3) := by decide +kernel
theorem dX8_blame_5 : decode cX8_blame 5 = .ok (.ifCond .eq 12, 3) := by decide +kernel
theorem dX8_blame_8 : decode cX8_blame 8 = .ok (.aload_n 0, 1) := by decide +kernel
theorem dX8_blame_9 : decode cX8_blame 9 = .ok (.iload_n 1, 1) := by decide +kernel
theorem dX8_blame_10 : decode cX8_blame 10 = .ok (.iload_n 2, 1) := by decide +kernel
theorem dX8_blame_11 : decode cX8_blame 11 = .ok (.invokevirtual 130, 3) := by decide +kernel
theorem dX8_blame_14 : decode cX8_blame 14 = .ok (.goto 10, 3) := by decide +kernel
theorem dX8_blame_17 : decode cX8_blame 17 = .ok (.aload_n 0, 1) := by decide +kernel
theorem dX8_blame_18 : decode cX8_blame 18 = .ok (.sipush (-10002), 3) := by decide +kernel
theorem dX8_blame_21 : decode cX8_blame 21 = .ok (.invokevirtual 45, 3) := by decide +kernel
theorem dX8_blame_24 : decode cX8_blame 24 = .ok (.ireturn, 1) := by decide +kernel
theorem dX8_ones_0 : decode cX8_ones 0 = .ok (.iconst 0, 1) := by decide +kernel
theorem dX8_ones_1 : decode cX8_ones 1 = .ok (.istore_n 1, 1) := by decide +kernel
theorem dX8_ones_2 : decode cX8_ones 2 = .ok (.iconst 0, 1) := by decide +kernel
theorem dX8_ones_3 : decode cX8_ones 3 = .ok (.istore_n 2, 1) := by decide +kernel
theorem dX8_ones_4 : decode cX8_ones 4 = .ok (.iload_n 2, 1) := by decide +kernel
theorem dX8_ones_5 : decode cX8_ones 5 = .ok (.bipush 6, 2) := by decide +kernel
theorem dX8_ones_7 : decode cX8_ones 7 = .ok (.if_icmp .ge 17, 3) := by decide +kernel
theorem dX8_ones_10 : decode cX8_ones 10 = .ok (.iload_n 1, 1) := by decide +kernel
theorem dX8_ones_11 : decode cX8_ones 11 = .ok (.iload_n 0, 1) := by decide +kernel
theorem dX8_ones_12 : decode cX8_ones 12 = .ok (.iload_n 2, 1) := by decide +kernel
theorem dX8_ones_13 : decode cX8_ones 13 = .ok (.ishr, 1) := by decide +kernel
theorem dX8_ones_14 : decode cX8_ones 14 = .ok (.iconst 1, 1) := by decide +kernel
theorem dX8_ones_15 : decode cX8_ones 15 = .ok (.iand, 1) := by decide +kernel
theorem dX8_ones_16 : decode cX8_ones 16 = .ok (.iadd, 1) := by decide +kernel
theorem dX8_ones_17 : decode cX8_ones 17 = .ok (.istore_n 1, 1) := by decide +kernel
theorem dX8_ones_18 : decode cX8_ones 18 = .ok (.iinc 2 1, 3) := by decide +kernel
theorem dX8_ones_21 : decode cX8_ones 21 = .ok (.goto (-17), 3) := by decide +kernel
theorem dX8_ones_24 : decode cX8_ones 24 = .ok (.iload_n 1, 1) := by decide +kernel
theorem dX8_ones_25 : decode cX8_ones 25 = .ok (.ireturn, 1) := by decide +kernel
theorem dX8_removal_0 : decode cX8_removal 0 = .ok (.sipush (-10001), 3) := by decide +kernel
theorem dX8_removal_3 : decode cX8_removal 3 = .ok (.istore_n 3, 1) := by decide +kernel
theorem dX8_removal_4 : decode cX8_removal 4 = .ok (.iconst 1, 1) := by decide +kernel
theorem dX8_removal_5 : decode cX8_removal 5 = .ok (.aload_n 0, 1) := by decide +kernel
theorem dX8_removal_6 : decode cX8_removal 6 = .ok (.getfield 7, 3) := by decide +kernel
theorem dX8_removal_9 : decode cX8_removal 9 = .ok (.bipush 22, 2) := by decide +kernel
theorem dX8_removal_11 : decode cX8_removal 11 = .ok (.iaload, 1) := by decide +kernel
theorem dX8_removal_12 : decode cX8_removal 12 = .ok (.ishl, 1) := by decide +kernel
theorem dX8_removal_13 : decode cX8_removal 13 = .ok (.iconst 1, 1) := by decide +kernel
theorem dX8_removal_14 : decode cX8_removal 14 = .ok (.isub, 1) := by decide +kernel
theorem dX8_removal_15 : decode cX8_removal 15 = .ok (.istore 4, 2) := by decide +kernel
theorem dX8_removal_17 : decode cX8_removal 17 = .ok (.iload 4, 2) := by decide +kernel
theorem dX8_removal_19 : decode cX8_removal 19 = .ok (.ifCond .lt 58, 3) := by decide +kernel
theorem dX8_removal_22 : decode cX8_removal 22 = .ok (.iload_n 3, 1) := by decide +kernel
theorem dX8_removal_23 : decode cX8_removal 23 = .ok (.sipush (-10001), 3) := by decide +kernel
theorem dX8_removal_26 : decode cX8_removal 26 = .ok (.if_icmp .eq 15, 3) := by decide +kernel
theorem dX8_removal_29 : decode cX8_removal 29 = .ok (.iload 4, 2) := by decide +kernel
theorem dX8_removal_31 : decode cX8_removal 31 = .ok (.invokestatic 133, 3) := by decide +kernel
theorem dX8_removal_34 : decode cX8_removal 34 = .ok (.iload_n 3, 1) := by decide +kernel
theorem dX8_removal_35 : decode cX8_removal 35 = .ok (.invokestatic 133, 3) := by decide +kernel
theorem dX8_removal_38 : decode cX8_removal 38 = .ok (.if_icmp .gt 7, 3) := by decide +kernel
theorem dX8_removal_41 : decode cX8_removal 41 = .ok (.iconst 1, 1) := by decide +kernel
theorem dX8_removal_42 : decode cX8_removal 42 = .ok (.goto 4, 3) := by decide +kernel
theorem dX8_removal_45 : decode cX8_removal 45 = .ok (.iconst 0, 1) := by decide +kernel
theorem dX8_removal_46 : decode cX8_removal 46 = .ok (.istore 5, 2) := by decide +kernel
theorem dX8_removal_48 : decode cX8_removal 48 = .ok (.iload 5, 2) := by decide +kernel
theorem dX8_removal_50 : decode cX8_removal 50 = .ok (.ifCond .eq 19, 3) := by decide +kernel
theorem dX8_removal_53 : decode cX8_removal 53 = .ok (.aload_n 0, 1) := by decide +kernel
theorem dX8_removal_54 : decode cX8_removal 54 = .ok (.iload_n 1, 1) := by decide +kernel
theorem dX8_removal_55 : decode cX8_removal 55 = .ok (.iload_n 2, 1) := by decide +kernel
theorem dX8_removal_56 : decode cX8_removal 56 = .ok (.iload 4, 2) := by decide +kernel
theorem dX8_removal_58 : decode cX8_removal 58 = .ok (.invokevirtual 111, 3) := by decide +kernel
theorem dX8_removal_61 : decode cX8_removal 61 = .ok (.ifCond .le 8, 3) := by decide +kernel
theorem dX8_removal_64 : decode cX8_removal 64 = .ok (.iload 4, 2) := by decide +kernel
theorem dX8_removal_66 : decode cX8_removal 66 = .ok (.goto 4, 3) := by decide +kernel
theorem dX8_removal_69 : decode cX8_removal 69 = .ok (.iload_n 3, 1) := by decide +kernel
theorem dX8_removal_70 : decode cX8_removal 70 = .ok (.istore_n 3, 1) := by decide +kernel
theorem dX8_removal_71 : decode cX8_removal 71 = .ok (.iinc 4 (-1), 3) := by decide +kernel
theorem dX8_removal_74 : decode cX8_removal 74 = .ok (.goto (-57), 3) := by decide +kernel
theorem dX8_removal_77 : decode cX8_removal 77 = .ok (.iload_n 3, 1) := by decide +kernel
theorem dX8_removal_78 : decode cX8_removal 78 = .ok (.ireturn, 1) := by decide +kernel
theorem dX8_filtersToRemove_0 : decode cX8_filtersToRemove 0 = .ok (.iload_n 1, 1) := by decide +kernel
theorem dX8_filtersToRemove_1 : decode cX8_filtersToRemove 1 = .ok (.iload_n 2, 1) := by decide +kernel
theorem dX8_filtersToRemove_2 : decode cX8_filtersToRemove 2 = .ok (.invokestatic 41, 3) := by decide +kernel
theorem dX8_filtersToRemove_5 : decode cX8_filtersToRemove 5 = .ok (.ifCond .eq 12, 3) := by decide +kernel
theorem dX8_filtersToRemove_8 : decode cX8_filtersToRemove 8 = .ok (.aload_n 0, 1) := by decide +kernel
theorem dX8_filtersToRemove_9 : decode cX8_filtersToRemove 9 = .ok (.iload_n 1, 1) := by decide +kernel
theorem dX8_filtersToRemove_10 : decode cX8_filtersToRemove 10 = .ok (.iload_n 2, 1) := by decide +kernel
theorem dX8_filtersToRemove_11 : decode cX8_filtersToRemove 11 = .ok (.invokevirtual 136, 3) := by decide +kernel
theorem dX8_filtersToRemove_14 : decode cX8_filtersToRemove 14 = .ok (.goto 10, 3) := by decide +kernel
theorem dX8_filtersToRemove_17 : decode cX8_filtersToRemove 17 = .ok (.aload_n 0, 1) := by decide +kernel
theorem dX8_filtersToRemove_18 : decode cX8_filtersToRemove 18 = .ok (.sipush (-10002), 3) := by decide +kernel
theorem dX8_filtersToRemove_21 : decode cX8_filtersToRemove 21 = .ok (.invokevirtual 45, 3) := by decide +kernel
theorem dX8_filtersToRemove_24 : decode cX8_filtersToRemove 24 = .ok (.ireturn, 1) := by decide +kernel
theorem dX8_repairedConstant_0 : decode cX8_repairedConstant 0 = .ok (.iload_n 1, 1) := by decide +kernel
theorem dX8_repairedConstant_1 : decode cX8_repairedConstant 1 = .ok (.iload_n 2, 1) := by decide +kernel
theorem dX8_repairedConstant_2 : decode cX8_repairedConstant 2 = .ok (.invokestatic 41, 3) := by decide +kernel
theorem dX8_repairedConstant_5 : decode cX8_repairedConstant 5 = .ok (.ifCond .eq 11, 3) := by decide +kernel
theorem dX8_repairedConstant_8 : decode cX8_repairedConstant 8 = .ok (.aload_n 0, 1) := by decide +kernel
theorem dX8_repairedConstant_9 : decode cX8_repairedConstant 9 = .ok (.iload_n 3, 1) := by decide +kernel
theorem dX8_repairedConstant_10 : decode cX8_repairedConstant 10 = .ok (.invokevirtual 73, 3) := by decide +kernel
theorem dX8_repairedConstant_13 : decode cX8_repairedConstant 13 = .ok (.ifCond .ne 11, 3) := by decide +kernel
theorem dX8_repairedConstant_16 : decode cX8_repairedConstant 16 = .ok (.aload_n 0, 1) := by decide +kernel
theorem dX8_repairedConstant_17 : decode cX8_repairedConstant 17 = .ok (.sipush (-10002), 3) := by decide +kernel
theorem dX8_repairedConstant_20 : decode cX8_repairedConstant 20 = .ok (.invokevirtual 45, 3) := by decide +kernel
theorem dX8_repairedConstant_23 : decode cX8_repairedConstant 23 = .ok (.ireturn, 1) := by decide +kernel
theorem dX8_repairedConstant_24 : decode cX8_repairedConstant 24 = .ok (.bipush 23, 2) := by decide +kernel
theorem dX8_repairedConstant_26 : decode cX8_repairedConstant 26 = .ok (.iconst 4, 1) := by decide +kernel
theorem dX8_repairedConstant_27 : decode cX8_repairedConstant 27 = .ok (.iload_n 3, 1) := by decide +kernel
theorem dX8_repairedConstant_28 : decode cX8_repairedConstant 28 = .ok (.imul, 1) := by decide +kernel
theorem dX8_repairedConstant_29 : decode cX8_repairedConstant 29 = .ok (.iadd, 1) := by decide +kernel
theorem dX8_repairedConstant_30 : decode cX8_repairedConstant 30 = .ok (.iconst 3, 1) := by decide +kernel
theorem dX8_repairedConstant_31 : decode cX8_repairedConstant 31 = .ok (.iadd, 1) := by decide +kernel
theorem dX8_repairedConstant_32 : decode cX8_repairedConstant 32 = .ok (.istore 4, 2) := by decide +kernel
theorem dX8_repairedConstant_34 : decode cX8_repairedConstant 34 = .ok (.aload_n 0, 1) := by decide +kernel
theorem dX8_repairedConstant_35 : decode cX8_repairedConstant 35 = .ok (.getfield 7, 3) := by decide +kernel
theorem dX8_repairedConstant_38 : decode cX8_repairedConstant 38 = .ok (.iload 4, 2) := by decide +kernel
theorem dX8_repairedConstant_40 : decode cX8_repairedConstant 40 = .ok (.iaload, 1) := by decide +kernel
theorem dX8_repairedConstant_41 : decode cX8_repairedConstant 41 = .ok (.istore 5, 2) := by decide +kernel
theorem dX8_repairedConstant_43 : decode cX8_repairedConstant 43 = .ok (.sipush (-10001), 3) := by decide +kernel
theorem dX8_repairedConstant_46 : decode cX8_repairedConstant 46 = .ok (.istore 6, 2) := by decide +kernel
theorem dX8_repairedConstant_48 : decode cX8_repairedConstant 48 = .ok (.bipush 100, 2) := by decide +kernel
theorem dX8_repairedConstant_50 : decode cX8_repairedConstant 50 = .ok (.istore 7, 2) := by decide +kernel
theorem dX8_repairedConstant_52 : decode cX8_repairedConstant 52 = .ok (.bipush (-9), 2) := by decide +kernel
theorem dX8_repairedConstant_54 : decode cX8_repairedConstant 54 = .ok (.istore 8, 2) := by decide +kernel
theorem dX8_repairedConstant_56 : decode cX8_repairedConstant 56 = .ok (.iload 8, 2) := by decide +kernel
theorem dX8_repairedConstant_58 : decode cX8_repairedConstant 58 = .ok (.bipush 18, 2) := by decide +kernel
theorem dX8_repairedConstant_60 : decode cX8_repairedConstant 60 = .ok (.if_icmp .gt 106, 3) := by decide +kernel
theorem dX8_repairedConstant_63 : decode cX8_repairedConstant 63 = .ok (.iload 8, 2) := by decide +kernel
theorem dX8_repairedConstant_65 : decode cX8_repairedConstant 65 = .ok (.iload 5, 2) := by decide +kernel
theorem dX8_repairedConstant_67 : decode cX8_repairedConstant 67 = .ok (.if_icmp .ge 11, 3) := by decide +kernel
theorem dX8_repairedConstant_70 : decode cX8_repairedConstant 70 = .ok (.iload 5, 2) := by decide +kernel
theorem dX8_repairedConstant_72 : decode cX8_repairedConstant 72 = .ok (.iload 8, 2) := by decide +kernel
theorem dX8_repairedConstant_74 : decode cX8_repairedConstant 74 = .ok (.isub, 1) := by decide +kernel
theorem dX8_repairedConstant_75 : decode cX8_repairedConstant 75 = .ok (.goto 8, 3) := by decide +kernel
theorem dX8_repairedConstant_78 : decode cX8_repairedConstant 78 = .ok (.iload 8, 2) := by decide +kernel
theorem dX8_repairedConstant_80 : decode cX8_repairedConstant 80 = .ok (.iload 5, 2) := by decide +kernel
theorem dX8_repairedConstant_82 : decode cX8_repairedConstant 82 = .ok (.isub, 1) := by decide +kernel
theorem dX8_repairedConstant_83 : decode cX8_repairedConstant 83 = .ok (.istore 9, 2) := by decide +kernel
theorem dX8_repairedConstant_85 : decode cX8_repairedConstant 85 = .ok (.aload_n 0, 1) := by decide +kernel
theorem dX8_repairedConstant_86 : decode cX8_repairedConstant 86 = .ok (.iload_n 3, 1) := by decide +kernel
theorem dX8_repairedConstant_87 : decode cX8_repairedConstant 87 = .ok (.iconst 0, 1) := by decide +kernel
theorem dX8_repairedConstant_88 : decode cX8_repairedConstant 88 = .ok (.invokevirtual 81, 3) := by decide +kernel
theorem dX8_repairedConstant_91 : decode cX8_repairedConstant 91 = .ok (.iload 8, 2) := by decide +kernel
theorem dX8_repairedConstant_93 : decode cX8_repairedConstant 93 = .ok (.invokestatic 70, 3) := by decide +kernel
theorem dX8_repairedConstant_96 : decode cX8_repairedConstant 96 = .ok (.ifCond .eq 64, 3) := by decide +kernel
theorem dX8_repairedConstant_99 : decode cX8_repairedConstant 99 = .ok (.iload 9, 2) := by decide +kernel
theorem dX8_repairedConstant_101 : decode cX8_repairedConstant 101 = .ok (.iload 7, 2) := by decide +kernel
theorem dX8_repairedConstant_103 : decode cX8_repairedConstant 103 = .ok (.if_icmp .ge 57, 3) := by decide +kernel
theorem dX8_repairedConstant_106 : decode cX8_repairedConstant 106 = .ok (.aload_n 0, 1) := by decide +kernel
theorem dX8_repairedConstant_107 : decode cX8_repairedConstant 107 = .ok (.getfield 7, 3) := by decide +kernel
theorem dX8_repairedConstant_110 : decode cX8_repairedConstant 110 = .ok (.iload 4, 2) := by decide +kernel
theorem dX8_repairedConstant_112 : decode cX8_repairedConstant 112 = .ok (.iload 8, 2) := by decide +kernel
theorem dX8_repairedConstant_114 : decode cX8_repairedConstant 114 = .ok (.iastore, 1) := by decide +kernel
theorem dX8_repairedConstant_115 : decode cX8_repairedConstant 115 = .ok (.aload_n 0, 1) := by decide +kernel
theorem dX8_repairedConstant_116 : decode cX8_repairedConstant 116 = .ok (.iload_n 1, 1) := by decide +kernel
theorem dX8_repairedConstant_117 : decode cX8_repairedConstant 117 = .ok (.iload_n 2, 1) := by decide +kernel
theorem dX8_repairedConstant_118 : decode cX8_repairedConstant 118 = .ok (.invokevirtual 114, 3) := by decide +kernel
theorem dX8_repairedConstant_121 : decode cX8_repairedConstant 121 = .ok (.istore 10, 2) := by decide +kernel
theorem dX8_repairedConstant_123 : decode cX8_repairedConstant 123 = .ok (.iload 10, 2) := by decide +kernel
theorem dX8_repairedConstant_125 : decode cX8_repairedConstant 125 = .ok (.ifCond .eq 8, 3) := by decide +kernel
theorem dX8_repairedConstant_128 : decode cX8_repairedConstant 128 = .ok (.iload 8, 2) := by decide +kernel
theorem dX8_repairedConstant_130 : decode cX8_repairedConstant 130 = .ok (.goto 5, 3) := by decide +kernel
theorem dX8_repairedConstant_133 : decode cX8_repairedConstant 133 = .ok (.iload 6, 2) := by decide +kernel
theorem dX8_repairedConstant_135 : decode cX8_repairedConstant 135 = .ok (.istore 6, 2) := by decide +kernel
theorem dX8_repairedConstant_137 : decode cX8_repairedConstant 137 = .ok (.iload 10, 2) := by decide +kernel
theorem dX8_repairedConstant_139 : decode cX8_repairedConstant 139 = .ok (.ifCond .eq 8, 3) := by decide +kernel
theorem dX8_repairedConstant_142 : decode cX8_repairedConstant 142 = .ok (.iload 9, 2) := by decide +kernel
theorem dX8_repairedConstant_144 : decode cX8_repairedConstant 144 = .ok (.goto 5, 3) := by decide +kernel
theorem dX8_repairedConstant_147 : decode cX8_repairedConstant 147 = .ok (.iload 7, 2) := by decide +kernel
theorem dX8_repairedConstant_149 : decode cX8_repairedConstant 149 = .ok (.istore 7, 2) := by decide +kernel
theorem dX8_repairedConstant_151 : decode cX8_repairedConstant 151 = .ok (.aload_n 0, 1) := by decide +kernel
theorem dX8_repairedConstant_152 : decode cX8_repairedConstant 152 = .ok (.getfield 7, 3) := by decide +kernel
theorem dX8_repairedConstant_155 : decode cX8_repairedConstant 155 = .ok (.iload 4, 2) := by decide +kernel
theorem dX8_repairedConstant_157 : decode cX8_repairedConstant 157 = .ok (.iload 5, 2) := by decide +kernel
theorem dX8_repairedConstant_159 : decode cX8_repairedConstant 159 = .ok (.iastore, 1) := by decide +kernel
theorem dX8_repairedConstant_160 : decode cX8_repairedConstant 160 = .ok (.iinc 8 1, 3) := by decide +kernel
theorem dX8_repairedConstant_163 : decode cX8_repairedConstant 163 = .ok (.goto (-107), 3) := by decide +kernel
theorem dX8_repairedConstant_166 : decode cX8_repairedConstant 166 = .ok (.iload 6, 2) := by decide +kernel
theorem dX8_repairedConstant_168 : decode cX8_repairedConstant 168 = .ok (.ireturn, 1) := by decide +kernel
theorem dX8_costOf_0 : decode cX8_costOf 0 = .ok (.aload_n 0, 1) := by decide +kernel
theorem dX8_costOf_1 : decode cX8_costOf 1 = .ok (.iconst 0, 1) := by decide +kernel
theorem dX8_costOf_2 : decode cX8_costOf 2 = .ok (.iload_n 1, 1) := by decide +kernel
theorem dX8_costOf_3 : decode cX8_costOf 3 = .ok (.iload_n 2, 1) := by decide +kernel
theorem dX8_costOf_4 : decode cX8_costOf 4 = .ok (.iload_n 3, 1) := by decide +kernel
theorem dX8_costOf_5 : decode cX8_costOf 5 = .ok (.invokevirtual 108, 3) := by decide +kernel
theorem dX8_costOf_8 : decode cX8_costOf 8 = .ok (.ifCond .ne 7, 3) := by decide +kernel
theorem dX8_costOf_11 : decode cX8_costOf 11 = .ok (.sipush (-10001), 3) := by decide +kernel
theorem dX8_costOf_14 : decode cX8_costOf 14 = .ok (.ireturn, 1) := by decide +kernel
theorem dX8_costOf_15 : decode cX8_costOf 15 = .ok (.aload_n 0, 1) := by decide +kernel
theorem dX8_costOf_16 : decode cX8_costOf 16 = .ok (.iload_n 1, 1) := by decide +kernel
theorem dX8_costOf_17 : decode cX8_costOf 17 = .ok (.iload_n 2, 1) := by decide +kernel
theorem dX8_costOf_18 : decode cX8_costOf 18 = .ok (.invokevirtual 102, 3) := by decide +kernel
theorem dX8_costOf_21 : decode cX8_costOf 21 = .ok (.ifCond .eq 7, 3) := by decide +kernel
theorem dX8_costOf_24 : decode cX8_costOf 24 = .ok (.iconst 0, 1) := by decide +kernel
theorem dX8_costOf_25 : decode cX8_costOf 25 = .ok (.goto 4, 3) := by decide +kernel
theorem dX8_costOf_28 : decode cX8_costOf 28 = .ok (.iconst 1, 1) := by decide +kernel
theorem dX8_costOf_29 : decode cX8_costOf 29 = .ok (.aload_n 0, 1) := by decide +kernel
theorem dX8_costOf_30 : decode cX8_costOf 30 = .ok (.iload_n 2, 1) := by decide +kernel
theorem dX8_costOf_31 : decode cX8_costOf 31 = .ok (.iload_n 3, 1) := by decide +kernel
theorem dX8_costOf_32 : decode cX8_costOf 32 = .ok (.invokevirtual 105, 3) := by decide +kernel
theorem dX8_costOf_35 : decode cX8_costOf 35 = .ok (.ifCond .eq 7, 3) := by decide +kernel
theorem dX8_costOf_38 : decode cX8_costOf 38 = .ok (.iconst 0, 1) := by decide +kernel
theorem dX8_costOf_39 : decode cX8_costOf 39 = .ok (.goto 4, 3) := by decide +kernel
theorem dX8_costOf_42 : decode cX8_costOf 42 = .ok (.iconst 1, 1) := by decide +kernel
theorem dX8_costOf_43 : decode cX8_costOf 43 = .ok (.iadd, 1) := by decide +kernel
theorem dX8_costOf_44 : decode cX8_costOf 44 = .ok (.ireturn, 1) := by decide +kernel
theorem dX8_bestB_0 : decode cX8_bestB 0 = .ok (.sipush (-10001), 3) := by decide +kernel
theorem dX8_bestB_3 : decode cX8_bestB 3 = .ok (.istore_n 3, 1) := by decide +kernel
theorem dX8_bestB_4 : decode cX8_bestB 4 = .ok (.iconst 3, 1) := by decide +kernel
theorem dX8_bestB_5 : decode cX8_bestB 5 = .ok (.istore 4, 2) := by decide +kernel
theorem dX8_bestB_7 : decode cX8_bestB 7 = .ok (.iconst 0, 1) := by decide +kernel
theorem dX8_bestB_8 : decode cX8_bestB 8 = .ok (.istore 5, 2) := by decide +kernel
theorem dX8_bestB_10 : decode cX8_bestB 10 = .ok (.iload 5, 2) := by decide +kernel
theorem dX8_bestB_12 : decode cX8_bestB 12 = .ok (.bipush 10, 2) := by decide +kernel
theorem dX8_bestB_14 : decode cX8_bestB 14 = .ok (.if_icmp .ge 41, 3) := by decide +kernel
theorem dX8_bestB_17 : decode cX8_bestB 17 = .ok (.aload_n 0, 1) := by decide +kernel
theorem dX8_bestB_18 : decode cX8_bestB 18 = .ok (.iload_n 1, 1) := by decide +kernel
theorem dX8_bestB_19 : decode cX8_bestB 19 = .ok (.iload 5, 2) := by decide +kernel
theorem dX8_bestB_21 : decode cX8_bestB 21 = .ok (.iload_n 2, 1) := by decide +kernel
theorem dX8_bestB_22 : decode cX8_bestB 22 = .ok (.invokevirtual 139, 3) := by decide +kernel
theorem dX8_bestB_25 : decode cX8_bestB 25 = .ok (.istore 6, 2) := by decide +kernel
theorem dX8_bestB_27 : decode cX8_bestB 27 = .ok (.iload 6, 2) := by decide +kernel
theorem dX8_bestB_29 : decode cX8_bestB 29 = .ok (.sipush (-10001), 3) := by decide +kernel
theorem dX8_bestB_32 : decode cX8_bestB 32 = .ok (.if_icmp .eq 17, 3) := by decide +kernel
theorem dX8_bestB_35 : decode cX8_bestB 35 = .ok (.iload 6, 2) := by decide +kernel
theorem dX8_bestB_37 : decode cX8_bestB 37 = .ok (.iload 4, 2) := by decide +kernel
theorem dX8_bestB_39 : decode cX8_bestB 39 = .ok (.if_icmp .ge 10, 3) := by decide +kernel
theorem dX8_bestB_42 : decode cX8_bestB 42 = .ok (.iload 5, 2) := by decide +kernel
theorem dX8_bestB_44 : decode cX8_bestB 44 = .ok (.istore_n 3, 1) := by decide +kernel
theorem dX8_bestB_45 : decode cX8_bestB 45 = .ok (.iload 6, 2) := by decide +kernel
theorem dX8_bestB_47 : decode cX8_bestB 47 = .ok (.istore 4, 2) := by decide +kernel
theorem dX8_bestB_49 : decode cX8_bestB 49 = .ok (.iinc 5 1, 3) := by decide +kernel
theorem dX8_bestB_52 : decode cX8_bestB 52 = .ok (.goto (-42), 3) := by decide +kernel
theorem dX8_bestB_55 : decode cX8_bestB 55 = .ok (.iload_n 3, 1) := by decide +kernel
theorem dX8_bestB_56 : decode cX8_bestB 56 = .ok (.ireturn, 1) := by decide +kernel
theorem dX8_missing_0 : decode cX8_missing 0 = .ok (.aload_n 0, 1) := by decide +kernel
theorem dX8_missing_1 : decode cX8_missing 1 = .ok (.iload_n 1, 1) := by decide +kernel
theorem dX8_missing_2 : decode cX8_missing 2 = .ok (.iload_n 2, 1) := by decide +kernel
theorem dX8_missing_3 : decode cX8_missing 3 = .ok (.invokevirtual 142, 3) := by decide +kernel
theorem dX8_missing_6 : decode cX8_missing 6 = .ok (.istore_n 3, 1) := by decide +kernel
theorem dX8_missing_7 : decode cX8_missing 7 = .ok (.iload_n 3, 1) := by decide +kernel
theorem dX8_missing_8 : decode cX8_missing 8 = .ok (.sipush (-10001), 3) := by decide +kernel
theorem dX8_missing_11 : decode cX8_missing 11 = .ok (.if_icmp .ne 9, 3) := by decide +kernel
theorem dX8_missing_14 : decode cX8_missing 14 = .ok (.sipush (-10001), 3) := by decide +kernel
theorem dX8_missing_17 : decode cX8_missing 17 = .ok (.goto 10, 3) := by decide +kernel
theorem dX8_missing_20 : decode cX8_missing 20 = .ok (.aload_n 0, 1) := by decide +kernel
theorem dX8_missing_21 : decode cX8_missing 21 = .ok (.iload_n 1, 1) := by decide +kernel
theorem dX8_missing_22 : decode cX8_missing 22 = .ok (.iload_n 3, 1) := by decide +kernel
theorem dX8_missing_23 : decode cX8_missing 23 = .ok (.iload_n 2, 1) := by decide +kernel
theorem dX8_missing_24 : decode cX8_missing 24 = .ok (.invokevirtual 139, 3) := by decide +kernel
theorem dX8_missing_27 : decode cX8_missing 27 = .ok (.ireturn, 1) := by decide +kernel
theorem dX8_missingRows_0 : decode cX8_missingRows 0 = .ok (.iload_n 1, 1) := by decide +kernel
theorem dX8_missingRows_1 : decode cX8_missingRows 1 = .ok (.iload_n 2, 1) := by decide +kernel
theorem dX8_missingRows_2 : decode cX8_missingRows 2 = .ok (.invokestatic 41, 3) := by decide +kernel
theorem dX8_missingRows_5 : decode cX8_missingRows 5 = .ok (.ifCond .eq 12, 3) := by decide +kernel
theorem dX8_missingRows_8 : decode cX8_missingRows 8 = .ok (.aload_n 0, 1) := by decide +kernel
theorem dX8_missingRows_9 : decode cX8_missingRows 9 = .ok (.iload_n 1, 1) := by decide +kernel
theorem dX8_missingRows_10 : decode cX8_missingRows 10 = .ok (.iload_n 2, 1) := by decide +kernel
theorem dX8_missingRows_11 : decode cX8_missingRows 11 = .ok (.invokevirtual 145, 3) := by decide +kernel
theorem dX8_missingRows_14 : decode cX8_missingRows 14 = .ok (.goto 10, 3) := by decide +kernel
theorem dX8_missingRows_17 : decode cX8_missingRows 17 = .ok (.aload_n 0, 1) := by decide +kernel
theorem dX8_missingRows_18 : decode cX8_missingRows 18 = .ok (.sipush (-10002), 3) := by decide +kernel
theorem dX8_missingRows_21 : decode cX8_missingRows 21 = .ok (.invokevirtual 45, 3) := by decide +kernel
theorem dX8_missingRows_24 : decode cX8_missingRows 24 = .ok (.ireturn, 1) := by decide +kernel
theorem dX8_missingAt_0 : decode cX8_missingAt 0 = .ok (.aload_n 0, 1) := by decide +kernel
theorem dX8_missingAt_1 : decode cX8_missingAt 1 = .ok (.iload_n 1, 1) := by decide +kernel
theorem dX8_missingAt_2 : decode cX8_missingAt 2 = .ok (.iload_n 2, 1) := by decide +kernel
theorem dX8_missingAt_3 : decode cX8_missingAt 3 = .ok (.invokevirtual 114, 3) := by decide +kernel
theorem dX8_missingAt_6 : decode cX8_missingAt 6 = .ok (.ifCond .eq 9, 3) := by decide +kernel
theorem dX8_missingAt_9 : decode cX8_missingAt 9 = .ok (.sipush (-10001), 3) := by decide +kernel
theorem dX8_missingAt_12 : decode cX8_missingAt 12 = .ok (.goto 9, 3) := by decide +kernel
theorem dX8_missingAt_15 : decode cX8_missingAt 15 = .ok (.aload_n 0, 1) := by decide +kernel
theorem dX8_missingAt_16 : decode cX8_missingAt 16 = .ok (.iload_n 1, 1) := by decide +kernel
theorem dX8_missingAt_17 : decode cX8_missingAt 17 = .ok (.iload_n 2, 1) := by decide +kernel
theorem dX8_missingAt_18 : decode cX8_missingAt 18 = .ok (.invokevirtual 142, 3) := by decide +kernel
theorem dX8_missingAt_21 : decode cX8_missingAt 21 = .ok (.ireturn, 1) := by decide +kernel
theorem dX8_missingB_0 : decode cX8_missingB 0 = .ok (.iload_n 1, 1) := by decide +kernel
theorem dX8_missingB_1 : decode cX8_missingB 1 = .ok (.iload_n 2, 1) := by decide +kernel
theorem dX8_missingB_2 : decode cX8_missingB 2 = .ok (.invokestatic 41, 3) := by decide +kernel
theorem dX8_missingB_5 : decode cX8_missingB 5 = .ok (.ifCond .eq 12, 3) := by decide +kernel
theorem dX8_missingB_8 : decode cX8_missingB 8 = .ok (.aload_n 0, 1) := by decide +kernel
theorem dX8_missingB_9 : decode cX8_missingB 9 = .ok (.iload_n 1, 1) := by decide +kernel
theorem dX8_missingB_10 : decode cX8_missingB 10 = .ok (.iload_n 2, 1) := by decide +kernel
theorem dX8_missingB_11 : decode cX8_missingB 11 = .ok (.invokevirtual 148, 3) := by decide +kernel
theorem dX8_missingB_14 : decode cX8_missingB 14 = .ok (.goto 10, 3) := by decide +kernel
theorem dX8_missingB_17 : decode cX8_missingB 17 = .ok (.aload_n 0, 1) := by decide +kernel
theorem dX8_missingB_18 : decode cX8_missingB 18 = .ok (.sipush (-10002), 3) := by decide +kernel
theorem dX8_missingB_21 : decode cX8_missingB 21 = .ok (.invokevirtual 45, 3) := by decide +kernel
theorem dX8_missingB_24 : decode cX8_missingB 24 = .ok (.ireturn, 1) := by decide +kernel
theorem dX8_insertMissing_0 : decode cX8_insertMissing 0 = .ok (.iload_n 1, 1) := by decide +kernel
theorem dX8_insertMissing_1 : decode cX8_insertMissing 1 = .ok (.iload_n 2, 1) := by decide +kernel
theorem dX8_insertMissing_2 : decode cX8_insertMissing 2 = .ok (.invokestatic 41, 3) := by decide +kernel
theorem dX8_insertMissing_5 : decode cX8_insertMissing 5 = .ok (.ifCond .ne 11, 3) := by decide +kernel
theorem dX8_insertMissing_8 : decode cX8_insertMissing 8 = .ok (.aload_n 0, 1) := by decide +kernel
theorem dX8_insertMissing_9 : decode cX8_insertMissing 9 = .ok (.sipush (-10002), 3) := by decide +kernel
theorem dX8_insertMissing_12 : decode cX8_insertMissing 12 = .ok (.invokevirtual 45, 3) := by decide +kernel
theorem dX8_insertMissing_15 : decode cX8_insertMissing 15 = .ok (.ireturn, 1) := by decide +kernel
theorem dX8_insertMissing_16 : decode cX8_insertMissing 16 = .ok (.aload_n 0, 1) := by decide +kernel
theorem dX8_insertMissing_17 : decode cX8_insertMissing 17 = .ok (.iload_n 1, 1) := by decide +kernel
theorem dX8_insertMissing_18 : decode cX8_insertMissing 18 = .ok (.iload_n 2, 1) := by decide +kernel
theorem dX8_insertMissing_19 : decode cX8_insertMissing 19 = .ok (.invokevirtual 142, 3) := by decide +kernel
theorem dX8_insertMissing_22 : decode cX8_insertMissing 22 = .ok (.istore_n 3, 1) := by decide +kernel
theorem dX8_insertMissing_23 : decode cX8_insertMissing 23 = .ok (.iload_n 3, 1) := by decide +kernel
theorem dX8_insertMissing_24 : decode cX8_insertMissing 24 = .ok (.sipush (-10001), 3) := by decide +kernel
theorem dX8_insertMissing_27 : decode cX8_insertMissing 27 = .ok (.if_icmp .ne 11, 3) := by decide +kernel
theorem dX8_insertMissing_30 : decode cX8_insertMissing 30 = .ok (.aload_n 0, 1) := by decide +kernel
theorem dX8_insertMissing_31 : decode cX8_insertMissing 31 = .ok (.sipush (-10003), 3) := by decide +kernel
theorem dX8_insertMissing_34 : decode cX8_insertMissing 34 = .ok (.invokevirtual 45, 3) := by decide +kernel
theorem dX8_insertMissing_37 : decode cX8_insertMissing 37 = .ok (.ireturn, 1) := by decide +kernel
theorem dX8_insertMissing_38 : decode cX8_insertMissing 38 = .ok (.aload_n 0, 1) := by decide +kernel
theorem dX8_insertMissing_39 : decode cX8_insertMissing 39 = .ok (.iload_n 1, 1) := by decide +kernel
theorem dX8_insertMissing_40 : decode cX8_insertMissing 40 = .ok (.iload_n 3, 1) := by decide +kernel
theorem dX8_insertMissing_41 : decode cX8_insertMissing 41 = .ok (.invokevirtual 102, 3) := by decide +kernel
theorem dX8_insertMissing_44 : decode cX8_insertMissing 44 = .ok (.ifCond .ne 7, 3) := by decide +kernel
theorem dX8_insertMissing_47 : decode cX8_insertMissing 47 = .ok (.iconst 1, 1) := by decide +kernel
theorem dX8_insertMissing_48 : decode cX8_insertMissing 48 = .ok (.goto 4, 3) := by decide +kernel
theorem dX8_insertMissing_51 : decode cX8_insertMissing 51 = .ok (.iconst 0, 1) := by decide +kernel
theorem dX8_insertMissing_52 : decode cX8_insertMissing 52 = .ok (.istore 4, 2) := by decide +kernel
theorem dX8_insertMissing_54 : decode cX8_insertMissing 54 = .ok (.aload_n 0, 1) := by decide +kernel
theorem dX8_insertMissing_55 : decode cX8_insertMissing 55 = .ok (.iload_n 3, 1) := by decide +kernel
theorem dX8_insertMissing_56 : decode cX8_insertMissing 56 = .ok (.iload_n 2, 1) := by decide +kernel
theorem dX8_insertMissing_57 : decode cX8_insertMissing 57 = .ok (.invokevirtual 105, 3) := by decide +kernel
theorem dX8_insertMissing_60 : decode cX8_insertMissing 60 = .ok (.ifCond .ne 7, 3) := by decide +kernel
theorem dX8_insertMissing_63 : decode cX8_insertMissing 63 = .ok (.iconst 1, 1) := by decide +kernel
theorem dX8_insertMissing_64 : decode cX8_insertMissing 64 = .ok (.goto 4, 3) := by decide +kernel
theorem dX8_insertMissing_67 : decode cX8_insertMissing 67 = .ok (.iconst 0, 1) := by decide +kernel
theorem dX8_insertMissing_68 : decode cX8_insertMissing 68 = .ok (.istore 5, 2) := by decide +kernel
theorem dX8_insertMissing_70 : decode cX8_insertMissing 70 = .ok (.iload 4, 2) := by decide +kernel
theorem dX8_insertMissing_72 : decode cX8_insertMissing 72 = .ok (.ifCond .eq 14, 3) := by decide +kernel
theorem dX8_insertMissing_75 : decode cX8_insertMissing 75 = .ok (.aload_n 0, 1) := by decide +kernel
theorem dX8_insertMissing_76 : decode cX8_insertMissing 76 = .ok (.getfield 7, 3) := by decide +kernel
theorem dX8_insertMissing_79 : decode cX8_insertMissing 79 = .ok (.iconst 0, 1) := by decide +kernel
theorem dX8_insertMissing_80 : decode cX8_insertMissing 80 = .ok (.iaload, 1) := by decide +kernel
theorem dX8_insertMissing_81 : decode cX8_insertMissing 81 = .ok (.bipush 10, 2) := by decide +kernel
theorem dX8_insertMissing_83 : decode cX8_insertMissing 83 = .ok (.if_icmp .eq 20, 3) := by decide +kernel
theorem dX8_insertMissing_86 : decode cX8_insertMissing 86 = .ok (.iload 5, 2) := by decide +kernel
theorem dX8_insertMissing_88 : decode cX8_insertMissing 88 = .ok (.ifCond .eq 23, 3) := by decide +kernel
theorem dX8_insertMissing_91 : decode cX8_insertMissing 91 = .ok (.aload_n 0, 1) := by decide +kernel
theorem dX8_insertMissing_92 : decode cX8_insertMissing 92 = .ok (.getfield 7, 3) := by decide +kernel
theorem dX8_insertMissing_95 : decode cX8_insertMissing 95 = .ok (.bipush 11, 2) := by decide +kernel
theorem dX8_insertMissing_97 : decode cX8_insertMissing 97 = .ok (.iaload, 1) := by decide +kernel
theorem dX8_insertMissing_98 : decode cX8_insertMissing 98 = .ok (.bipush 10, 2) := by decide +kernel
theorem dX8_insertMissing_100 : decode cX8_insertMissing 100 = .ok (.if_icmp .ne 11, 3) := by decide +kernel
theorem dX8_insertMissing_103 : decode cX8_insertMissing 103 = .ok (.aload_n 0, 1) := by decide +kernel
theorem dX8_insertMissing_104 : decode cX8_insertMissing 104 = .ok (.sipush (-10004), 3) := by decide +kernel
theorem dX8_insertMissing_107 : decode cX8_insertMissing 107 = .ok (.invokevirtual 45, 3) := by decide +kernel
theorem dX8_insertMissing_110 : decode cX8_insertMissing 110 = .ok (.ireturn, 1) := by decide +kernel
theorem dX8_insertMissing_111 : decode cX8_insertMissing 111 = .ok (.aload_n 0, 1) := by decide +kernel
theorem dX8_insertMissing_112 : decode cX8_insertMissing 112 = .ok (.invokevirtual 53, 3) := by decide +kernel
theorem dX8_insertMissing_115 : decode cX8_insertMissing 115 = .ok (.iload 4, 2) := by decide +kernel
theorem dX8_insertMissing_117 : decode cX8_insertMissing 117 = .ok (.ifCond .eq 14, 3) := by decide +kernel
theorem dX8_insertMissing_120 : decode cX8_insertMissing 120 = .ok (.aload_n 0, 1) := by decide +kernel
theorem dX8_insertMissing_121 : decode cX8_insertMissing 121 = .ok (.iconst 0, 1) := by decide +kernel
theorem dX8_insertMissing_122 : decode cX8_insertMissing 122 = .ok (.bipush 10, 2) := by decide +kernel
theorem dX8_insertMissing_124 : decode cX8_insertMissing 124 = .ok (.iload_n 1, 1) := by decide +kernel
theorem dX8_insertMissing_125 : decode cX8_insertMissing 125 = .ok (.imul, 1) := by decide +kernel
theorem dX8_insertMissing_126 : decode cX8_insertMissing 126 = .ok (.iload_n 3, 1) := by decide +kernel
theorem dX8_insertMissing_127 : decode cX8_insertMissing 127 = .ok (.iadd, 1) := by decide +kernel
theorem dX8_insertMissing_128 : decode cX8_insertMissing 128 = .ok (.invokevirtual 56, 3) := by decide +kernel
theorem dX8_insertMissing_131 : decode cX8_insertMissing 131 = .ok (.iload 5, 2) := by decide +kernel
theorem dX8_insertMissing_133 : decode cX8_insertMissing 133 = .ok (.ifCond .eq 15, 3) := by decide +kernel
theorem dX8_insertMissing_136 : decode cX8_insertMissing 136 = .ok (.aload_n 0, 1) := by decide +kernel
theorem dX8_insertMissing_137 : decode cX8_insertMissing 137 = .ok (.bipush 11, 2) := by decide +kernel
theorem dX8_insertMissing_139 : decode cX8_insertMissing 139 = .ok (.bipush 10, 2) := by decide +kernel
theorem dX8_insertMissing_141 : decode cX8_insertMissing 141 = .ok (.iload_n 3, 1) := by decide +kernel
theorem dX8_insertMissing_142 : decode cX8_insertMissing 142 = .ok (.imul, 1) := by decide +kernel
theorem dX8_insertMissing_143 : decode cX8_insertMissing 143 = .ok (.iload_n 2, 1) := by decide +kernel
theorem dX8_insertMissing_144 : decode cX8_insertMissing 144 = .ok (.iadd, 1) := by decide +kernel
theorem dX8_insertMissing_145 : decode cX8_insertMissing 145 = .ok (.invokevirtual 56, 3) := by decide +kernel
theorem dX8_insertMissing_148 : decode cX8_insertMissing 148 = .ok (.iload 4, 2) := by decide +kernel
theorem dX8_insertMissing_150 : decode cX8_insertMissing 150 = .ok (.ifCond .eq 7, 3) := by decide +kernel
theorem dX8_insertMissing_153 : decode cX8_insertMissing 153 = .ok (.iconst 1, 1) := by decide +kernel
theorem dX8_insertMissing_154 : decode cX8_insertMissing 154 = .ok (.goto 4, 3) := by decide +kernel
theorem dX8_insertMissing_157 : decode cX8_insertMissing 157 = .ok (.iconst 0, 1) := by decide +kernel
theorem dX8_insertMissing_158 : decode cX8_insertMissing 158 = .ok (.iload 5, 2) := by decide +kernel
theorem dX8_insertMissing_160 : decode cX8_insertMissing 160 = .ok (.ifCond .eq 7, 3) := by decide +kernel
theorem dX8_insertMissing_163 : decode cX8_insertMissing 163 = .ok (.iconst 1, 1) := by decide +kernel
theorem dX8_insertMissing_164 : decode cX8_insertMissing 164 = .ok (.goto 4, 3) := by decide +kernel
theorem dX8_insertMissing_167 : decode cX8_insertMissing 167 = .ok (.iconst 0, 1) := by decide +kernel
theorem dX8_insertMissing_168 : decode cX8_insertMissing 168 = .ok (.iadd, 1) := by decide +kernel
theorem dX8_insertMissing_169 : decode cX8_insertMissing 169 = .ok (.ireturn, 1) := by decide +kernel
theorem dX8_loosen_0 : decode cX8_loosen 0 = .ok (.iload_n 1, 1) := by decide +kernel
theorem dX8_loosen_1 : decode cX8_loosen 1 = .ok (.iload_n 2, 1) := by decide +kernel
theorem dX8_loosen_2 : decode cX8_loosen 2 = .ok (.invokestatic 41, 3) := by decide +kernel
theorem dX8_loosen_5 : decode cX8_loosen 5 = .ok (.ifCond .ne 11, 3) := by decide +kernel
theorem dX8_loosen_8 : decode cX8_loosen 8 = .ok (.aload_n 0, 1) := by decide +kernel
theorem dX8_loosen_9 : decode cX8_loosen 9 = .ok (.sipush (-10002), 3) := by decide +kernel
theorem dX8_loosen_12 : decode cX8_loosen 12 = .ok (.invokevirtual 45, 3) := by decide +kernel
theorem dX8_loosen_15 : decode cX8_loosen 15 = .ok (.ireturn, 1) := by decide +kernel
theorem dX8_loosen_16 : decode cX8_loosen 16 = .ok (.aload_n 0, 1) := by decide +kernel
theorem dX8_loosen_17 : decode cX8_loosen 17 = .ok (.iload_n 1, 1) := by decide +kernel
theorem dX8_loosen_18 : decode cX8_loosen 18 = .ok (.iload_n 2, 1) := by decide +kernel
theorem dX8_loosen_19 : decode cX8_loosen 19 = .ok (.invokevirtual 136, 3) := by decide +kernel
theorem dX8_loosen_22 : decode cX8_loosen 22 = .ok (.istore_n 3, 1) := by decide +kernel
theorem dX8_loosen_23 : decode cX8_loosen 23 = .ok (.iload_n 3, 1) := by decide +kernel
theorem dX8_loosen_24 : decode cX8_loosen 24 = .ok (.sipush (-10001), 3) := by decide +kernel
theorem dX8_loosen_27 : decode cX8_loosen 27 = .ok (.if_icmp .ne 11, 3) := by decide +kernel
theorem dX8_loosen_30 : decode cX8_loosen 30 = .ok (.aload_n 0, 1) := by decide +kernel
theorem dX8_loosen_31 : decode cX8_loosen 31 = .ok (.sipush (-10003), 3) := by decide +kernel
theorem dX8_loosen_34 : decode cX8_loosen 34 = .ok (.invokevirtual 45, 3) := by decide +kernel
theorem dX8_loosen_37 : decode cX8_loosen 37 = .ok (.ireturn, 1) := by decide +kernel
theorem dX8_loosen_38 : decode cX8_loosen 38 = .ok (.aload_n 0, 1) := by decide +kernel
theorem dX8_loosen_39 : decode cX8_loosen 39 = .ok (.invokevirtual 53, 3) := by decide +kernel
theorem dX8_loosen_42 : decode cX8_loosen 42 = .ok (.iconst 5, 1) := by decide +kernel
theorem dX8_loosen_43 : decode cX8_loosen 43 = .ok (.istore 4, 2) := by decide +kernel
theorem dX8_loosen_45 : decode cX8_loosen 45 = .ok (.iload 4, 2) := by decide +kernel
theorem dX8_loosen_47 : decode cX8_loosen 47 = .ok (.ifCond .lt 25, 3) := by decide +kernel
theorem dX8_loosen_50 : decode cX8_loosen 50 = .ok (.iload_n 3, 1) := by decide +kernel
theorem dX8_loosen_51 : decode cX8_loosen 51 = .ok (.iload 4, 2) := by decide +kernel
theorem dX8_loosen_53 : decode cX8_loosen 53 = .ok (.ishr, 1) := by decide +kernel
theorem dX8_loosen_54 : decode cX8_loosen 54 = .ok (.iconst 1, 1) := by decide +kernel
theorem dX8_loosen_55 : decode cX8_loosen 55 = .ok (.iand, 1) := by decide +kernel
theorem dX8_loosen_56 : decode cX8_loosen 56 = .ok (.iconst 1, 1) := by decide +kernel
theorem dX8_loosen_57 : decode cX8_loosen 57 = .ok (.if_icmp .ne 9, 3) := by decide +kernel
theorem dX8_loosen_60 : decode cX8_loosen 60 = .ok (.aload_n 0, 1) := by decide +kernel
theorem dX8_loosen_61 : decode cX8_loosen 61 = .ok (.iload 4, 2) := by decide +kernel
theorem dX8_loosen_63 : decode cX8_loosen 63 = .ok (.invokevirtual 77, 3) := by decide +kernel
theorem dX8_loosen_66 : decode cX8_loosen 66 = .ok (.iinc 4 (-1), 3) := by decide +kernel
theorem dX8_loosen_69 : decode cX8_loosen 69 = .ok (.goto (-24), 3) := by decide +kernel
theorem dX8_loosen_72 : decode cX8_loosen 72 = .ok (.iload_n 3, 1) := by decide +kernel
theorem dX8_loosen_73 : decode cX8_loosen 73 = .ok (.invokestatic 133, 3) := by decide +kernel
theorem dX8_loosen_76 : decode cX8_loosen 76 = .ok (.ireturn, 1) := by decide +kernel
theorem dX8_addWish_0 : decode cX8_addWish 0 = .ok (.iload_n 1, 1) := by decide +kernel
theorem dX8_addWish_1 : decode cX8_addWish 1 = .ok (.iload_n 2, 1) := by decide +kernel
theorem dX8_addWish_2 : decode cX8_addWish 2 = .ok (.invokestatic 41, 3) := by decide +kernel
theorem dX8_addWish_5 : decode cX8_addWish 5 = .ok (.ifCond .ne 11, 3) := by decide +kernel
theorem dX8_addWish_8 : decode cX8_addWish 8 = .ok (.aload_n 0, 1) := by decide +kernel
theorem dX8_addWish_9 : decode cX8_addWish 9 = .ok (.sipush (-10002), 3) := by decide +kernel
theorem dX8_addWish_12 : decode cX8_addWish 12 = .ok (.invokevirtual 45, 3) := by decide +kernel
theorem dX8_addWish_15 : decode cX8_addWish 15 = .ok (.ireturn, 1) := by decide +kernel
theorem dX8_addWish_16 : decode cX8_addWish 16 = .ok (.aload_n 0, 1) := by decide +kernel
theorem dX8_addWish_17 : decode cX8_addWish 17 = .ok (.bipush 47, 2) := by decide +kernel
theorem dX8_addWish_19 : decode cX8_addWish 19 = .ok (.bipush 10, 2) := by decide +kernel
theorem dX8_addWish_21 : decode cX8_addWish 21 = .ok (.iload_n 1, 1) := by decide +kernel
theorem dX8_addWish_22 : decode cX8_addWish 22 = .ok (.imul, 1) := by decide +kernel
theorem dX8_addWish_23 : decode cX8_addWish 23 = .ok (.iload_n 2, 1) := by decide +kernel
theorem dX8_addWish_24 : decode cX8_addWish 24 = .ok (.iadd, 1) := by decide +kernel
theorem dX8_addWish_25 : decode cX8_addWish 25 = .ok (.invokevirtual 49, 3) := by decide +kernel
theorem dX8_addWish_28 : decode cX8_addWish 28 = .ok (.sipush (-10001), 3) := by decide +kernel
theorem dX8_addWish_31 : decode cX8_addWish 31 = .ok (.if_icmp .eq 11, 3) := by decide +kernel
theorem dX8_addWish_34 : decode cX8_addWish 34 = .ok (.aload_n 0, 1) := by decide +kernel
theorem dX8_addWish_35 : decode cX8_addWish 35 = .ok (.sipush (-10003), 3) := by decide +kernel
theorem dX8_addWish_38 : decode cX8_addWish 38 = .ok (.invokevirtual 45, 3) := by decide +kernel
theorem dX8_addWish_41 : decode cX8_addWish 41 = .ok (.ireturn, 1) := by decide +kernel
theorem dX8_addWish_42 : decode cX8_addWish 42 = .ok (.aload_n 0, 1) := by decide +kernel
theorem dX8_addWish_43 : decode cX8_addWish 43 = .ok (.getfield 7, 3) := by decide +kernel
theorem dX8_addWish_46 : decode cX8_addWish 46 = .ok (.bipush 47, 2) := by decide +kernel
theorem dX8_addWish_48 : decode cX8_addWish 48 = .ok (.iaload, 1) := by decide +kernel
theorem dX8_addWish_49 : decode cX8_addWish 49 = .ok (.iconst 4, 1) := by decide +kernel
theorem dX8_addWish_50 : decode cX8_addWish 50 = .ok (.if_icmp .ne 11, 3) := by decide +kernel
theorem dX8_addWish_53 : decode cX8_addWish 53 = .ok (.aload_n 0, 1) := by decide +kernel
theorem dX8_addWish_54 : decode cX8_addWish 54 = .ok (.sipush (-10004), 3) := by decide +kernel
theorem dX8_addWish_57 : decode cX8_addWish 57 = .ok (.invokevirtual 45, 3) := by decide +kernel
theorem dX8_addWish_60 : decode cX8_addWish 60 = .ok (.ireturn, 1) := by decide +kernel
theorem dX8_addWish_61 : decode cX8_addWish 61 = .ok (.aload_n 0, 1) := by decide +kernel
theorem dX8_addWish_62 : decode cX8_addWish 62 = .ok (.invokevirtual 53, 3) := by decide +kernel
theorem dX8_addWish_65 : decode cX8_addWish 65 = .ok (.aload_n 0, 1) := by decide +kernel
theorem dX8_addWish_66 : decode cX8_addWish 66 = .ok (.bipush 47, 2) := by decide +kernel
theorem dX8_addWish_68 : decode cX8_addWish 68 = .ok (.bipush 10, 2) := by decide +kernel
theorem dX8_addWish_70 : decode cX8_addWish 70 = .ok (.iload_n 1, 1) := by decide +kernel
theorem dX8_addWish_71 : decode cX8_addWish 71 = .ok (.imul, 1) := by decide +kernel
theorem dX8_addWish_72 : decode cX8_addWish 72 = .ok (.iload_n 2, 1) := by decide +kernel
theorem dX8_addWish_73 : decode cX8_addWish 73 = .ok (.iadd, 1) := by decide +kernel
theorem dX8_addWish_74 : decode cX8_addWish 74 = .ok (.invokevirtual 56, 3) := by decide +kernel
theorem dX8_addWish_77 : decode cX8_addWish 77 = .ok (.aload_n 0, 1) := by decide +kernel
theorem dX8_addWish_78 : decode cX8_addWish 78 = .ok (.getfield 7, 3) := by decide +kernel
theorem dX8_addWish_81 : decode cX8_addWish 81 = .ok (.bipush 47, 2) := by decide +kernel
theorem dX8_addWish_83 : decode cX8_addWish 83 = .ok (.iaload, 1) := by decide +kernel
theorem dX8_addWish_84 : decode cX8_addWish 84 = .ok (.ireturn, 1) := by decide +kernel
theorem dX8_clearWishes_0 : decode cX8_clearWishes 0 = .ok (.aload_n 0, 1) := by decide +kernel
theorem dX8_clearWishes_1 : decode cX8_clearWishes 1 = .ok (.invokevirtual 53, 3) := by decide +kernel
theorem dX8_clearWishes_4 : decode cX8_clearWishes 4 = .ok (.aload_n 0, 1) := by decide +kernel
theorem dX8_clearWishes_5 : decode cX8_clearWishes 5 = .ok (.getfield 7, 3) := by decide +kernel
theorem dX8_clearWishes_8 : decode cX8_clearWishes 8 = .ok (.bipush 47, 2) := by decide +kernel
theorem dX8_clearWishes_10 : decode cX8_clearWishes 10 = .ok (.iaload, 1) := by decide +kernel
theorem dX8_clearWishes_11 : decode cX8_clearWishes 11 = .ok (.istore_n 1, 1) := by decide +kernel
theorem dX8_clearWishes_12 : decode cX8_clearWishes 12 = .ok (.aload_n 0, 1) := by decide +kernel
theorem dX8_clearWishes_13 : decode cX8_clearWishes 13 = .ok (.getfield 7, 3) := by decide +kernel
theorem dX8_clearWishes_16 : decode cX8_clearWishes 16 = .ok (.bipush 47, 2) := by decide +kernel
theorem dX8_clearWishes_18 : decode cX8_clearWishes 18 = .ok (.iconst 0, 1) := by decide +kernel
theorem dX8_clearWishes_19 : decode cX8_clearWishes 19 = .ok (.iastore, 1) := by decide +kernel
theorem dX8_clearWishes_20 : decode cX8_clearWishes 20 = .ok (.iload_n 1, 1) := by decide +kernel
theorem dX8_clearWishes_21 : decode cX8_clearWishes 21 = .ok (.ireturn, 1) := by decide +kernel
theorem dX8_satisfied_0 : decode cX8_satisfied 0 = .ok (.iconst 0, 1) := by decide +kernel
theorem dX8_satisfied_1 : decode cX8_satisfied 1 = .ok (.istore_n 2, 1) := by decide +kernel
theorem dX8_satisfied_2 : decode cX8_satisfied 2 = .ok (.iconst 0, 1) := by decide +kernel
theorem dX8_satisfied_3 : decode cX8_satisfied 3 = .ok (.istore_n 3, 1) := by decide +kernel
theorem dX8_satisfied_4 : decode cX8_satisfied 4 = .ok (.iload_n 3, 1) := by decide +kernel
theorem dX8_satisfied_5 : decode cX8_satisfied 5 = .ok (.aload_n 0, 1) := by decide +kernel
theorem dX8_satisfied_6 : decode cX8_satisfied 6 = .ok (.getfield 7, 3) := by decide +kernel
theorem dX8_satisfied_9 : decode cX8_satisfied 9 = .ok (.bipush 47, 2) := by decide +kernel
theorem dX8_satisfied_11 : decode cX8_satisfied 11 = .ok (.iaload, 1) := by decide +kernel
theorem dX8_satisfied_12 : decode cX8_satisfied 12 = .ok (.if_icmp .ge 49, 3) := by decide +kernel
theorem dX8_satisfied_15 : decode cX8_satisfied 15 = .ok (.iload_n 2, 1) := by decide +kernel
theorem dX8_satisfied_16 : decode cX8_satisfied 16 = .ok (.aload_n 0, 1) := by decide +kernel
theorem dX8_satisfied_17 : decode cX8_satisfied 17 = .ok (.aload_n 0, 1) := by decide +kernel
theorem dX8_satisfied_18 : decode cX8_satisfied 18 = .ok (.getfield 7, 3) := by decide +kernel
theorem dX8_satisfied_21 : decode cX8_satisfied 21 = .ok (.bipush 48, 2) := by decide +kernel
theorem dX8_satisfied_23 : decode cX8_satisfied 23 = .ok (.iload_n 3, 1) := by decide +kernel
theorem dX8_satisfied_24 : decode cX8_satisfied 24 = .ok (.iadd, 1) := by decide +kernel
theorem dX8_satisfied_25 : decode cX8_satisfied 25 = .ok (.iaload, 1) := by decide +kernel
theorem dX8_satisfied_26 : decode cX8_satisfied 26 = .ok (.bipush 10, 2) := by decide +kernel
theorem dX8_satisfied_28 : decode cX8_satisfied 28 = .ok (.idiv, 1) := by decide +kernel
theorem dX8_satisfied_29 : decode cX8_satisfied 29 = .ok (.aload_n 0, 1) := by decide +kernel
theorem dX8_satisfied_30 : decode cX8_satisfied 30 = .ok (.getfield 7, 3) := by decide +kernel
theorem dX8_satisfied_33 : decode cX8_satisfied 33 = .ok (.bipush 48, 2) := by decide +kernel
theorem dX8_satisfied_35 : decode cX8_satisfied 35 = .ok (.iload_n 3, 1) := by decide +kernel
theorem dX8_satisfied_36 : decode cX8_satisfied 36 = .ok (.iadd, 1) := by decide +kernel
theorem dX8_satisfied_37 : decode cX8_satisfied 37 = .ok (.iaload, 1) := by decide +kernel
theorem dX8_satisfied_38 : decode cX8_satisfied 38 = .ok (.bipush 10, 2) := by decide +kernel
theorem dX8_satisfied_40 : decode cX8_satisfied 40 = .ok (.irem, 1) := by decide +kernel
theorem dX8_satisfied_41 : decode cX8_satisfied 41 = .ok (.iload_n 1, 1) := by decide +kernel
theorem dX8_satisfied_42 : decode cX8_satisfied 42 = .ok (.invokevirtual 111, 3) := by decide +kernel
theorem dX8_satisfied_45 : decode cX8_satisfied 45 = .ok (.ifCond .le 7, 3) := by decide +kernel
theorem dX8_satisfied_48 : decode cX8_satisfied 48 = .ok (.iconst 1, 1) := by decide +kernel
theorem dX8_satisfied_49 : decode cX8_satisfied 49 = .ok (.goto 4, 3) := by decide +kernel
theorem dX8_satisfied_52 : decode cX8_satisfied 52 = .ok (.iconst 0, 1) := by decide +kernel
theorem dX8_satisfied_53 : decode cX8_satisfied 53 = .ok (.iadd, 1) := by decide +kernel
theorem dX8_satisfied_54 : decode cX8_satisfied 54 = .ok (.istore_n 2, 1) := by decide +kernel
theorem dX8_satisfied_55 : decode cX8_satisfied 55 = .ok (.iinc 3 1, 3) := by decide +kernel
theorem dX8_satisfied_58 : decode cX8_satisfied 58 = .ok (.goto (-54), 3) := by decide +kernel
theorem dX8_satisfied_61 : decode cX8_satisfied 61 = .ok (.iload_n 2, 1) := by decide +kernel
theorem dX8_satisfied_62 : decode cX8_satisfied 62 = .ok (.ireturn, 1) := by decide +kernel
theorem dX8_satisfiedWishes_0 : decode cX8_satisfiedWishes 0 = .ok (.aload_n 0, 1) := by decide +kernel
theorem dX8_satisfiedWishes_1 : decode cX8_satisfiedWishes 1 = .ok (.iconst 0, 1) := by decide +kernel
theorem dX8_satisfiedWishes_2 : decode cX8_satisfiedWishes 2 = .ok (.invokevirtual 151, 3) := by decide +kernel
theorem dX8_satisfiedWishes_5 : decode cX8_satisfiedWishes 5 = .ok (.ireturn, 1) := by decide +kernel
theorem dX8_removalForWishes_0 : decode cX8_removalForWishes 0 = .ok (.sipush (-10001), 3) := by decide +kernel
theorem dX8_removalForWishes_3 : decode cX8_removalForWishes 3 = .ok (.istore_n 1, 1) := by decide +kernel
theorem dX8_removalForWishes_4 : decode cX8_removalForWishes 4 = .ok (.iconst 1, 1) := by decide +kernel
theorem dX8_removalForWishes_5 : decode cX8_removalForWishes 5 = .ok (.aload_n 0, 1) := by decide +kernel
theorem dX8_removalForWishes_6 : decode cX8_removalForWishes 6 = .ok (.getfield 7, 3) := by decide +kernel
theorem dX8_removalForWishes_9 : decode cX8_removalForWishes 9 = .ok (.bipush 22, 2) := by decide +kernel
theorem dX8_removalForWishes_11 : decode cX8_removalForWishes 11 = .ok (.iaload, 1) := by decide +kernel
theorem dX8_removalForWishes_12 : decode cX8_removalForWishes 12 = .ok (.ishl, 1) := by decide +kernel
theorem dX8_removalForWishes_13 : decode cX8_removalForWishes 13 = .ok (.iconst 1, 1) := by decide +kernel
theorem dX8_removalForWishes_14 : decode cX8_removalForWishes 14 = .ok (.isub, 1) := by decide +kernel
theorem dX8_removalForWishes_15 : decode cX8_removalForWishes 15 = .ok (.istore_n 2, 1) := by decide +kernel
theorem dX8_removalForWishes_16 : decode cX8_removalForWishes 16 = .ok (.iload_n 2, 1) := by decide +kernel
theorem dX8_removalForWishes_17 : decode cX8_removalForWishes 17 = .ok (.ifCond .lt 58, 3) := by decide +kernel
theorem dX8_removalForWishes_20 : decode cX8_removalForWishes 20 = .ok (.iload_n 1, 1) := by decide +kernel
theorem dX8_removalForWishes_21 : decode cX8_removalForWishes 21 = .ok (.sipush (-10001), 3) := by decide +kernel
theorem dX8_removalForWishes_24 : decode cX8_removalForWishes 24 = .ok (.if_icmp .eq 14, 3) := by decide +kernel
theorem dX8_removalForWishes_27 : decode cX8_removalForWishes 27 = .ok (.iload_n 2, 1) := by decide +kernel
theorem dX8_removalForWishes_28 : decode cX8_removalForWishes 28 = .ok (.invokestatic 133, 3) := by decide +kernel
theorem dX8_removalForWishes_31 : decode cX8_removalForWishes 31 = .ok (.iload_n 1, 1) := by decide +kernel
theorem dX8_removalForWishes_32 : decode cX8_removalForWishes 32 = .ok (.invokestatic 133, 3) := by decide +kernel
theorem dX8_removalForWishes_35 : decode cX8_removalForWishes 35 = .ok (.if_icmp .gt 7, 3) := by decide +kernel
theorem dX8_removalForWishes_38 : decode cX8_removalForWishes 38 = .ok (.iconst 1, 1) := by decide +kernel
theorem dX8_removalForWishes_39 : decode cX8_removalForWishes 39 = .ok (.goto 4, 3) := by decide +kernel
theorem dX8_removalForWishes_42 : decode cX8_removalForWishes 42 = .ok (.iconst 0, 1) := by decide +kernel
theorem dX8_removalForWishes_43 : decode cX8_removalForWishes 43 = .ok (.istore_n 3, 1) := by decide +kernel
theorem dX8_removalForWishes_44 : decode cX8_removalForWishes 44 = .ok (.iload_n 3, 1) := by decide +kernel
theorem dX8_removalForWishes_45 : decode cX8_removalForWishes 45 = .ok (.ifCond .eq 22, 3) := by decide +kernel
theorem dX8_removalForWishes_48 : decode cX8_removalForWishes 48 = .ok (.aload_n 0, 1) := by decide +kernel
theorem dX8_removalForWishes_49 : decode cX8_removalForWishes 49 = .ok (.iload_n 2, 1) := by decide +kernel
theorem dX8_removalForWishes_50 : decode cX8_removalForWishes 50 = .ok (.invokevirtual 151, 3) := by decide +kernel
theorem dX8_removalForWishes_53 : decode cX8_removalForWishes 53 = .ok (.aload_n 0, 1) := by decide +kernel
theorem dX8_removalForWishes_54 : decode cX8_removalForWishes 54 = .ok (.getfield 7, 3) := by decide +kernel
theorem dX8_removalForWishes_57 : decode cX8_removalForWishes 57 = .ok (.bipush 47, 2) := by decide +kernel
theorem dX8_removalForWishes_59 : decode cX8_removalForWishes 59 = .ok (.iaload, 1) := by decide +kernel
theorem dX8_removalForWishes_60 : decode cX8_removalForWishes 60 = .ok (.if_icmp .ne 7, 3) := by decide +kernel
theorem dX8_removalForWishes_63 : decode cX8_removalForWishes 63 = .ok (.iload_n 2, 1) := by decide +kernel
theorem dX8_removalForWishes_64 : decode cX8_removalForWishes 64 = .ok (.goto 4, 3) := by decide +kernel
theorem dX8_removalForWishes_67 : decode cX8_removalForWishes 67 = .ok (.iload_n 1, 1) := by decide +kernel
theorem dX8_removalForWishes_68 : decode cX8_removalForWishes 68 = .ok (.istore_n 1, 1) := by decide +kernel
theorem dX8_removalForWishes_69 : decode cX8_removalForWishes 69 = .ok (.iinc 2 (-1), 3) := by decide +kernel
theorem dX8_removalForWishes_72 : decode cX8_removalForWishes 72 = .ok (.goto (-56), 3) := by decide +kernel
theorem dX8_removalForWishes_75 : decode cX8_removalForWishes 75 = .ok (.iload_n 1, 1) := by decide +kernel
theorem dX8_removalForWishes_76 : decode cX8_removalForWishes 76 = .ok (.ireturn, 1) := by decide +kernel
theorem dX8_filtersToRemoveForWishes_0 : decode cX8_filtersToRemoveForWishes 0 = .ok (.aload_n 0, 1) := by decide +kernel
theorem dX8_filtersToRemoveForWishes_1 : decode cX8_filtersToRemoveForWishes 1 = .ok (.invokevirtual 154, 3) := by decide +kernel
theorem dX8_filtersToRemoveForWishes_4 : decode cX8_filtersToRemoveForWishes 4 = .ok (.ireturn, 1) := by decide +kernel
theorem dX8_append_0 : decode cX8_append 0 = .ok (.iload_n 1, 1) := by decide +kernel
theorem dX8_append_1 : decode cX8_append 1 = .ok (.iconst 0, 1) := by decide +kernel
theorem dX8_append_2 : decode cX8_append 2 = .ok (.bipush 127, 2) := by decide +kernel
theorem dX8_append_4 : decode cX8_append 4 = .ok (.invokestatic 37, 3) := by decide +kernel
theorem dX8_append_7 : decode cX8_append 7 = .ok (.ifCond .ne 11, 3) := by decide +kernel
theorem dX8_append_10 : decode cX8_append 10 = .ok (.aload_n 0, 1) := by decide +kernel
theorem dX8_append_11 : decode cX8_append 11 = .ok (.sipush (-10002), 3) := by decide +kernel
theorem dX8_append_14 : decode cX8_append 14 = .ok (.invokevirtual 45, 3) := by decide +kernel
theorem dX8_append_17 : decode cX8_append 17 = .ok (.ireturn, 1) := by decide +kernel
theorem dX8_append_18 : decode cX8_append 18 = .ok (.aload_n 0, 1) := by decide +kernel
theorem dX8_append_19 : decode cX8_append 19 = .ok (.getfield 157, 3) := by decide +kernel
theorem dX8_append_22 : decode cX8_append 22 = .ok (.bipush 120, 2) := by decide +kernel
theorem dX8_append_24 : decode cX8_append 24 = .ok (.if_icmp .ne 11, 3) := by decide +kernel
theorem dX8_append_27 : decode cX8_append 27 = .ok (.aload_n 0, 1) := by decide +kernel
theorem dX8_append_28 : decode cX8_append 28 = .ok (.sipush (-10004), 3) := by decide +kernel
theorem dX8_append_31 : decode cX8_append 31 = .ok (.invokevirtual 45, 3) := by decide +kernel
theorem dX8_append_34 : decode cX8_append 34 = .ok (.ireturn, 1) := by decide +kernel
theorem dX8_append_35 : decode cX8_append 35 = .ok (.aload_n 0, 1) := by decide +kernel
theorem dX8_append_36 : decode cX8_append 36 = .ok (.getfield 22, 3) := by decide +kernel
theorem dX8_append_39 : decode cX8_append 39 = .ok (.aload_n 0, 1) := by decide +kernel
theorem dX8_append_40 : decode cX8_append 40 = .ok (.getfield 157, 3) := by decide +kernel
theorem dX8_append_43 : decode cX8_append 43 = .ok (.iload_n 1, 1) := by decide +kernel
theorem dX8_append_44 : decode cX8_append 44 = .ok (.i2b, 1) := by decide +kernel
theorem dX8_append_45 : decode cX8_append 45 = .ok (.bastore, 1) := by decide +kernel
theorem dX8_append_46 : decode cX8_append 46 = .ok (.aload_n 0, 1) := by decide +kernel
theorem dX8_append_47 : decode cX8_append 47 = .ok (.dup, 1) := by decide +kernel
theorem dX8_append_48 : decode cX8_append 48 = .ok (.getfield 157, 3) := by decide +kernel
theorem dX8_append_51 : decode cX8_append 51 = .ok (.iconst 1, 1) := by decide +kernel
theorem dX8_append_52 : decode cX8_append 52 = .ok (.iadd, 1) := by decide +kernel
theorem dX8_append_53 : decode cX8_append 53 = .ok (.putfield 157, 3) := by decide +kernel
theorem dX8_append_56 : decode cX8_append 56 = .ok (.aload_n 0, 1) := by decide +kernel
theorem dX8_append_57 : decode cX8_append 57 = .ok (.getfield 157, 3) := by decide +kernel
theorem dX8_append_60 : decode cX8_append 60 = .ok (.ireturn, 1) := by decide +kernel
theorem dX8_clearText_0 : decode cX8_clearText 0 = .ok (.aload_n 0, 1) := by decide +kernel
theorem dX8_clearText_1 : decode cX8_clearText 1 = .ok (.getfield 157, 3) := by decide +kernel
theorem dX8_clearText_4 : decode cX8_clearText 4 = .ok (.istore_n 1, 1) := by decide +kernel
theorem dX8_clearText_5 : decode cX8_clearText 5 = .ok (.aload_n 0, 1) := by decide +kernel
theorem dX8_clearText_6 : decode cX8_clearText 6 = .ok (.iconst 0, 1) := by decide +kernel
theorem dX8_clearText_7 : decode cX8_clearText 7 = .ok (.putfield 157, 3) := by decide +kernel
theorem dX8_clearText_10 : decode cX8_clearText 10 = .ok (.iload_n 1, 1) := by decide +kernel
theorem dX8_clearText_11 : decode cX8_clearText 11 = .ok (.ireturn, 1) := by decide +kernel
theorem dX8_here_0 : decode cX8_here 0 = .ok (.aload_n 0, 1) := by decide +kernel
theorem dX8_here_1 : decode cX8_here 1 = .ok (.getfield 160, 3) := by decide +kernel
theorem dX8_here_4 : decode cX8_here 4 = .ok (.aload_n 0, 1) := by decide +kernel
theorem dX8_here_5 : decode cX8_here 5 = .ok (.getfield 157, 3) := by decide +kernel
theorem dX8_here_8 : decode cX8_here 8 = .ok (.if_icmp .ge 15, 3) := by decide +kernel
theorem dX8_here_11 : decode cX8_here 11 = .ok (.aload_n 0, 1) := by decide +kernel
theorem dX8_here_12 : decode cX8_here 12 = .ok (.getfield 22, 3) := by decide +kernel
theorem dX8_here_15 : decode cX8_here 15 = .ok (.aload_n 0, 1) := by decide +kernel
theorem dX8_here_16 : decode cX8_here 16 = .ok (.getfield 160, 3) := by decide +kernel
theorem dX8_here_19 : decode cX8_here 19 = .ok (.baload, 1) := by decide +kernel
theorem dX8_here_20 : decode cX8_here 20 = .ok (.goto 4, 3) := by decide +kernel
theorem dX8_here_23 : decode cX8_here 23 = .ok (.iconst (-1), 1) := by decide +kernel
theorem dX8_here_24 : decode cX8_here 24 = .ok (.ireturn, 1) := by decide +kernel
theorem dX8_skip_0 : decode cX8_skip 0 = .ok (.aload_n 0, 1) := by decide +kernel
theorem dX8_skip_1 : decode cX8_skip 1 = .ok (.invokevirtual 163, 3) := by decide +kernel
theorem dX8_skip_4 : decode cX8_skip 4 = .ok (.bipush 32, 2) := by decide +kernel
theorem dX8_skip_6 : decode cX8_skip 6 = .ok (.if_icmp .ne 16, 3) := by decide +kernel
theorem dX8_skip_9 : decode cX8_skip 9 = .ok (.aload_n 0, 1) := by decide +kernel
theorem dX8_skip_10 : decode cX8_skip 10 = .ok (.dup, 1) := by decide +kernel
theorem dX8_skip_11 : decode cX8_skip 11 = .ok (.getfield 160, 3) := by decide +kernel
theorem dX8_skip_14 : decode cX8_skip 14 = .ok (.iconst 1, 1) := by decide +kernel
theorem dX8_skip_15 : decode cX8_skip 15 = .ok (.iadd, 1) := by decide +kernel
theorem dX8_skip_16 : decode cX8_skip 16 = .ok (.putfield 160, 3) := by decide +kernel
theorem dX8_skip_19 : decode cX8_skip 19 = .ok (.goto (-19), 3) := by decide +kernel
theorem dX8_skip_22 : decode cX8_skip 22 = .ok (.return_, 1) := by decide +kernel
theorem dX8_numbersOf_0 : decode cX8_numbersOf 0 = .ok (.iload_n 0, 1) := by decide +kernel
theorem dX8_numbersOf_1 : decode cX8_numbersOf 1 = .ok (.tableswitch 103 101 120 #[101, 97, 103, 103, 103, 103, 103, 95, 103, 103, 103, 103, 103, 95, 103, 103, 103, 103, 95, 99], 95) := by decide +kernel
theorem dX8_numbersOf_96 : decode cX8_numbersOf 96 = .ok (.iconst 2, 1) := by decide +kernel
theorem dX8_numbersOf_97 : decode cX8_numbersOf 97 = .ok (.ireturn, 1) := by decide +kernel
theorem dX8_numbersOf_98 : decode cX8_numbersOf 98 = .ok (.iconst 4, 1) := by decide +kernel
theorem dX8_numbersOf_99 : decode cX8_numbersOf 99 = .ok (.ireturn, 1) := by decide +kernel
theorem dX8_numbersOf_100 : decode cX8_numbersOf 100 = .ok (.iconst 1, 1) := by decide +kernel
theorem dX8_numbersOf_101 : decode cX8_numbersOf 101 = .ok (.ireturn, 1) := by decide +kernel
theorem dX8_numbersOf_102 : decode cX8_numbersOf 102 = .ok (.iconst 0, 1) := by decide +kernel
theorem dX8_numbersOf_103 : decode cX8_numbersOf 103 = .ok (.ireturn, 1) := by decide +kernel
theorem dX8_numbersOf_104 : decode cX8_numbersOf 104 = .ok (.iconst (-1), 1) := by decide +kernel
theorem dX8_numbersOf_105 : decode cX8_numbersOf 105 = .ok (.ireturn, 1) := by decide +kernel
theorem dX8_readNumber_0 : decode cX8_readNumber 0 = .ok (.aload_n 0, 1) := by decide +kernel
theorem dX8_readNumber_1 : decode cX8_readNumber 1 = .ok (.invokevirtual 166, 3) := by decide +kernel
theorem dX8_readNumber_4 : decode cX8_readNumber 4 = .ok (.iload_n 1, 1) := by decide +kernel
theorem dX8_readNumber_5 : decode cX8_readNumber 5 = .ok (.ifCond .eq 16, 3) := by decide +kernel
theorem dX8_readNumber_8 : decode cX8_readNumber 8 = .ok (.aload_n 0, 1) := by decide +kernel
theorem dX8_readNumber_9 : decode cX8_readNumber 9 = .ok (.invokevirtual 163, 3) := by decide +kernel
theorem dX8_readNumber_12 : decode cX8_readNumber 12 = .ok (.bipush 45, 2) := by decide +kernel
theorem dX8_readNumber_14 : decode cX8_readNumber 14 = .ok (.if_icmp .ne 7, 3) := by decide +kernel
theorem dX8_readNumber_17 : decode cX8_readNumber 17 = .ok (.iconst 1, 1) := by decide +kernel
theorem dX8_readNumber_18 : decode cX8_readNumber 18 = .ok (.goto 4, 3) := by decide +kernel
theorem dX8_readNumber_21 : decode cX8_readNumber 21 = .ok (.iconst 0, 1) := by decide +kernel
theorem dX8_readNumber_22 : decode cX8_readNumber 22 = .ok (.istore_n 2, 1) := by decide +kernel
theorem dX8_readNumber_23 : decode cX8_readNumber 23 = .ok (.aload_n 0, 1) := by decide +kernel
theorem dX8_readNumber_24 : decode cX8_readNumber 24 = .ok (.dup, 1) := by decide +kernel
theorem dX8_readNumber_25 : decode cX8_readNumber 25 = .ok (.getfield 160, 3) := by decide +kernel
theorem dX8_readNumber_28 : decode cX8_readNumber 28 = .ok (.iload_n 2, 1) := by decide +kernel
theorem dX8_readNumber_29 : decode cX8_readNumber 29 = .ok (.ifCond .eq 7, 3) := by decide +kernel
theorem dX8_readNumber_32 : decode cX8_readNumber 32 = .ok (.iconst 1, 1) := by decide +kernel
theorem dX8_readNumber_33 : decode cX8_readNumber 33 = .ok (.goto 4, 3) := by decide +kernel
theorem dX8_readNumber_36 : decode cX8_readNumber 36 = .ok (.iconst 0, 1) := by decide +kernel
theorem dX8_readNumber_37 : decode cX8_readNumber 37 = .ok (.iadd, 1) := by decide +kernel
theorem dX8_readNumber_38 : decode cX8_readNumber 38 = .ok (.putfield 160, 3) := by decide +kernel
theorem dX8_readNumber_41 : decode cX8_readNumber 41 = .ok (.iconst 0, 1) := by decide +kernel
theorem dX8_readNumber_42 : decode cX8_readNumber 42 = .ok (.istore_n 3, 1) := by decide +kernel
theorem dX8_readNumber_43 : decode cX8_readNumber 43 = .ok (.iconst 0, 1) := by decide +kernel
theorem dX8_readNumber_44 : decode cX8_readNumber 44 = .ok (.istore 4, 2) := by decide +kernel
theorem dX8_readNumber_46 : decode cX8_readNumber 46 = .ok (.aload_n 0, 1) := by decide +kernel
theorem dX8_readNumber_47 : decode cX8_readNumber 47 = .ok (.invokevirtual 163, 3) := by decide +kernel
theorem dX8_readNumber_50 : decode cX8_readNumber 50 = .ok (.bipush 48, 2) := by decide +kernel
theorem dX8_readNumber_52 : decode cX8_readNumber 52 = .ok (.bipush 57, 2) := by decide +kernel
theorem dX8_readNumber_54 : decode cX8_readNumber 54 = .ok (.invokestatic 37, 3) := by decide +kernel
theorem dX8_readNumber_57 : decode cX8_readNumber 57 = .ok (.ifCond .eq 38, 3) := by decide +kernel
theorem dX8_readNumber_60 : decode cX8_readNumber 60 = .ok (.iload 4, 2) := by decide +kernel
theorem dX8_readNumber_62 : decode cX8_readNumber 62 = .ok (.iconst 2, 1) := by decide +kernel
theorem dX8_readNumber_63 : decode cX8_readNumber 63 = .ok (.if_icmp .ge 32, 3) := by decide +kernel
theorem dX8_readNumber_66 : decode cX8_readNumber 66 = .ok (.bipush 10, 2) := by decide +kernel
theorem dX8_readNumber_68 : decode cX8_readNumber 68 = .ok (.iload_n 3, 1) := by decide +kernel
theorem dX8_readNumber_69 : decode cX8_readNumber 69 = .ok (.imul, 1) := by decide +kernel
theorem dX8_readNumber_70 : decode cX8_readNumber 70 = .ok (.aload_n 0, 1) := by decide +kernel
theorem dX8_readNumber_71 : decode cX8_readNumber 71 = .ok (.invokevirtual 163, 3) := by decide +kernel
theorem dX8_readNumber_74 : decode cX8_readNumber 74 = .ok (.iadd, 1) := by decide +kernel
theorem dX8_readNumber_75 : decode cX8_readNumber 75 = .ok (.bipush 48, 2) := by decide +kernel
theorem dX8_readNumber_77 : decode cX8_readNumber 77 = .ok (.isub, 1) := by decide +kernel
theorem dX8_readNumber_78 : decode cX8_readNumber 78 = .ok (.istore_n 3, 1) := by decide +kernel
theorem dX8_readNumber_79 : decode cX8_readNumber 79 = .ok (.aload_n 0, 1) := by decide +kernel
theorem dX8_readNumber_80 : decode cX8_readNumber 80 = .ok (.dup, 1) := by decide +kernel
theorem dX8_readNumber_81 : decode cX8_readNumber 81 = .ok (.getfield 160, 3) := by decide +kernel
theorem dX8_readNumber_84 : decode cX8_readNumber 84 = .ok (.iconst 1, 1) := by decide +kernel
theorem dX8_readNumber_85 : decode cX8_readNumber 85 = .ok (.iadd, 1) := by decide +kernel
theorem dX8_readNumber_86 : decode cX8_readNumber 86 = .ok (.putfield 160, 3) := by decide +kernel
theorem dX8_readNumber_89 : decode cX8_readNumber 89 = .ok (.iinc 4 1, 3) := by decide +kernel
theorem dX8_readNumber_92 : decode cX8_readNumber 92 = .ok (.goto (-46), 3) := by decide +kernel
theorem dX8_readNumber_95 : decode cX8_readNumber 95 = .ok (.aload_n 0, 1) := by decide +kernel
theorem dX8_readNumber_96 : decode cX8_readNumber 96 = .ok (.iload 4, 2) := by decide +kernel
theorem dX8_readNumber_98 : decode cX8_readNumber 98 = .ok (.ifCond .eq 17, 3) := by decide +kernel
theorem dX8_readNumber_101 : decode cX8_readNumber 101 = .ok (.aload_n 0, 1) := by decide +kernel
theorem dX8_readNumber_102 : decode cX8_readNumber 102 = .ok (.invokevirtual 163, 3) := by decide +kernel
theorem dX8_readNumber_105 : decode cX8_readNumber 105 = .ok (.bipush 48, 2) := by decide +kernel
theorem dX8_readNumber_107 : decode cX8_readNumber 107 = .ok (.bipush 57, 2) := by decide +kernel
theorem dX8_readNumber_109 : decode cX8_readNumber 109 = .ok (.invokestatic 37, 3) := by decide +kernel
theorem dX8_readNumber_112 : decode cX8_readNumber 112 = .ok (.ifCond .eq 7, 3) := by decide +kernel
theorem dX8_readNumber_115 : decode cX8_readNumber 115 = .ok (.iconst 1, 1) := by decide +kernel
theorem dX8_readNumber_116 : decode cX8_readNumber 116 = .ok (.goto 4, 3) := by decide +kernel
theorem dX8_readNumber_119 : decode cX8_readNumber 119 = .ok (.iconst 0, 1) := by decide +kernel
theorem dX8_readNumber_120 : decode cX8_readNumber 120 = .ok (.putfield 169, 3) := by decide +kernel
theorem dX8_readNumber_123 : decode cX8_readNumber 123 = .ok (.iload_n 2, 1) := by decide +kernel
theorem dX8_readNumber_124 : decode cX8_readNumber 124 = .ok (.ifCond .eq 8, 3) := by decide +kernel
theorem dX8_readNumber_127 : decode cX8_readNumber 127 = .ok (.iload_n 3, 1) := by decide +kernel
theorem dX8_readNumber_128 : decode cX8_readNumber 128 = .ok (.ineg, 1) := by decide +kernel
theorem dX8_readNumber_129 : decode cX8_readNumber 129 = .ok (.goto 4, 3) := by decide +kernel
theorem dX8_readNumber_132 : decode cX8_readNumber 132 = .ok (.iload_n 3, 1) := by decide +kernel
theorem dX8_readNumber_133 : decode cX8_readNumber 133 = .ok (.ireturn, 1) := by decide +kernel
theorem dX8_readCommand_0 : decode cX8_readCommand 0 = .ok (.aload_n 0, 1) := by decide +kernel
theorem dX8_readCommand_1 : decode cX8_readCommand 1 = .ok (.invokevirtual 166, 3) := by decide +kernel
theorem dX8_readCommand_4 : decode cX8_readCommand 4 = .ok (.aload_n 0, 1) := by decide +kernel
theorem dX8_readCommand_5 : decode cX8_readCommand 5 = .ok (.invokevirtual 163, 3) := by decide +kernel
theorem dX8_readCommand_8 : decode cX8_readCommand 8 = .ok (.istore_n 1, 1) := by decide +kernel
theorem dX8_readCommand_9 : decode cX8_readCommand 9 = .ok (.iload_n 1, 1) := by decide +kernel
theorem dX8_readCommand_10 : decode cX8_readCommand 10 = .ok (.invokestatic 172, 3) := by decide +kernel
theorem dX8_readCommand_13 : decode cX8_readCommand 13 = .ok (.istore_n 2, 1) := by decide +kernel
theorem dX8_readCommand_14 : decode cX8_readCommand 14 = .ok (.aload_n 0, 1) := by decide +kernel
theorem dX8_readCommand_15 : decode cX8_readCommand 15 = .ok (.iload_n 2, 1) := by decide +kernel
theorem dX8_readCommand_16 : decode cX8_readCommand 16 = .ok (.ifCond .ge 7, 3) := by decide +kernel
theorem dX8_readCommand_19 : decode cX8_readCommand 19 = .ok (.iconst 1, 1) := by decide +kernel
theorem dX8_readCommand_20 : decode cX8_readCommand 20 = .ok (.goto 4, 3) := by decide +kernel
theorem dX8_readCommand_23 : decode cX8_readCommand 23 = .ok (.iconst 0, 1) := by decide +kernel
theorem dX8_readCommand_24 : decode cX8_readCommand 24 = .ok (.putfield 169, 3) := by decide +kernel
theorem dX8_readCommand_27 : decode cX8_readCommand 27 = .ok (.aload_n 0, 1) := by decide +kernel
theorem dX8_readCommand_28 : decode cX8_readCommand 28 = .ok (.getfield 169, 3) := by decide +kernel
theorem dX8_readCommand_31 : decode cX8_readCommand 31 = .ok (.ifCond .eq 4, 3) := by decide +kernel
theorem dX8_readCommand_34 : decode cX8_readCommand 34 = .ok (.return_, 1) := by decide +kernel
theorem dX8_readCommand_35 : decode cX8_readCommand 35 = .ok (.aload_n 0, 1) := by decide +kernel
theorem dX8_readCommand_36 : decode cX8_readCommand 36 = .ok (.dup, 1) := by decide +kernel
theorem dX8_readCommand_37 : decode cX8_readCommand 37 = .ok (.getfield 160, 3) := by decide +kernel
theorem dX8_readCommand_40 : decode cX8_readCommand 40 = .ok (.iconst 1, 1) := by decide +kernel
theorem dX8_readCommand_41 : decode cX8_readCommand 41 = .ok (.iadd, 1) := by decide +kernel
theorem dX8_readCommand_42 : decode cX8_readCommand 42 = .ok (.putfield 160, 3) := by decide +kernel
theorem dX8_readCommand_45 : decode cX8_readCommand 45 = .ok (.iconst 5, 1) := by decide +kernel
theorem dX8_readCommand_46 : decode cX8_readCommand 46 = .ok (.aload_n 0, 1) := by decide +kernel
theorem dX8_readCommand_47 : decode cX8_readCommand 47 = .ok (.getfield 175, 3) := by decide +kernel
theorem dX8_readCommand_50 : decode cX8_readCommand 50 = .ok (.imul, 1) := by decide +kernel
theorem dX8_readCommand_51 : decode cX8_readCommand 51 = .ok (.istore_n 3, 1) := by decide +kernel
theorem dX8_readCommand_52 : decode cX8_readCommand 52 = .ok (.aload_n 0, 1) := by decide +kernel
theorem dX8_readCommand_53 : decode cX8_readCommand 53 = .ok (.getfield 26, 3) := by decide +kernel
theorem dX8_readCommand_56 : decode cX8_readCommand 56 = .ok (.iload_n 3, 1) := by decide +kernel
theorem dX8_readCommand_57 : decode cX8_readCommand 57 = .ok (.iload_n 1, 1) := by decide +kernel
theorem dX8_readCommand_58 : decode cX8_readCommand 58 = .ok (.iastore, 1) := by decide +kernel
theorem dX8_readCommand_59 : decode cX8_readCommand 59 = .ok (.iconst 0, 1) := by decide +kernel
theorem dX8_readCommand_60 : decode cX8_readCommand 60 = .ok (.istore 4, 2) := by decide +kernel
theorem dX8_readCommand_62 : decode cX8_readCommand 62 = .ok (.iload 4, 2) := by decide +kernel
theorem dX8_readCommand_64 : decode cX8_readCommand 64 = .ok (.iload_n 2, 1) := by decide +kernel
theorem dX8_readCommand_65 : decode cX8_readCommand 65 = .ok (.if_icmp .ge 48, 3) := by decide +kernel
theorem dX8_readCommand_68 : decode cX8_readCommand 68 = .ok (.aload_n 0, 1) := by decide +kernel
theorem dX8_readCommand_69 : decode cX8_readCommand 69 = .ok (.getfield 169, 3) := by decide +kernel
theorem dX8_readCommand_72 : decode cX8_readCommand 72 = .ok (.ifCond .ne 41, 3) := by decide +kernel
theorem dX8_readCommand_75 : decode cX8_readCommand 75 = .ok (.aload_n 0, 1) := by decide +kernel
theorem dX8_readCommand_76 : decode cX8_readCommand 76 = .ok (.getfield 26, 3) := by decide +kernel
theorem dX8_readCommand_79 : decode cX8_readCommand 79 = .ok (.iload_n 3, 1) := by decide +kernel
theorem dX8_readCommand_80 : decode cX8_readCommand 80 = .ok (.iconst 1, 1) := by decide +kernel
theorem dX8_readCommand_81 : decode cX8_readCommand 81 = .ok (.iadd, 1) := by decide +kernel
theorem dX8_readCommand_82 : decode cX8_readCommand 82 = .ok (.iload 4, 2) := by decide +kernel
theorem dX8_readCommand_84 : decode cX8_readCommand 84 = .ok (.iadd, 1) := by decide +kernel
theorem dX8_readCommand_85 : decode cX8_readCommand 85 = .ok (.aload_n 0, 1) := by decide +kernel
theorem dX8_readCommand_86 : decode cX8_readCommand 86 = .ok (.iload_n 1, 1) := by decide +kernel
theorem dX8_readCommand_87 : decode cX8_readCommand 87 = .ok (.bipush 102, 2) := by decide +kernel
theorem dX8_readCommand_89 : decode cX8_readCommand 89 = .ok (.if_icmp .ne 13, 3) := by decide +kernel
theorem dX8_readCommand_92 : decode cX8_readCommand 92 = .ok (.iload 4, 2) := by decide +kernel
theorem dX8_readCommand_94 : decode cX8_readCommand 94 = .ok (.iconst 3, 1) := by decide +kernel
theorem dX8_readCommand_95 : decode cX8_readCommand 95 = .ok (.if_icmp .ne 7, 3) := by decide +kernel
theorem dX8_readCommand_98 : decode cX8_readCommand 98 = .ok (.iconst 1, 1) := by decide +kernel
theorem dX8_readCommand_99 : decode cX8_readCommand 99 = .ok (.goto 4, 3) := by decide +kernel
theorem dX8_readCommand_102 : decode cX8_readCommand 102 = .ok (.iconst 0, 1) := by decide +kernel
theorem dX8_readCommand_103 : decode cX8_readCommand 103 = .ok (.invokevirtual 178, 3) := by decide +kernel
theorem dX8_readCommand_106 : decode cX8_readCommand 106 = .ok (.iastore, 1) := by decide +kernel
theorem dX8_readCommand_107 : decode cX8_readCommand 107 = .ok (.iinc 4 1, 3) := by decide +kernel
theorem dX8_readCommand_110 : decode cX8_readCommand 110 = .ok (.goto (-48), 3) := by decide +kernel
theorem dX8_readCommand_113 : decode cX8_readCommand 113 = .ok (.aload_n 0, 1) := by decide +kernel
theorem dX8_readCommand_114 : decode cX8_readCommand 114 = .ok (.getfield 169, 3) := by decide +kernel
theorem dX8_readCommand_117 : decode cX8_readCommand 117 = .ok (.ifCond .eq 4, 3) := by decide +kernel
theorem dX8_readCommand_120 : decode cX8_readCommand 120 = .ok (.return_, 1) := by decide +kernel
theorem dX8_readCommand_121 : decode cX8_readCommand 121 = .ok (.aload_n 0, 1) := by decide +kernel
theorem dX8_readCommand_122 : decode cX8_readCommand 122 = .ok (.invokevirtual 166, 3) := by decide +kernel
theorem dX8_readCommand_125 : decode cX8_readCommand 125 = .ok (.aload_n 0, 1) := by decide +kernel
theorem dX8_readCommand_126 : decode cX8_readCommand 126 = .ok (.aload_n 0, 1) := by decide +kernel
theorem dX8_readCommand_127 : decode cX8_readCommand 127 = .ok (.invokevirtual 163, 3) := by decide +kernel
theorem dX8_readCommand_130 : decode cX8_readCommand 130 = .ok (.bipush 59, 2) := by decide +kernel
theorem dX8_readCommand_132 : decode cX8_readCommand 132 = .ok (.if_icmp .eq 7, 3) := by decide +kernel
theorem dX8_readCommand_135 : decode cX8_readCommand 135 = .ok (.iconst 1, 1) := by decide +kernel
theorem dX8_readCommand_136 : decode cX8_readCommand 136 = .ok (.goto 4, 3) := by decide +kernel
theorem dX8_readCommand_139 : decode cX8_readCommand 139 = .ok (.iconst 0, 1) := by decide +kernel
theorem dX8_readCommand_140 : decode cX8_readCommand 140 = .ok (.putfield 169, 3) := by decide +kernel
theorem dX8_readCommand_143 : decode cX8_readCommand 143 = .ok (.aload_n 0, 1) := by decide +kernel
theorem dX8_readCommand_144 : decode cX8_readCommand 144 = .ok (.dup, 1) := by decide +kernel
theorem dX8_readCommand_145 : decode cX8_readCommand 145 = .ok (.getfield 160, 3) := by decide +kernel
theorem dX8_readCommand_148 : decode cX8_readCommand 148 = .ok (.aload_n 0, 1) := by decide +kernel
theorem dX8_readCommand_149 : decode cX8_readCommand 149 = .ok (.getfield 169, 3) := by decide +kernel
theorem dX8_readCommand_152 : decode cX8_readCommand 152 = .ok (.ifCond .eq 7, 3) := by decide +kernel
theorem dX8_readCommand_155 : decode cX8_readCommand 155 = .ok (.iconst 0, 1) := by decide +kernel
theorem dX8_readCommand_156 : decode cX8_readCommand 156 = .ok (.goto 4, 3) := by decide +kernel
theorem dX8_readCommand_159 : decode cX8_readCommand 159 = .ok (.iconst 1, 1) := by decide +kernel
theorem dX8_readCommand_160 : decode cX8_readCommand 160 = .ok (.iadd, 1) := by decide +kernel
theorem dX8_readCommand_161 : decode cX8_readCommand 161 = .ok (.putfield 160, 3) := by decide +kernel
theorem dX8_readCommand_164 : decode cX8_readCommand 164 = .ok (.aload_n 0, 1) := by decide +kernel
theorem dX8_readCommand_165 : decode cX8_readCommand 165 = .ok (.dup, 1) := by decide +kernel
theorem dX8_readCommand_166 : decode cX8_readCommand 166 = .ok (.getfield 175, 3) := by decide +kernel
theorem dX8_readCommand_169 : decode cX8_readCommand 169 = .ok (.iconst 1, 1) := by decide +kernel
theorem dX8_readCommand_170 : decode cX8_readCommand 170 = .ok (.iadd, 1) := by decide +kernel
theorem dX8_readCommand_171 : decode cX8_readCommand 171 = .ok (.putfield 175, 3) := by decide +kernel
theorem dX8_readCommand_174 : decode cX8_readCommand 174 = .ok (.return_, 1) := by decide +kernel
theorem dX8_execute_0 : decode cX8_execute 0 = .ok (.aload_n 0, 1) := by decide +kernel
theorem dX8_execute_1 : decode cX8_execute 1 = .ok (.getfield 26, 3) := by decide +kernel
theorem dX8_execute_4 : decode cX8_execute 4 = .ok (.iload_n 1, 1) := by decide +kernel
theorem dX8_execute_5 : decode cX8_execute 5 = .ok (.iconst 1, 1) := by decide +kernel
theorem dX8_execute_6 : decode cX8_execute 6 = .ok (.iadd, 1) := by decide +kernel
theorem dX8_execute_7 : decode cX8_execute 7 = .ok (.iaload, 1) := by decide +kernel
theorem dX8_execute_8 : decode cX8_execute 8 = .ok (.istore_n 2, 1) := by decide +kernel
theorem dX8_execute_9 : decode cX8_execute 9 = .ok (.aload_n 0, 1) := by decide +kernel
theorem dX8_execute_10 : decode cX8_execute 10 = .ok (.getfield 26, 3) := by decide +kernel
theorem dX8_execute_13 : decode cX8_execute 13 = .ok (.iload_n 1, 1) := by decide +kernel
theorem dX8_execute_14 : decode cX8_execute 14 = .ok (.iconst 2, 1) := by decide +kernel
theorem dX8_execute_15 : decode cX8_execute 15 = .ok (.iadd, 1) := by decide +kernel
theorem dX8_execute_16 : decode cX8_execute 16 = .ok (.iaload, 1) := by decide +kernel
theorem dX8_execute_17 : decode cX8_execute 17 = .ok (.istore_n 3, 1) := by decide +kernel
theorem dX8_execute_18 : decode cX8_execute 18 = .ok (.aload_n 0, 1) := by decide +kernel
theorem dX8_execute_19 : decode cX8_execute 19 = .ok (.getfield 26, 3) := by decide +kernel
theorem dX8_execute_22 : decode cX8_execute 22 = .ok (.iload_n 1, 1) := by decide +kernel
theorem dX8_execute_23 : decode cX8_execute 23 = .ok (.iaload, 1) := by decide +kernel
theorem dX8_execute_24 : decode cX8_execute 24 = .ok (.lookupswitch 102 #[(102, 66), (108, 52), (114, 59), (119, 95), (120, 89)], 52) := by decide +kernel
theorem dX8_execute_76 : decode cX8_execute 76 = .ok (.aload_n 0, 1) := by decide +kernel
theorem dX8_execute_77 : decode cX8_execute 77 = .ok (.iload_n 2, 1) := by decide +kernel
theorem dX8_execute_78 : decode cX8_execute 78 = .ok (.iload_n 3, 1) := by decide +kernel
theorem dX8_execute_79 : decode cX8_execute 79 = .ok (.invokevirtual 182, 3) := by decide +kernel
theorem dX8_execute_82 : decode cX8_execute 82 = .ok (.ireturn, 1) := by decide +kernel
theorem dX8_execute_83 : decode cX8_execute 83 = .ok (.aload_n 0, 1) := by decide +kernel
theorem dX8_execute_84 : decode cX8_execute 84 = .ok (.iload_n 2, 1) := by decide +kernel
theorem dX8_execute_85 : decode cX8_execute 85 = .ok (.iload_n 3, 1) := by decide +kernel
theorem dX8_execute_86 : decode cX8_execute 86 = .ok (.invokevirtual 185, 3) := by decide +kernel
theorem dX8_execute_89 : decode cX8_execute 89 = .ok (.ireturn, 1) := by decide +kernel
theorem dX8_execute_90 : decode cX8_execute 90 = .ok (.aload_n 0, 1) := by decide +kernel
theorem dX8_execute_91 : decode cX8_execute 91 = .ok (.iload_n 2, 1) := by decide +kernel
theorem dX8_execute_92 : decode cX8_execute 92 = .ok (.iload_n 3, 1) := by decide +kernel
theorem dX8_execute_93 : decode cX8_execute 93 = .ok (.aload_n 0, 1) := by decide +kernel
theorem dX8_execute_94 : decode cX8_execute 94 = .ok (.getfield 26, 3) := by decide +kernel
theorem dX8_execute_97 : decode cX8_execute 97 = .ok (.iload_n 1, 1) := by decide +kernel
theorem dX8_execute_98 : decode cX8_execute 98 = .ok (.iconst 3, 1) := by decide +kernel
theorem dX8_execute_99 : decode cX8_execute 99 = .ok (.iadd, 1) := by decide +kernel
theorem dX8_execute_100 : decode cX8_execute 100 = .ok (.iaload, 1) := by decide +kernel
theorem dX8_execute_101 : decode cX8_execute 101 = .ok (.aload_n 0, 1) := by decide +kernel
theorem dX8_execute_102 : decode cX8_execute 102 = .ok (.getfield 26, 3) := by decide +kernel
theorem dX8_execute_105 : decode cX8_execute 105 = .ok (.iload_n 1, 1) := by decide +kernel
theorem dX8_execute_106 : decode cX8_execute 106 = .ok (.iconst 4, 1) := by decide +kernel
theorem dX8_execute_107 : decode cX8_execute 107 = .ok (.iadd, 1) := by decide +kernel
theorem dX8_execute_108 : decode cX8_execute 108 = .ok (.iaload, 1) := by decide +kernel
theorem dX8_execute_109 : decode cX8_execute 109 = .ok (.invokevirtual 188, 3) := by decide +kernel
theorem dX8_execute_112 : decode cX8_execute 112 = .ok (.ireturn, 1) := by decide +kernel
theorem dX8_execute_113 : decode cX8_execute 113 = .ok (.aload_n 0, 1) := by decide +kernel
theorem dX8_execute_114 : decode cX8_execute 114 = .ok (.iload_n 2, 1) := by decide +kernel
theorem dX8_execute_115 : decode cX8_execute 115 = .ok (.invokevirtual 192, 3) := by decide +kernel
theorem dX8_execute_118 : decode cX8_execute 118 = .ok (.ireturn, 1) := by decide +kernel
theorem dX8_execute_119 : decode cX8_execute 119 = .ok (.aload_n 0, 1) := by decide +kernel
theorem dX8_execute_120 : decode cX8_execute 120 = .ok (.iload_n 2, 1) := by decide +kernel
theorem dX8_execute_121 : decode cX8_execute 121 = .ok (.iload_n 3, 1) := by decide +kernel
theorem dX8_execute_122 : decode cX8_execute 122 = .ok (.invokevirtual 195, 3) := by decide +kernel
theorem dX8_execute_125 : decode cX8_execute 125 = .ok (.ireturn, 1) := by decide +kernel
theorem dX8_execute_126 : decode cX8_execute 126 = .ok (.aload_n 0, 1) := by decide +kernel
theorem dX8_execute_127 : decode cX8_execute 127 = .ok (.invokevirtual 198, 3) := by decide +kernel
theorem dX8_execute_130 : decode cX8_execute 130 = .ok (.ireturn, 1) := by decide +kernel
theorem dX8_runScript_0 : decode cX8_runScript 0 = .ok (.aload_n 0, 1) := by decide +kernel
theorem dX8_runScript_1 : decode cX8_runScript 1 = .ok (.iconst 0, 1) := by decide +kernel
theorem dX8_runScript_2 : decode cX8_runScript 2 = .ok (.putfield 160, 3) := by decide +kernel
theorem dX8_runScript_5 : decode cX8_runScript 5 = .ok (.aload_n 0, 1) := by decide +kernel
theorem dX8_runScript_6 : decode cX8_runScript 6 = .ok (.iconst 0, 1) := by decide +kernel
theorem dX8_runScript_7 : decode cX8_runScript 7 = .ok (.putfield 175, 3) := by decide +kernel
theorem dX8_runScript_10 : decode cX8_runScript 10 = .ok (.aload_n 0, 1) := by decide +kernel
theorem dX8_runScript_11 : decode cX8_runScript 11 = .ok (.invokevirtual 201, 3) := by decide +kernel
theorem dX8_runScript_14 : decode cX8_runScript 14 = .ok (.aload_n 0, 1) := by decide +kernel
theorem dX8_runScript_15 : decode cX8_runScript 15 = .ok (.getfield 169, 3) := by decide +kernel
theorem dX8_runScript_18 : decode cX8_runScript 18 = .ok (.ifCond .ne 7, 3) := by decide +kernel
theorem dX8_runScript_21 : decode cX8_runScript 21 = .ok (.aload_n 0, 1) := by decide +kernel
theorem dX8_runScript_22 : decode cX8_runScript 22 = .ok (.invokevirtual 166, 3) := by decide +kernel
theorem dX8_runScript_25 : decode cX8_runScript 25 = .ok (.aload_n 0, 1) := by decide +kernel
theorem dX8_runScript_26 : decode cX8_runScript 26 = .ok (.getfield 169, 3) := by decide +kernel
theorem dX8_runScript_29 : decode cX8_runScript 29 = .ok (.ifCond .ne 10, 3) := by decide +kernel
theorem dX8_runScript_32 : decode cX8_runScript 32 = .ok (.aload_n 0, 1) := by decide +kernel
theorem dX8_runScript_33 : decode cX8_runScript 33 = .ok (.invokevirtual 163, 3) := by decide +kernel
theorem dX8_runScript_36 : decode cX8_runScript 36 = .ok (.ifCond .ge (-26), 3) := by decide +kernel
theorem dX8_runScript_39 : decode cX8_runScript 39 = .ok (.aload_n 0, 1) := by decide +kernel
theorem dX8_runScript_40 : decode cX8_runScript 40 = .ok (.getfield 169, 3) := by decide +kernel
theorem dX8_runScript_43 : decode cX8_runScript 43 = .ok (.ifCond .eq 11, 3) := by decide +kernel
theorem dX8_runScript_46 : decode cX8_runScript 46 = .ok (.bipush (-10), 2) := by decide +kernel
theorem dX8_runScript_48 : decode cX8_runScript 48 = .ok (.aload_n 0, 1) := by decide +kernel
theorem dX8_runScript_49 : decode cX8_runScript 49 = .ok (.getfield 160, 3) := by decide +kernel
theorem dX8_runScript_52 : decode cX8_runScript 52 = .ok (.isub, 1) := by decide +kernel
theorem dX8_runScript_53 : decode cX8_runScript 53 = .ok (.ireturn, 1) := by decide +kernel
theorem dX8_runScript_54 : decode cX8_runScript 54 = .ok (.iconst 0, 1) := by decide +kernel
theorem dX8_runScript_55 : decode cX8_runScript 55 = .ok (.istore_n 1, 1) := by decide +kernel
theorem dX8_runScript_56 : decode cX8_runScript 56 = .ok (.iload_n 1, 1) := by decide +kernel
theorem dX8_runScript_57 : decode cX8_runScript 57 = .ok (.bipush 52, 2) := by decide +kernel
theorem dX8_runScript_59 : decode cX8_runScript 59 = .ok (.if_icmp .ge 21, 3) := by decide +kernel
theorem dX8_runScript_62 : decode cX8_runScript 62 = .ok (.aload_n 0, 1) := by decide +kernel
theorem dX8_runScript_63 : decode cX8_runScript 63 = .ok (.getfield 13, 3) := by decide +kernel
theorem dX8_runScript_66 : decode cX8_runScript 66 = .ok (.iload_n 1, 1) := by decide +kernel
theorem dX8_runScript_67 : decode cX8_runScript 67 = .ok (.aload_n 0, 1) := by decide +kernel
theorem dX8_runScript_68 : decode cX8_runScript 68 = .ok (.getfield 7, 3) := by decide +kernel
theorem dX8_runScript_71 : decode cX8_runScript 71 = .ok (.iload_n 1, 1) := by decide +kernel
theorem dX8_runScript_72 : decode cX8_runScript 72 = .ok (.iaload, 1) := by decide +kernel
theorem dX8_runScript_73 : decode cX8_runScript 73 = .ok (.iastore, 1) := by decide +kernel
theorem dX8_runScript_74 : decode cX8_runScript 74 = .ok (.iinc 1 1, 3) := by decide +kernel
theorem dX8_runScript_77 : decode cX8_runScript 77 = .ok (.goto (-21), 3) := by decide +kernel
theorem dX8_runScript_80 : decode cX8_runScript 80 = .ok (.aload_n 0, 1) := by decide +kernel
theorem dX8_runScript_81 : decode cX8_runScript 81 = .ok (.iconst 1, 1) := by decide +kernel
theorem dX8_runScript_82 : decode cX8_runScript 82 = .ok (.putfield 29, 3) := by decide +kernel
theorem dX8_runScript_85 : decode cX8_runScript 85 = .ok (.iconst 0, 1) := by decide +kernel
theorem dX8_runScript_86 : decode cX8_runScript 86 = .ok (.istore_n 1, 1) := by decide +kernel
theorem dX8_runScript_87 : decode cX8_runScript 87 = .ok (.iload_n 1, 1) := by decide +kernel
theorem dX8_runScript_88 : decode cX8_runScript 88 = .ok (.aload_n 0, 1) := by decide +kernel
theorem dX8_runScript_89 : decode cX8_runScript 89 = .ok (.getfield 175, 3) := by decide +kernel
theorem dX8_runScript_92 : decode cX8_runScript 92 = .ok (.if_icmp .ge 19, 3) := by decide +kernel
theorem dX8_runScript_95 : decode cX8_runScript 95 = .ok (.aload_n 0, 1) := by decide +kernel
theorem dX8_runScript_96 : decode cX8_runScript 96 = .ok (.iconst 5, 1) := by decide +kernel
theorem dX8_runScript_97 : decode cX8_runScript 97 = .ok (.iload_n 1, 1) := by decide +kernel
theorem dX8_runScript_98 : decode cX8_runScript 98 = .ok (.imul, 1) := by decide +kernel
theorem dX8_runScript_99 : decode cX8_runScript 99 = .ok (.invokevirtual 204, 3) := by decide +kernel
theorem dX8_runScript_102 : decode cX8_runScript 102 = .ok (.ifCond .lt 9, 3) := by decide +kernel
theorem dX8_runScript_105 : decode cX8_runScript 105 = .ok (.iinc 1 1, 3) := by decide +kernel
theorem dX8_runScript_108 : decode cX8_runScript 108 = .ok (.goto (-21), 3) := by decide +kernel
theorem dX8_runScript_111 : decode cX8_runScript 111 = .ok (.aload_n 0, 1) := by decide +kernel
theorem dX8_runScript_112 : decode cX8_runScript 112 = .ok (.iconst 0, 1) := by decide +kernel
theorem dX8_runScript_113 : decode cX8_runScript 113 = .ok (.putfield 29, 3) := by decide +kernel
theorem dX8_runScript_116 : decode cX8_runScript 116 = .ok (.aload_n 0, 1) := by decide +kernel
theorem dX8_runScript_117 : decode cX8_runScript 117 = .ok (.iload_n 1, 1) := by decide +kernel
theorem dX8_runScript_118 : decode cX8_runScript 118 = .ok (.invokevirtual 207, 3) := by decide +kernel
theorem dX8_runScript_121 : decode cX8_runScript 121 = .ok (.ireturn, 1) := by decide +kernel
theorem dX8_ends_0 : decode cX8_ends 0 = .ok (.iload_n 1, 1) := by decide +kernel
theorem dX8_ends_1 : decode cX8_ends 1 = .ok (.aload_n 0, 1) := by decide +kernel
theorem dX8_ends_2 : decode cX8_ends 2 = .ok (.getfield 175, 3) := by decide +kernel
theorem dX8_ends_5 : decode cX8_ends 5 = .ok (.if_icmp .ge 7, 3) := by decide +kernel
theorem dX8_ends_8 : decode cX8_ends 8 = .ok (.iconst 1, 1) := by decide +kernel
theorem dX8_ends_9 : decode cX8_ends 9 = .ok (.goto 4, 3) := by decide +kernel
theorem dX8_ends_12 : decode cX8_ends 12 = .ok (.iconst 0, 1) := by decide +kernel
theorem dX8_ends_13 : decode cX8_ends 13 = .ok (.istore_n 2, 1) := by decide +kernel
theorem dX8_ends_14 : decode cX8_ends 14 = .ok (.iconst 0, 1) := by decide +kernel
theorem dX8_ends_15 : decode cX8_ends 15 = .ok (.istore_n 3, 1) := by decide +kernel
theorem dX8_ends_16 : decode cX8_ends 16 = .ok (.iload_n 3, 1) := by decide +kernel
theorem dX8_ends_17 : decode cX8_ends 17 = .ok (.bipush 52, 2) := by decide +kernel
theorem dX8_ends_19 : decode cX8_ends 19 = .ok (.if_icmp .ge 37, 3) := by decide +kernel
theorem dX8_ends_22 : decode cX8_ends 22 = .ok (.aload_n 0, 1) := by decide +kernel
theorem dX8_ends_23 : decode cX8_ends 23 = .ok (.getfield 7, 3) := by decide +kernel
theorem dX8_ends_26 : decode cX8_ends 26 = .ok (.iload_n 3, 1) := by decide +kernel
theorem dX8_ends_27 : decode cX8_ends 27 = .ok (.iaload, 1) := by decide +kernel
theorem dX8_ends_28 : decode cX8_ends 28 = .ok (.istore 4, 2) := by decide +kernel
theorem dX8_ends_30 : decode cX8_ends 30 = .ok (.aload_n 0, 1) := by decide +kernel
theorem dX8_ends_31 : decode cX8_ends 31 = .ok (.getfield 7, 3) := by decide +kernel
theorem dX8_ends_34 : decode cX8_ends 34 = .ok (.iload_n 3, 1) := by decide +kernel
theorem dX8_ends_35 : decode cX8_ends 35 = .ok (.aload_n 0, 1) := by decide +kernel
theorem dX8_ends_36 : decode cX8_ends 36 = .ok (.getfield 13, 3) := by decide +kernel
theorem dX8_ends_39 : decode cX8_ends 39 = .ok (.iload_n 3, 1) := by decide +kernel
theorem dX8_ends_40 : decode cX8_ends 40 = .ok (.iaload, 1) := by decide +kernel
theorem dX8_ends_41 : decode cX8_ends 41 = .ok (.iastore, 1) := by decide +kernel
theorem dX8_ends_42 : decode cX8_ends 42 = .ok (.aload_n 0, 1) := by decide +kernel
theorem dX8_ends_43 : decode cX8_ends 43 = .ok (.getfield 13, 3) := by decide +kernel
theorem dX8_ends_46 : decode cX8_ends 46 = .ok (.iload_n 3, 1) := by decide +kernel
theorem dX8_ends_47 : decode cX8_ends 47 = .ok (.iload 4, 2) := by decide +kernel
theorem dX8_ends_49 : decode cX8_ends 49 = .ok (.iastore, 1) := by decide +kernel
theorem dX8_ends_50 : decode cX8_ends 50 = .ok (.iinc 3 1, 3) := by decide +kernel
theorem dX8_ends_53 : decode cX8_ends 53 = .ok (.goto (-37), 3) := by decide +kernel
theorem dX8_ends_56 : decode cX8_ends 56 = .ok (.iload_n 2, 1) := by decide +kernel
theorem dX8_ends_57 : decode cX8_ends 57 = .ok (.ifCond .eq 9, 3) := by decide +kernel
theorem dX8_ends_60 : decode cX8_ends 60 = .ok (.sipush (-1000), 3) := by decide +kernel
theorem dX8_ends_63 : decode cX8_ends 63 = .ok (.iload_n 1, 1) := by decide +kernel
theorem dX8_ends_64 : decode cX8_ends 64 = .ok (.isub, 1) := by decide +kernel
theorem dX8_ends_65 : decode cX8_ends 65 = .ok (.ireturn, 1) := by decide +kernel
theorem dX8_ends_66 : decode cX8_ends 66 = .ok (.aload_n 0, 1) := by decide +kernel
theorem dX8_ends_67 : decode cX8_ends 67 = .ok (.invokevirtual 53, 3) := by decide +kernel
theorem dX8_ends_70 : decode cX8_ends 70 = .ok (.iconst 0, 1) := by decide +kernel
theorem dX8_ends_71 : decode cX8_ends 71 = .ok (.istore_n 3, 1) := by decide +kernel
theorem dX8_ends_72 : decode cX8_ends 72 = .ok (.iload_n 3, 1) := by decide +kernel
theorem dX8_ends_73 : decode cX8_ends 73 = .ok (.bipush 52, 2) := by decide +kernel
theorem dX8_ends_75 : decode cX8_ends 75 = .ok (.if_icmp .ge 21, 3) := by decide +kernel
theorem dX8_ends_78 : decode cX8_ends 78 = .ok (.aload_n 0, 1) := by decide +kernel
theorem dX8_ends_79 : decode cX8_ends 79 = .ok (.getfield 7, 3) := by decide +kernel
theorem dX8_ends_82 : decode cX8_ends 82 = .ok (.iload_n 3, 1) := by decide +kernel
theorem dX8_ends_83 : decode cX8_ends 83 = .ok (.aload_n 0, 1) := by decide +kernel
theorem dX8_ends_84 : decode cX8_ends 84 = .ok (.getfield 13, 3) := by decide +kernel
theorem dX8_ends_87 : decode cX8_ends 87 = .ok (.iload_n 3, 1) := by decide +kernel
theorem dX8_ends_88 : decode cX8_ends 88 = .ok (.iaload, 1) := by decide +kernel
theorem dX8_ends_89 : decode cX8_ends 89 = .ok (.iastore, 1) := by decide +kernel
theorem dX8_ends_90 : decode cX8_ends 90 = .ok (.iinc 3 1, 3) := by decide +kernel
theorem dX8_ends_93 : decode cX8_ends 93 = .ok (.goto (-21), 3) := by decide +kernel
theorem dX8_ends_96 : decode cX8_ends 96 = .ok (.aload_n 0, 1) := by decide +kernel
theorem dX8_ends_97 : decode cX8_ends 97 = .ok (.getfield 175, 3) := by decide +kernel
theorem dX8_ends_100 : decode cX8_ends 100 = .ok (.ireturn, 1) := by decide +kernel
theorem dX8_undo_0 : decode cX8_undo 0 = .ok (.aload_n 0, 1) := by decide +kernel
theorem dX8_undo_1 : decode cX8_undo 1 = .ok (.getfield 33, 3) := by decide +kernel
theorem dX8_undo_4 : decode cX8_undo 4 = .ok (.ifCond .ne 11, 3) := by decide +kernel
theorem dX8_undo_7 : decode cX8_undo 7 = .ok (.aload_n 0, 1) := by decide +kernel
theorem dX8_undo_8 : decode cX8_undo 8 = .ok (.sipush (-10003), 3) := by decide +kernel
theorem dX8_undo_11 : decode cX8_undo 11 = .ok (.invokevirtual 45, 3) := by decide +kernel
theorem dX8_undo_14 : decode cX8_undo 14 = .ok (.ireturn, 1) := by decide +kernel
theorem dX8_undo_15 : decode cX8_undo 15 = .ok (.aload_n 0, 1) := by decide +kernel
theorem dX8_undo_16 : decode cX8_undo 16 = .ok (.dup, 1) := by decide +kernel
theorem dX8_undo_17 : decode cX8_undo 17 = .ok (.getfield 33, 3) := by decide +kernel
theorem dX8_undo_20 : decode cX8_undo 20 = .ok (.iconst 1, 1) := by decide +kernel
theorem dX8_undo_21 : decode cX8_undo 21 = .ok (.isub, 1) := by decide +kernel
theorem dX8_undo_22 : decode cX8_undo 22 = .ok (.putfield 33, 3) := by decide +kernel
theorem dX8_undo_25 : decode cX8_undo 25 = .ok (.iconst 0, 1) := by decide +kernel
theorem dX8_undo_26 : decode cX8_undo 26 = .ok (.istore_n 1, 1) := by decide +kernel
theorem dX8_undo_27 : decode cX8_undo 27 = .ok (.iload_n 1, 1) := by decide +kernel
theorem dX8_undo_28 : decode cX8_undo 28 = .ok (.bipush 52, 2) := by decide +kernel
theorem dX8_undo_30 : decode cX8_undo 30 = .ok (.if_icmp .ge 29, 3) := by decide +kernel
theorem dX8_undo_33 : decode cX8_undo 33 = .ok (.aload_n 0, 1) := by decide +kernel
theorem dX8_undo_34 : decode cX8_undo 34 = .ok (.getfield 7, 3) := by decide +kernel
theorem dX8_undo_37 : decode cX8_undo 37 = .ok (.iload_n 1, 1) := by decide +kernel
theorem dX8_undo_38 : decode cX8_undo 38 = .ok (.aload_n 0, 1) := by decide +kernel
theorem dX8_undo_39 : decode cX8_undo 39 = .ok (.getfield 16, 3) := by decide +kernel
theorem dX8_undo_42 : decode cX8_undo 42 = .ok (.bipush 52, 2) := by decide +kernel
theorem dX8_undo_44 : decode cX8_undo 44 = .ok (.aload_n 0, 1) := by decide +kernel
theorem dX8_undo_45 : decode cX8_undo 45 = .ok (.getfield 33, 3) := by decide +kernel
theorem dX8_undo_48 : decode cX8_undo 48 = .ok (.imul, 1) := by decide +kernel
theorem dX8_undo_49 : decode cX8_undo 49 = .ok (.iload_n 1, 1) := by decide +kernel
theorem dX8_undo_50 : decode cX8_undo 50 = .ok (.iadd, 1) := by decide +kernel
theorem dX8_undo_51 : decode cX8_undo 51 = .ok (.iaload, 1) := by decide +kernel
theorem dX8_undo_52 : decode cX8_undo 52 = .ok (.iastore, 1) := by decide +kernel
theorem dX8_undo_53 : decode cX8_undo 53 = .ok (.iinc 1 1, 3) := by decide +kernel
theorem dX8_undo_56 : decode cX8_undo 56 = .ok (.goto (-29), 3) := by decide +kernel
theorem dX8_undo_59 : decode cX8_undo 59 = .ok (.aload_n 0, 1) := by decide +kernel
theorem dX8_undo_60 : decode cX8_undo 60 = .ok (.getfield 33, 3) := by decide +kernel
theorem dX8_undo_63 : decode cX8_undo 63 = .ok (.ireturn, 1) := by decide +kernel
theorem dX8_errorCount_0 : decode cX8_errorCount 0 = .ok (.iload_n 1, 1) := by decide +kernel
theorem dX8_errorCount_1 : decode cX8_errorCount 1 = .ok (.iconst 0, 1) := by decide +kernel
theorem dX8_errorCount_2 : decode cX8_errorCount 2 = .ok (.iconst 2, 1) := by decide +kernel
theorem dX8_errorCount_3 : decode cX8_errorCount 3 = .ok (.invokestatic 37, 3) := by decide +kernel
theorem dX8_errorCount_6 : decode cX8_errorCount 6 = .ok (.ifCond .eq 12, 3) := by decide +kernel
theorem dX8_errorCount_9 : decode cX8_errorCount 9 = .ok (.aload_n 0, 1) := by decide +kernel
theorem dX8_errorCount_10 : decode cX8_errorCount 10 = .ok (.getfield 19, 3) := by decide +kernel
theorem dX8_errorCount_13 : decode cX8_errorCount 13 = .ok (.iload_n 1, 1) := by decide +kernel
theorem dX8_errorCount_14 : decode cX8_errorCount 14 = .ok (.iaload, 1) := by decide +kernel
theorem dX8_errorCount_15 : decode cX8_errorCount 15 = .ok (.goto 10, 3) := by decide +kernel
theorem dX8_errorCount_18 : decode cX8_errorCount 18 = .ok (.aload_n 0, 1) := by decide +kernel
theorem dX8_errorCount_19 : decode cX8_errorCount 19 = .ok (.sipush (-10002), 3) := by decide +kernel
theorem dX8_errorCount_22 : decode cX8_errorCount 22 = .ok (.invokevirtual 45, 3) := by decide +kernel
theorem dX8_errorCount_25 : decode cX8_errorCount 25 = .ok (.ireturn, 1) := by decide +kernel
theorem dX8_add_0 : decode cX8_add 0 = .ok (.aload_n 0, 1) := by decide +kernel
theorem dX8_add_1 : decode cX8_add 1 = .ok (.ldc2_w 210, 3) := by decide +kernel
theorem dX8_add_4 : decode cX8_add 4 = .ok (.aload_n 0, 1) := by decide +kernel
theorem dX8_add_5 : decode cX8_add 5 = .ok (.getfield 212, 3) := by decide +kernel
theorem dX8_add_8 : decode cX8_add 8 = .ok (.lmul, 1) := by decide +kernel
theorem dX8_add_9 : decode cX8_add 9 = .ok (.iload_n 1, 1) := by decide +kernel
theorem dX8_add_10 : decode cX8_add 10 = .ok (.i2l, 1) := by decide +kernel
theorem dX8_add_11 : decode cX8_add 11 = .ok (.ladd, 1) := by decide +kernel
theorem dX8_add_12 : decode cX8_add 12 = .ok (.putfield 212, 3) := by decide +kernel
theorem dX8_add_15 : decode cX8_add 15 = .ok (.return_, 1) := by decide +kernel
theorem dX8_addRows_0 : decode cX8_addRows 0 = .ok (.aload_n 0, 1) := by decide +kernel
theorem dX8_addRows_1 : decode cX8_addRows 1 = .ok (.aload_n 0, 1) := by decide +kernel
theorem dX8_addRows_2 : decode cX8_addRows 2 = .ok (.getfield 7, 3) := by decide +kernel
theorem dX8_addRows_5 : decode cX8_addRows 5 = .ok (.iload_n 1, 1) := by decide +kernel
theorem dX8_addRows_6 : decode cX8_addRows 6 = .ok (.iaload, 1) := by decide +kernel
theorem dX8_addRows_7 : decode cX8_addRows 7 = .ok (.invokevirtual 216, 3) := by decide +kernel
theorem dX8_addRows_10 : decode cX8_addRows 10 = .ok (.iconst 0, 1) := by decide +kernel
theorem dX8_addRows_11 : decode cX8_addRows 11 = .ok (.istore_n 2, 1) := by decide +kernel
theorem dX8_addRows_12 : decode cX8_addRows 12 = .ok (.iload_n 2, 1) := by decide +kernel
theorem dX8_addRows_13 : decode cX8_addRows 13 = .ok (.aload_n 0, 1) := by decide +kernel
theorem dX8_addRows_14 : decode cX8_addRows 14 = .ok (.getfield 7, 3) := by decide +kernel
theorem dX8_addRows_17 : decode cX8_addRows 17 = .ok (.iload_n 1, 1) := by decide +kernel
theorem dX8_addRows_18 : decode cX8_addRows 18 = .ok (.iaload, 1) := by decide +kernel
theorem dX8_addRows_19 : decode cX8_addRows 19 = .ok (.if_icmp .ge 23, 3) := by decide +kernel
theorem dX8_addRows_22 : decode cX8_addRows 22 = .ok (.aload_n 0, 1) := by decide +kernel
theorem dX8_addRows_23 : decode cX8_addRows 23 = .ok (.aload_n 0, 1) := by decide +kernel
theorem dX8_addRows_24 : decode cX8_addRows 24 = .ok (.getfield 7, 3) := by decide +kernel
theorem dX8_addRows_27 : decode cX8_addRows 27 = .ok (.iload_n 1, 1) := by decide +kernel
theorem dX8_addRows_28 : decode cX8_addRows 28 = .ok (.iconst 1, 1) := by decide +kernel
theorem dX8_addRows_29 : decode cX8_addRows 29 = .ok (.iadd, 1) := by decide +kernel
theorem dX8_addRows_30 : decode cX8_addRows 30 = .ok (.iload_n 2, 1) := by decide +kernel
theorem dX8_addRows_31 : decode cX8_addRows 31 = .ok (.iadd, 1) := by decide +kernel
theorem dX8_addRows_32 : decode cX8_addRows 32 = .ok (.iaload, 1) := by decide +kernel
theorem dX8_addRows_33 : decode cX8_addRows 33 = .ok (.invokevirtual 216, 3) := by decide +kernel
theorem dX8_addRows_36 : decode cX8_addRows 36 = .ok (.iinc 2 1, 3) := by decide +kernel
theorem dX8_addRows_39 : decode cX8_addRows 39 = .ok (.goto (-27), 3) := by decide +kernel
theorem dX8_addRows_42 : decode cX8_addRows 42 = .ok (.return_, 1) := by decide +kernel
theorem dX8_addFilters_0 : decode cX8_addFilters 0 = .ok (.aload_n 0, 1) := by decide +kernel
theorem dX8_addFilters_1 : decode cX8_addFilters 1 = .ok (.aload_n 0, 1) := by decide +kernel
theorem dX8_addFilters_2 : decode cX8_addFilters 2 = .ok (.getfield 7, 3) := by decide +kernel
theorem dX8_addFilters_5 : decode cX8_addFilters 5 = .ok (.bipush 22, 2) := by decide +kernel
theorem dX8_addFilters_7 : decode cX8_addFilters 7 = .ok (.iaload, 1) := by decide +kernel
theorem dX8_addFilters_8 : decode cX8_addFilters 8 = .ok (.invokevirtual 216, 3) := by decide +kernel
theorem dX8_addFilters_11 : decode cX8_addFilters 11 = .ok (.iconst 0, 1) := by decide +kernel
theorem dX8_addFilters_12 : decode cX8_addFilters 12 = .ok (.istore_n 1, 1) := by decide +kernel
theorem dX8_addFilters_13 : decode cX8_addFilters 13 = .ok (.iload_n 1, 1) := by decide +kernel
theorem dX8_addFilters_14 : decode cX8_addFilters 14 = .ok (.aload_n 0, 1) := by decide +kernel
theorem dX8_addFilters_15 : decode cX8_addFilters 15 = .ok (.getfield 7, 3) := by decide +kernel
theorem dX8_addFilters_18 : decode cX8_addFilters 18 = .ok (.bipush 22, 2) := by decide +kernel
theorem dX8_addFilters_20 : decode cX8_addFilters 20 = .ok (.iaload, 1) := by decide +kernel
theorem dX8_addFilters_21 : decode cX8_addFilters 21 = .ok (.if_icmp .ge 41, 3) := by decide +kernel
theorem dX8_addFilters_24 : decode cX8_addFilters 24 = .ok (.iconst 0, 1) := by decide +kernel
theorem dX8_addFilters_25 : decode cX8_addFilters 25 = .ok (.istore_n 2, 1) := by decide +kernel
theorem dX8_addFilters_26 : decode cX8_addFilters 26 = .ok (.iload_n 2, 1) := by decide +kernel
theorem dX8_addFilters_27 : decode cX8_addFilters 27 = .ok (.iconst 4, 1) := by decide +kernel
theorem dX8_addFilters_28 : decode cX8_addFilters 28 = .ok (.if_icmp .ge 19, 3) := by decide +kernel
theorem dX8_addFilters_31 : decode cX8_addFilters 31 = .ok (.aload_n 0, 1) := by decide +kernel
theorem dX8_addFilters_32 : decode cX8_addFilters 32 = .ok (.aload_n 0, 1) := by decide +kernel
theorem dX8_addFilters_33 : decode cX8_addFilters 33 = .ok (.iload_n 1, 1) := by decide +kernel
theorem dX8_addFilters_34 : decode cX8_addFilters 34 = .ok (.iload_n 2, 1) := by decide +kernel
theorem dX8_addFilters_35 : decode cX8_addFilters 35 = .ok (.invokevirtual 81, 3) := by decide +kernel
theorem dX8_addFilters_38 : decode cX8_addFilters 38 = .ok (.invokevirtual 216, 3) := by decide +kernel
theorem dX8_addFilters_41 : decode cX8_addFilters 41 = .ok (.iinc 2 1, 3) := by decide +kernel
theorem dX8_addFilters_44 : decode cX8_addFilters 44 = .ok (.goto (-18), 3) := by decide +kernel
theorem dX8_addFilters_47 : decode cX8_addFilters 47 = .ok (.aload_n 0, 1) := by decide +kernel
theorem dX8_addFilters_48 : decode cX8_addFilters 48 = .ok (.aload_n 0, 1) := by decide +kernel
theorem dX8_addFilters_49 : decode cX8_addFilters 49 = .ok (.iload_n 1, 1) := by decide +kernel
theorem dX8_addFilters_50 : decode cX8_addFilters 50 = .ok (.invokevirtual 99, 3) := by decide +kernel
theorem dX8_addFilters_53 : decode cX8_addFilters 53 = .ok (.invokevirtual 216, 3) := by decide +kernel
theorem dX8_addFilters_56 : decode cX8_addFilters 56 = .ok (.iinc 1 1, 3) := by decide +kernel
theorem dX8_addFilters_59 : decode cX8_addFilters 59 = .ok (.goto (-46), 3) := by decide +kernel
theorem dX8_addFilters_62 : decode cX8_addFilters 62 = .ok (.return_, 1) := by decide +kernel
theorem dX8_addWishes_0 : decode cX8_addWishes 0 = .ok (.aload_n 0, 1) := by decide +kernel
theorem dX8_addWishes_1 : decode cX8_addWishes 1 = .ok (.aload_n 0, 1) := by decide +kernel
theorem dX8_addWishes_2 : decode cX8_addWishes 2 = .ok (.getfield 7, 3) := by decide +kernel
theorem dX8_addWishes_5 : decode cX8_addWishes 5 = .ok (.bipush 47, 2) := by decide +kernel
theorem dX8_addWishes_7 : decode cX8_addWishes 7 = .ok (.iaload, 1) := by decide +kernel
theorem dX8_addWishes_8 : decode cX8_addWishes 8 = .ok (.invokevirtual 216, 3) := by decide +kernel
theorem dX8_addWishes_11 : decode cX8_addWishes 11 = .ok (.iconst 0, 1) := by decide +kernel
theorem dX8_addWishes_12 : decode cX8_addWishes 12 = .ok (.istore_n 1, 1) := by decide +kernel
theorem dX8_addWishes_13 : decode cX8_addWishes 13 = .ok (.iload_n 1, 1) := by decide +kernel
theorem dX8_addWishes_14 : decode cX8_addWishes 14 = .ok (.aload_n 0, 1) := by decide +kernel
theorem dX8_addWishes_15 : decode cX8_addWishes 15 = .ok (.getfield 7, 3) := by decide +kernel
theorem dX8_addWishes_18 : decode cX8_addWishes 18 = .ok (.bipush 47, 2) := by decide +kernel
theorem dX8_addWishes_20 : decode cX8_addWishes 20 = .ok (.iaload, 1) := by decide +kernel
theorem dX8_addWishes_21 : decode cX8_addWishes 21 = .ok (.if_icmp .ge 88, 3) := by decide +kernel
theorem dX8_addWishes_24 : decode cX8_addWishes 24 = .ok (.aload_n 0, 1) := by decide +kernel
theorem dX8_addWishes_25 : decode cX8_addWishes 25 = .ok (.getfield 7, 3) := by decide +kernel
theorem dX8_addWishes_28 : decode cX8_addWishes 28 = .ok (.bipush 48, 2) := by decide +kernel
theorem dX8_addWishes_30 : decode cX8_addWishes 30 = .ok (.iload_n 1, 1) := by decide +kernel
theorem dX8_addWishes_31 : decode cX8_addWishes 31 = .ok (.iadd, 1) := by decide +kernel
theorem dX8_addWishes_32 : decode cX8_addWishes 32 = .ok (.iaload, 1) := by decide +kernel
theorem dX8_addWishes_33 : decode cX8_addWishes 33 = .ok (.bipush 10, 2) := by decide +kernel
theorem dX8_addWishes_35 : decode cX8_addWishes 35 = .ok (.idiv, 1) := by decide +kernel
theorem dX8_addWishes_36 : decode cX8_addWishes 36 = .ok (.istore_n 2, 1) := by decide +kernel
theorem dX8_addWishes_37 : decode cX8_addWishes 37 = .ok (.aload_n 0, 1) := by decide +kernel
theorem dX8_addWishes_38 : decode cX8_addWishes 38 = .ok (.getfield 7, 3) := by decide +kernel
theorem dX8_addWishes_41 : decode cX8_addWishes 41 = .ok (.bipush 48, 2) := by decide +kernel
theorem dX8_addWishes_43 : decode cX8_addWishes 43 = .ok (.iload_n 1, 1) := by decide +kernel
theorem dX8_addWishes_44 : decode cX8_addWishes 44 = .ok (.iadd, 1) := by decide +kernel
theorem dX8_addWishes_45 : decode cX8_addWishes 45 = .ok (.iaload, 1) := by decide +kernel
theorem dX8_addWishes_46 : decode cX8_addWishes 46 = .ok (.bipush 10, 2) := by decide +kernel
theorem dX8_addWishes_48 : decode cX8_addWishes 48 = .ok (.irem, 1) := by decide +kernel
theorem dX8_addWishes_49 : decode cX8_addWishes 49 = .ok (.istore_n 3, 1) := by decide +kernel
theorem dX8_addWishes_50 : decode cX8_addWishes 50 = .ok (.aload_n 0, 1) := by decide +kernel
theorem dX8_addWishes_51 : decode cX8_addWishes 51 = .ok (.aload_n 0, 1) := by decide +kernel
theorem dX8_addWishes_52 : decode cX8_addWishes 52 = .ok (.getfield 7, 3) := by decide +kernel
theorem dX8_addWishes_55 : decode cX8_addWishes 55 = .ok (.bipush 48, 2) := by decide +kernel
theorem dX8_addWishes_57 : decode cX8_addWishes 57 = .ok (.iload_n 1, 1) := by decide +kernel
theorem dX8_addWishes_58 : decode cX8_addWishes 58 = .ok (.iadd, 1) := by decide +kernel
theorem dX8_addWishes_59 : decode cX8_addWishes 59 = .ok (.iaload, 1) := by decide +kernel
theorem dX8_addWishes_60 : decode cX8_addWishes 60 = .ok (.invokevirtual 216, 3) := by decide +kernel
theorem dX8_addWishes_63 : decode cX8_addWishes 63 = .ok (.aload_n 0, 1) := by decide +kernel
theorem dX8_addWishes_64 : decode cX8_addWishes 64 = .ok (.aload_n 0, 1) := by decide +kernel
theorem dX8_addWishes_65 : decode cX8_addWishes 65 = .ok (.iload_n 2, 1) := by decide +kernel
theorem dX8_addWishes_66 : decode cX8_addWishes 66 = .ok (.iload_n 3, 1) := by decide +kernel
theorem dX8_addWishes_67 : decode cX8_addWishes 67 = .ok (.invokevirtual 130, 3) := by decide +kernel
theorem dX8_addWishes_70 : decode cX8_addWishes 70 = .ok (.invokevirtual 216, 3) := by decide +kernel
theorem dX8_addWishes_73 : decode cX8_addWishes 73 = .ok (.aload_n 0, 1) := by decide +kernel
theorem dX8_addWishes_74 : decode cX8_addWishes 74 = .ok (.aload_n 0, 1) := by decide +kernel
theorem dX8_addWishes_75 : decode cX8_addWishes 75 = .ok (.iload_n 2, 1) := by decide +kernel
theorem dX8_addWishes_76 : decode cX8_addWishes 76 = .ok (.iload_n 3, 1) := by decide +kernel
theorem dX8_addWishes_77 : decode cX8_addWishes 77 = .ok (.invokevirtual 136, 3) := by decide +kernel
theorem dX8_addWishes_80 : decode cX8_addWishes 80 = .ok (.invokevirtual 216, 3) := by decide +kernel
theorem dX8_addWishes_83 : decode cX8_addWishes 83 = .ok (.aload_n 0, 1) := by decide +kernel
theorem dX8_addWishes_84 : decode cX8_addWishes 84 = .ok (.aload_n 0, 1) := by decide +kernel
theorem dX8_addWishes_85 : decode cX8_addWishes 85 = .ok (.iload_n 2, 1) := by decide +kernel
theorem dX8_addWishes_86 : decode cX8_addWishes 86 = .ok (.iload_n 3, 1) := by decide +kernel
theorem dX8_addWishes_87 : decode cX8_addWishes 87 = .ok (.invokevirtual 145, 3) := by decide +kernel
theorem dX8_addWishes_90 : decode cX8_addWishes 90 = .ok (.invokevirtual 216, 3) := by decide +kernel
theorem dX8_addWishes_93 : decode cX8_addWishes 93 = .ok (.aload_n 0, 1) := by decide +kernel
theorem dX8_addWishes_94 : decode cX8_addWishes 94 = .ok (.aload_n 0, 1) := by decide +kernel
theorem dX8_addWishes_95 : decode cX8_addWishes 95 = .ok (.iload_n 2, 1) := by decide +kernel
theorem dX8_addWishes_96 : decode cX8_addWishes 96 = .ok (.iload_n 3, 1) := by decide +kernel
theorem dX8_addWishes_97 : decode cX8_addWishes 97 = .ok (.invokevirtual 148, 3) := by decide +kernel
theorem dX8_addWishes_100 : decode cX8_addWishes 100 = .ok (.invokevirtual 216, 3) := by decide +kernel
theorem dX8_addWishes_103 : decode cX8_addWishes 103 = .ok (.iinc 1 1, 3) := by decide +kernel
theorem dX8_addWishes_106 : decode cX8_addWishes 106 = .ok (.goto (-93), 3) := by decide +kernel
theorem dX8_addWishes_109 : decode cX8_addWishes 109 = .ok (.return_, 1) := by decide +kernel
theorem dX8_digest_0 : decode cX8_digest 0 = .ok (.aload_n 0, 1) := by decide +kernel
theorem dX8_digest_1 : decode cX8_digest 1 = .ok (.ldc2_w 219, 3) := by decide +kernel
theorem dX8_digest_4 : decode cX8_digest 4 = .ok (.putfield 212, 3) := by decide +kernel
theorem dX8_digest_7 : decode cX8_digest 7 = .ok (.iconst 0, 1) := by decide +kernel
theorem dX8_digest_8 : decode cX8_digest 8 = .ok (.istore_n 1, 1) := by decide +kernel
theorem dX8_digest_9 : decode cX8_digest 9 = .ok (.iload_n 1, 1) := by decide +kernel
theorem dX8_digest_10 : decode cX8_digest 10 = .ok (.iconst 3, 1) := by decide +kernel
theorem dX8_digest_11 : decode cX8_digest 11 = .ok (.if_icmp .ge 19, 3) := by decide +kernel
theorem dX8_digest_14 : decode cX8_digest 14 = .ok (.aload_n 0, 1) := by decide +kernel
theorem dX8_digest_15 : decode cX8_digest 15 = .ok (.aload_n 0, 1) := by decide +kernel
theorem dX8_digest_16 : decode cX8_digest 16 = .ok (.getfield 19, 3) := by decide +kernel
theorem dX8_digest_19 : decode cX8_digest 19 = .ok (.iload_n 1, 1) := by decide +kernel
theorem dX8_digest_20 : decode cX8_digest 20 = .ok (.iaload, 1) := by decide +kernel
theorem dX8_digest_21 : decode cX8_digest 21 = .ok (.invokevirtual 216, 3) := by decide +kernel
theorem dX8_digest_24 : decode cX8_digest 24 = .ok (.iinc 1 1, 3) := by decide +kernel
theorem dX8_digest_27 : decode cX8_digest 27 = .ok (.goto (-18), 3) := by decide +kernel
theorem dX8_digest_30 : decode cX8_digest 30 = .ok (.aload_n 0, 1) := by decide +kernel
theorem dX8_digest_31 : decode cX8_digest 31 = .ok (.aload_n 0, 1) := by decide +kernel
theorem dX8_digest_32 : decode cX8_digest 32 = .ok (.getfield 157, 3) := by decide +kernel
theorem dX8_digest_35 : decode cX8_digest 35 = .ok (.invokevirtual 216, 3) := by decide +kernel
theorem dX8_digest_38 : decode cX8_digest 38 = .ok (.aload_n 0, 1) := by decide +kernel
theorem dX8_digest_39 : decode cX8_digest 39 = .ok (.aload_n 0, 1) := by decide +kernel
theorem dX8_digest_40 : decode cX8_digest 40 = .ok (.getfield 33, 3) := by decide +kernel
theorem dX8_digest_43 : decode cX8_digest 43 = .ok (.invokevirtual 216, 3) := by decide +kernel
theorem dX8_digest_46 : decode cX8_digest 46 = .ok (.aload_n 0, 1) := by decide +kernel
theorem dX8_digest_47 : decode cX8_digest 47 = .ok (.iconst 0, 1) := by decide +kernel
theorem dX8_digest_48 : decode cX8_digest 48 = .ok (.invokevirtual 221, 3) := by decide +kernel
theorem dX8_digest_51 : decode cX8_digest 51 = .ok (.aload_n 0, 1) := by decide +kernel
theorem dX8_digest_52 : decode cX8_digest 52 = .ok (.bipush 11, 2) := by decide +kernel
theorem dX8_digest_54 : decode cX8_digest 54 = .ok (.invokevirtual 221, 3) := by decide +kernel
theorem dX8_digest_57 : decode cX8_digest 57 = .ok (.aload_n 0, 1) := by decide +kernel
theorem dX8_digest_58 : decode cX8_digest 58 = .ok (.invokevirtual 224, 3) := by decide +kernel
theorem dX8_digest_61 : decode cX8_digest 61 = .ok (.aload_n 0, 1) := by decide +kernel
theorem dX8_digest_62 : decode cX8_digest 62 = .ok (.invokevirtual 117, 3) := by decide +kernel
theorem dX8_digest_65 : decode cX8_digest 65 = .ok (.istore_n 1, 1) := by decide +kernel
theorem dX8_digest_66 : decode cX8_digest 66 = .ok (.aload_n 0, 1) := by decide +kernel
theorem dX8_digest_67 : decode cX8_digest 67 = .ok (.iload_n 1, 1) := by decide +kernel
theorem dX8_digest_68 : decode cX8_digest 68 = .ok (.invokevirtual 216, 3) := by decide +kernel
theorem dX8_digest_71 : decode cX8_digest 71 = .ok (.iconst 0, 1) := by decide +kernel
theorem dX8_digest_72 : decode cX8_digest 72 = .ok (.istore_n 2, 1) := by decide +kernel
theorem dX8_digest_73 : decode cX8_digest 73 = .ok (.iload_n 2, 1) := by decide +kernel
theorem dX8_digest_74 : decode cX8_digest 74 = .ok (.iload_n 1, 1) := by decide +kernel
theorem dX8_digest_75 : decode cX8_digest 75 = .ok (.if_icmp .ge 18, 3) := by decide +kernel
theorem dX8_digest_78 : decode cX8_digest 78 = .ok (.aload_n 0, 1) := by decide +kernel
theorem dX8_digest_79 : decode cX8_digest 79 = .ok (.aload_n 0, 1) := by decide +kernel
theorem dX8_digest_80 : decode cX8_digest 80 = .ok (.iload_n 2, 1) := by decide +kernel
theorem dX8_digest_81 : decode cX8_digest 81 = .ok (.invokevirtual 121, 3) := by decide +kernel
theorem dX8_digest_84 : decode cX8_digest 84 = .ok (.invokevirtual 216, 3) := by decide +kernel
theorem dX8_digest_87 : decode cX8_digest 87 = .ok (.iinc 2 1, 3) := by decide +kernel
theorem dX8_digest_90 : decode cX8_digest 90 = .ok (.goto (-17), 3) := by decide +kernel
theorem dX8_digest_93 : decode cX8_digest 93 = .ok (.aload_n 0, 1) := by decide +kernel
theorem dX8_digest_94 : decode cX8_digest 94 = .ok (.invokevirtual 227, 3) := by decide +kernel
theorem dX8_digest_97 : decode cX8_digest 97 = .ok (.aload_n 0, 1) := by decide +kernel
theorem dX8_digest_98 : decode cX8_digest 98 = .ok (.aload_n 0, 1) := by decide +kernel
theorem dX8_digest_99 : decode cX8_digest 99 = .ok (.invokevirtual 154, 3) := by decide +kernel
theorem dX8_digest_102 : decode cX8_digest 102 = .ok (.invokevirtual 216, 3) := by decide +kernel
theorem dX8_digest_105 : decode cX8_digest 105 = .ok (.aload_n 0, 1) := by decide +kernel
theorem dX8_digest_106 : decode cX8_digest 106 = .ok (.getfield 212, 3) := by decide +kernel
theorem dX8_digest_109 : decode cX8_digest 109 = .ok (.lreturn, 1) := by decide +kernel
theorem dJ6_bitCount_0f7a4_0 : decode cJ6_bitCount_0f7a4 0 = .ok (.iload_n 0, 1) := by decide +kernel
theorem dJ6_bitCount_0f7a4_1 : decode cJ6_bitCount_0f7a4 1 = .ok (.iload_n 0, 1) := by decide +kernel
theorem dJ6_bitCount_0f7a4_2 : decode cJ6_bitCount_0f7a4 2 = .ok (.iconst 1, 1) := by decide +kernel
theorem dJ6_bitCount_0f7a4_3 : decode cJ6_bitCount_0f7a4 3 = .ok (.iushr, 1) := by decide +kernel
theorem dJ6_bitCount_0f7a4_4 : decode cJ6_bitCount_0f7a4 4 = .ok (.ldc_w 265, 3) := by decide +kernel
theorem dJ6_bitCount_0f7a4_7 : decode cJ6_bitCount_0f7a4 7 = .ok (.iand, 1) := by decide +kernel
theorem dJ6_bitCount_0f7a4_8 : decode cJ6_bitCount_0f7a4 8 = .ok (.isub, 1) := by decide +kernel
theorem dJ6_bitCount_0f7a4_9 : decode cJ6_bitCount_0f7a4 9 = .ok (.istore_n 0, 1) := by decide +kernel
theorem dJ6_bitCount_0f7a4_10 : decode cJ6_bitCount_0f7a4 10 = .ok (.iload_n 0, 1) := by decide +kernel
theorem dJ6_bitCount_0f7a4_11 : decode cJ6_bitCount_0f7a4 11 = .ok (.ldc_w 266, 3) := by decide +kernel
theorem dJ6_bitCount_0f7a4_14 : decode cJ6_bitCount_0f7a4 14 = .ok (.iand, 1) := by decide +kernel
theorem dJ6_bitCount_0f7a4_15 : decode cJ6_bitCount_0f7a4 15 = .ok (.iload_n 0, 1) := by decide +kernel
theorem dJ6_bitCount_0f7a4_16 : decode cJ6_bitCount_0f7a4 16 = .ok (.iconst 2, 1) := by decide +kernel
theorem dJ6_bitCount_0f7a4_17 : decode cJ6_bitCount_0f7a4 17 = .ok (.iushr, 1) := by decide +kernel
theorem dJ6_bitCount_0f7a4_18 : decode cJ6_bitCount_0f7a4 18 = .ok (.ldc_w 266, 3) := by decide +kernel
theorem dJ6_bitCount_0f7a4_21 : decode cJ6_bitCount_0f7a4 21 = .ok (.iand, 1) := by decide +kernel
theorem dJ6_bitCount_0f7a4_22 : decode cJ6_bitCount_0f7a4 22 = .ok (.iadd, 1) := by decide +kernel
theorem dJ6_bitCount_0f7a4_23 : decode cJ6_bitCount_0f7a4 23 = .ok (.istore_n 0, 1) := by decide +kernel
theorem dJ6_bitCount_0f7a4_24 : decode cJ6_bitCount_0f7a4 24 = .ok (.iload_n 0, 1) := by decide +kernel
theorem dJ6_bitCount_0f7a4_25 : decode cJ6_bitCount_0f7a4 25 = .ok (.iload_n 0, 1) := by decide +kernel
theorem dJ6_bitCount_0f7a4_26 : decode cJ6_bitCount_0f7a4 26 = .ok (.iconst 4, 1) := by decide +kernel
theorem dJ6_bitCount_0f7a4_27 : decode cJ6_bitCount_0f7a4 27 = .ok (.iushr, 1) := by decide +kernel
theorem dJ6_bitCount_0f7a4_28 : decode cJ6_bitCount_0f7a4 28 = .ok (.iadd, 1) := by decide +kernel
theorem dJ6_bitCount_0f7a4_29 : decode cJ6_bitCount_0f7a4 29 = .ok (.ldc_w 267, 3) := by decide +kernel
theorem dJ6_bitCount_0f7a4_32 : decode cJ6_bitCount_0f7a4 32 = .ok (.iand, 1) := by decide +kernel
theorem dJ6_bitCount_0f7a4_33 : decode cJ6_bitCount_0f7a4 33 = .ok (.istore_n 0, 1) := by decide +kernel
theorem dJ6_bitCount_0f7a4_34 : decode cJ6_bitCount_0f7a4 34 = .ok (.iload_n 0, 1) := by decide +kernel
theorem dJ6_bitCount_0f7a4_35 : decode cJ6_bitCount_0f7a4 35 = .ok (.iload_n 0, 1) := by decide +kernel
theorem dJ6_bitCount_0f7a4_36 : decode cJ6_bitCount_0f7a4 36 = .ok (.bipush 8, 2) := by decide +kernel
theorem dJ6_bitCount_0f7a4_38 : decode cJ6_bitCount_0f7a4 38 = .ok (.iushr, 1) := by decide +kernel
theorem dJ6_bitCount_0f7a4_39 : decode cJ6_bitCount_0f7a4 39 = .ok (.iadd, 1) := by decide +kernel
theorem dJ6_bitCount_0f7a4_40 : decode cJ6_bitCount_0f7a4 40 = .ok (.istore_n 0, 1) := by decide +kernel
theorem dJ6_bitCount_0f7a4_41 : decode cJ6_bitCount_0f7a4 41 = .ok (.iload_n 0, 1) := by decide +kernel
theorem dJ6_bitCount_0f7a4_42 : decode cJ6_bitCount_0f7a4 42 = .ok (.iload_n 0, 1) := by decide +kernel
theorem dJ6_bitCount_0f7a4_43 : decode cJ6_bitCount_0f7a4 43 = .ok (.bipush 16, 2) := by decide +kernel
theorem dJ6_bitCount_0f7a4_45 : decode cJ6_bitCount_0f7a4 45 = .ok (.iushr, 1) := by decide +kernel
theorem dJ6_bitCount_0f7a4_46 : decode cJ6_bitCount_0f7a4 46 = .ok (.iadd, 1) := by decide +kernel
theorem dJ6_bitCount_0f7a4_47 : decode cJ6_bitCount_0f7a4 47 = .ok (.istore_n 0, 1) := by decide +kernel
theorem dJ6_bitCount_0f7a4_48 : decode cJ6_bitCount_0f7a4 48 = .ok (.iload_n 0, 1) := by decide +kernel
theorem dJ6_bitCount_0f7a4_49 : decode cJ6_bitCount_0f7a4 49 = .ok (.bipush 63, 2) := by decide +kernel
theorem dJ6_bitCount_0f7a4_51 : decode cJ6_bitCount_0f7a4 51 = .ok (.iand, 1) := by decide +kernel
theorem dJ6_bitCount_0f7a4_52 : decode cJ6_bitCount_0f7a4 52 = .ok (.ireturn, 1) := by decide +kernel
theorem dJ9_min_7cf53_0 : decode cJ9_min_7cf53 0 = .ok (.iload_n 0, 1) := by decide +kernel
theorem dJ9_min_7cf53_1 : decode cJ9_min_7cf53 1 = .ok (.iload_n 1, 1) := by decide +kernel
theorem dJ9_min_7cf53_2 : decode cJ9_min_7cf53 2 = .ok (.if_icmp .gt 7, 3) := by decide +kernel
theorem dJ9_min_7cf53_5 : decode cJ9_min_7cf53 5 = .ok (.iload_n 0, 1) := by decide +kernel
theorem dJ9_min_7cf53_6 : decode cJ9_min_7cf53 6 = .ok (.goto 4, 3) := by decide +kernel
theorem dJ9_min_7cf53_9 : decode cJ9_min_7cf53 9 = .ok (.iload_n 1, 1) := by decide +kernel
theorem dJ9_min_7cf53_10 : decode cJ9_min_7cf53 10 = .ok (.ireturn, 1) := by decide +kernel
theorem dJ7_fill_53178_0 : decode cJ7_fill_53178 0 = .ok (.iconst 0, 1) := by decide +kernel
theorem dJ7_fill_53178_1 : decode cJ7_fill_53178 1 = .ok (.istore_n 2, 1) := by decide +kernel
theorem dJ7_fill_53178_2 : decode cJ7_fill_53178 2 = .ok (.aload_n 0, 1) := by decide +kernel
theorem dJ7_fill_53178_3 : decode cJ7_fill_53178 3 = .ok (.arraylength, 1) := by decide +kernel
theorem dJ7_fill_53178_4 : decode cJ7_fill_53178 4 = .ok (.istore_n 3, 1) := by decide +kernel
theorem dJ7_fill_53178_5 : decode cJ7_fill_53178 5 = .ok (.iload_n 2, 1) := by decide +kernel
theorem dJ7_fill_53178_6 : decode cJ7_fill_53178 6 = .ok (.iload_n 3, 1) := by decide +kernel
theorem dJ7_fill_53178_7 : decode cJ7_fill_53178 7 = .ok (.if_icmp .ge 13, 3) := by decide +kernel
theorem dJ7_fill_53178_10 : decode cJ7_fill_53178 10 = .ok (.aload_n 0, 1) := by decide +kernel
theorem dJ7_fill_53178_11 : decode cJ7_fill_53178 11 = .ok (.iload_n 2, 1) := by decide +kernel
theorem dJ7_fill_53178_12 : decode cJ7_fill_53178 12 = .ok (.iload_n 1, 1) := by decide +kernel
theorem dJ7_fill_53178_13 : decode cJ7_fill_53178 13 = .ok (.iastore, 1) := by decide +kernel
theorem dJ7_fill_53178_14 : decode cJ7_fill_53178 14 = .ok (.iinc 2 1, 3) := by decide +kernel
theorem dJ7_fill_53178_17 : decode cJ7_fill_53178 17 = .ok (.goto (-12), 3) := by decide +kernel
theorem dJ7_fill_53178_20 : decode cJ7_fill_53178 20 = .ok (.return_, 1) := by decide +kernel
