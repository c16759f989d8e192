theorem dX7_mixWishes_118 : decode cX7_mixWishes 118 = .ok (.lstore 4, 2) := by decide +kernel
theorem dX7_mixWishes_120 : decode cX7_mixWishes 120 = .ok (.lload 4, 2) := by decide +kernel
theorem dX7_mixWishes_122 : decode cX7_mixWishes 122 = .ok (.aload_n 0, 1) := by decide +kernel
theorem dX7_mixWishes_123 : decode cX7_mixWishes 123 = .ok (.getfield 12, 3) := by decide +kernel
theorem dX7_mixWishes_126 : decode cX7_mixWishes 126 = .ok (.iload 8, 2) := by decide +kernel
theorem dX7_mixWishes_128 : decode cX7_mixWishes 128 = .ok (.iload 9, 2) := by decide +kernel
theorem dX7_mixWishes_130 : decode cX7_mixWishes 130 = .ok (.invokevirtual 130, 3) := by decide +kernel
theorem dX7_mixWishes_133 : decode cX7_mixWishes 133 = .ok (.i2l, 1) := by decide +kernel
theorem dX7_mixWishes_134 : decode cX7_mixWishes 134 = .ok (.invokestatic 185, 3) := by decide +kernel
theorem dX7_mixWishes_137 : decode cX7_mixWishes 137 = .ok (.lstore 4, 2) := by decide +kernel
theorem dX7_mixWishes_139 : decode cX7_mixWishes 139 = .ok (.iinc 6 1, 3) := by decide +kernel
theorem dX7_mixWishes_142 : decode cX7_mixWishes 142 = .ok (.goto (-120), 3) := by decide +kernel
theorem dX7_mixWishes_145 : decode cX7_mixWishes 145 = .ok (.lload 4, 2) := by decide +kernel
theorem dX7_mixWishes_147 : decode cX7_mixWishes 147 = .ok (.lreturn, 1) := by decide +kernel
theorem dX7_settle_0 : decode cX7_settle 0 = .ok (.iload_n 1, 1) := by decide +kernel
theorem dX7_settle_1 : decode cX7_settle 1 = .ok (.invokestatic 170, 3) := by decide +kernel
theorem dX7_settle_4 : decode cX7_settle 4 = .ok (.ifCond .ne 10, 3) := by decide +kernel
theorem dX7_settle_7 : decode cX7_settle 7 = .ok (.aload_n 0, 1) := by decide +kernel
theorem dX7_settle_8 : decode cX7_settle 8 = .ok (.getfield 24, 3) := by decide +kernel
theorem dX7_settle_11 : decode cX7_settle 11 = .ok (.invokevirtual 176, 3) := by decide +kernel
theorem dX7_settle_14 : decode cX7_settle 14 = .ok (.aload_n 0, 1) := by decide +kernel
theorem dX7_settle_15 : decode cX7_settle 15 = .ok (.iload_n 1, 1) := by decide +kernel
theorem dX7_settle_16 : decode cX7_settle 16 = .ok (.invokevirtual 73, 3) := by decide +kernel
theorem dX7_settle_19 : decode cX7_settle 19 = .ok (.ireturn, 1) := by decide +kernel
theorem dX7_report_0 : decode cX7_report 0 = .ok (.iload_n 1, 1) := by decide +kernel
theorem dX7_report_1 : decode cX7_report 1 = .ok (.invokestatic 170, 3) := by decide +kernel
theorem dX7_report_4 : decode cX7_report 4 = .ok (.ifCond .eq 17, 3) := by decide +kernel
theorem dX7_report_7 : decode cX7_report 7 = .ok (.aload_n 0, 1) := by decide +kernel
theorem dX7_report_8 : decode cX7_report 8 = .ok (.getfield 40, 3) := by decide +kernel
theorem dX7_report_11 : decode cX7_report 11 = .ok (.sipush (-10002), 3) := by decide +kernel
theorem dX7_report_14 : decode cX7_report 14 = .ok (.iload_n 1, 1) := by decide +kernel
theorem dX7_report_15 : decode cX7_report 15 = .ok (.isub, 1) := by decide +kernel
theorem dX7_report_16 : decode cX7_report 16 = .ok (.dup2, 1) := by decide +kernel
theorem dX7_report_17 : decode cX7_report 17 = .ok (.iaload, 1) := by decide +kernel
theorem dX7_report_18 : decode cX7_report 18 = .ok (.iconst 1, 1) := by decide +kernel
theorem dX7_report_19 : decode cX7_report 19 = .ok (.iadd, 1) := by decide +kernel
theorem dX7_report_20 : decode cX7_report 20 = .ok (.iastore, 1) := by decide +kernel
theorem dX7_report_21 : decode cX7_report 21 = .ok (.iload_n 1, 1) := by decide +kernel
theorem dX7_report_22 : decode cX7_report 22 = .ok (.ireturn, 1) := by decide +kernel
theorem dX7_insertRowsOf_0 : decode cX7_insertRowsOf 0 = .ok (.aload_n 0, 1) := by decide +kernel
theorem dX7_insertRowsOf_1 : decode cX7_insertRowsOf 1 = .ok (.getfield 12, 3) := by decide +kernel
theorem dX7_insertRowsOf_4 : decode cX7_insertRowsOf 4 = .ok (.iload_n 1, 1) := by decide +kernel
theorem dX7_insertRowsOf_5 : decode cX7_insertRowsOf 5 = .ok (.iload_n 2, 1) := by decide +kernel
theorem dX7_insertRowsOf_6 : decode cX7_insertRowsOf 6 = .ok (.invokevirtual 227, 3) := by decide +kernel
theorem dX7_insertRowsOf_9 : decode cX7_insertRowsOf 9 = .ok (.istore_n 3, 1) := by decide +kernel
theorem dX7_insertRowsOf_10 : decode cX7_insertRowsOf 10 = .ok (.iload_n 3, 1) := by decide +kernel
theorem dX7_insertRowsOf_11 : decode cX7_insertRowsOf 11 = .ok (.sipush (-10001), 3) := by decide +kernel
theorem dX7_insertRowsOf_14 : decode cX7_insertRowsOf 14 = .ok (.if_icmp .ne 7, 3) := by decide +kernel
theorem dX7_insertRowsOf_17 : decode cX7_insertRowsOf 17 = .ok (.sipush (-10003), 3) := by decide +kernel
theorem dX7_insertRowsOf_20 : decode cX7_insertRowsOf 20 = .ok (.ireturn, 1) := by decide +kernel
theorem dX7_insertRowsOf_21 : decode cX7_insertRowsOf 21 = .ok (.aload_n 0, 1) := by decide +kernel
theorem dX7_insertRowsOf_22 : decode cX7_insertRowsOf 22 = .ok (.getfield 20, 3) := by decide +kernel
theorem dX7_insertRowsOf_25 : decode cX7_insertRowsOf 25 = .ok (.getfield 48, 3) := by decide +kernel
theorem dX7_insertRowsOf_28 : decode cX7_insertRowsOf 28 = .ok (.iload_n 1, 1) := by decide +kernel
theorem dX7_insertRowsOf_29 : decode cX7_insertRowsOf 29 = .ok (.iload_n 3, 1) := by decide +kernel
theorem dX7_insertRowsOf_30 : decode cX7_insertRowsOf 30 = .ok (.invokevirtual 230, 3) := by decide +kernel
theorem dX7_insertRowsOf_33 : decode cX7_insertRowsOf 33 = .ok (.ifCond .ne 7, 3) := by decide +kernel
theorem dX7_insertRowsOf_36 : decode cX7_insertRowsOf 36 = .ok (.iconst 1, 1) := by decide +kernel
theorem dX7_insertRowsOf_37 : decode cX7_insertRowsOf 37 = .ok (.goto 4, 3) := by decide +kernel
theorem dX7_insertRowsOf_40 : decode cX7_insertRowsOf 40 = .ok (.iconst 0, 1) := by decide +kernel
theorem dX7_insertRowsOf_41 : decode cX7_insertRowsOf 41 = .ok (.istore 4, 2) := by decide +kernel
theorem dX7_insertRowsOf_43 : decode cX7_insertRowsOf 43 = .ok (.aload_n 0, 1) := by decide +kernel
theorem dX7_insertRowsOf_44 : decode cX7_insertRowsOf 44 = .ok (.getfield 20, 3) := by decide +kernel
theorem dX7_insertRowsOf_47 : decode cX7_insertRowsOf 47 = .ok (.getfield 64, 3) := by decide +kernel
theorem dX7_insertRowsOf_50 : decode cX7_insertRowsOf 50 = .ok (.iload_n 3, 1) := by decide +kernel
theorem dX7_insertRowsOf_51 : decode cX7_insertRowsOf 51 = .ok (.iload_n 2, 1) := by decide +kernel
theorem dX7_insertRowsOf_52 : decode cX7_insertRowsOf 52 = .ok (.invokevirtual 230, 3) := by decide +kernel
theorem dX7_insertRowsOf_55 : decode cX7_insertRowsOf 55 = .ok (.ifCond .ne 7, 3) := by decide +kernel
theorem dX7_insertRowsOf_58 : decode cX7_insertRowsOf 58 = .ok (.iconst 1, 1) := by decide +kernel
theorem dX7_insertRowsOf_59 : decode cX7_insertRowsOf 59 = .ok (.goto 4, 3) := by decide +kernel
theorem dX7_insertRowsOf_62 : decode cX7_insertRowsOf 62 = .ok (.iconst 0, 1) := by decide +kernel
theorem dX7_insertRowsOf_63 : decode cX7_insertRowsOf 63 = .ok (.istore 5, 2) := by decide +kernel
theorem dX7_insertRowsOf_65 : decode cX7_insertRowsOf 65 = .ok (.iload 4, 2) := by decide +kernel
theorem dX7_insertRowsOf_67 : decode cX7_insertRowsOf 67 = .ok (.ifCond .eq 16, 3) := by decide +kernel
theorem dX7_insertRowsOf_70 : decode cX7_insertRowsOf 70 = .ok (.aload_n 0, 1) := by decide +kernel
theorem dX7_insertRowsOf_71 : decode cX7_insertRowsOf 71 = .ok (.getfield 20, 3) := by decide +kernel
theorem dX7_insertRowsOf_74 : decode cX7_insertRowsOf 74 = .ok (.getfield 48, 3) := by decide +kernel
theorem dX7_insertRowsOf_77 : decode cX7_insertRowsOf 77 = .ok (.invokevirtual 232, 3) := by decide +kernel
theorem dX7_insertRowsOf_80 : decode cX7_insertRowsOf 80 = .ok (.ifCond .ne 21, 3) := by decide +kernel
theorem dX7_insertRowsOf_83 : decode cX7_insertRowsOf 83 = .ok (.iload 5, 2) := by decide +kernel
theorem dX7_insertRowsOf_85 : decode cX7_insertRowsOf 85 = .ok (.ifCond .eq 20, 3) := by decide +kernel
theorem dX7_insertRowsOf_88 : decode cX7_insertRowsOf 88 = .ok (.aload_n 0, 1) := by decide +kernel
theorem dX7_insertRowsOf_89 : decode cX7_insertRowsOf 89 = .ok (.getfield 20, 3) := by decide +kernel
theorem dX7_insertRowsOf_92 : decode cX7_insertRowsOf 92 = .ok (.getfield 64, 3) := by decide +kernel
theorem dX7_insertRowsOf_95 : decode cX7_insertRowsOf 95 = .ok (.invokevirtual 232, 3) := by decide +kernel
theorem dX7_insertRowsOf_98 : decode cX7_insertRowsOf 98 = .ok (.ifCond .eq 7, 3) := by decide +kernel
theorem dX7_insertRowsOf_101 : decode cX7_insertRowsOf 101 = .ok (.sipush (-10004), 3) := by decide +kernel
theorem dX7_insertRowsOf_104 : decode cX7_insertRowsOf 104 = .ok (.ireturn, 1) := by decide +kernel
theorem dX7_insertRowsOf_105 : decode cX7_insertRowsOf 105 = .ok (.iconst 0, 1) := by decide +kernel
theorem dX7_insertRowsOf_106 : decode cX7_insertRowsOf 106 = .ok (.istore 6, 2) := by decide +kernel
theorem dX7_insertRowsOf_108 : decode cX7_insertRowsOf 108 = .ok (.iload 4, 2) := by decide +kernel
theorem dX7_insertRowsOf_110 : decode cX7_insertRowsOf 110 = .ok (.ifCond .eq 19, 3) := by decide +kernel
theorem dX7_insertRowsOf_113 : decode cX7_insertRowsOf 113 = .ok (.aload_n 0, 1) := by decide +kernel
theorem dX7_insertRowsOf_114 : decode cX7_insertRowsOf 114 = .ok (.getfield 20, 3) := by decide +kernel
theorem dX7_insertRowsOf_117 : decode cX7_insertRowsOf 117 = .ok (.getfield 48, 3) := by decide +kernel
theorem dX7_insertRowsOf_120 : decode cX7_insertRowsOf 120 = .ok (.iload_n 1, 1) := by decide +kernel
theorem dX7_insertRowsOf_121 : decode cX7_insertRowsOf 121 = .ok (.iload_n 3, 1) := by decide +kernel
theorem dX7_insertRowsOf_122 : decode cX7_insertRowsOf 122 = .ok (.invokevirtual 54, 3) := by decide +kernel
theorem dX7_insertRowsOf_125 : decode cX7_insertRowsOf 125 = .ok (.pop, 1) := by decide +kernel
theorem dX7_insertRowsOf_126 : decode cX7_insertRowsOf 126 = .ok (.iinc 6 1, 3) := by decide +kernel
theorem dX7_insertRowsOf_129 : decode cX7_insertRowsOf 129 = .ok (.iload 5, 2) := by decide +kernel
theorem dX7_insertRowsOf_131 : decode cX7_insertRowsOf 131 = .ok (.ifCond .eq 19, 3) := by decide +kernel
theorem dX7_insertRowsOf_134 : decode cX7_insertRowsOf 134 = .ok (.aload_n 0, 1) := by decide +kernel
theorem dX7_insertRowsOf_135 : decode cX7_insertRowsOf 135 = .ok (.getfield 20, 3) := by decide +kernel
theorem dX7_insertRowsOf_138 : decode cX7_insertRowsOf 138 = .ok (.getfield 64, 3) := by decide +kernel
theorem dX7_insertRowsOf_141 : decode cX7_insertRowsOf 141 = .ok (.iload_n 3, 1) := by decide +kernel
theorem dX7_insertRowsOf_142 : decode cX7_insertRowsOf 142 = .ok (.iload_n 2, 1) := by decide +kernel
theorem dX7_insertRowsOf_143 : decode cX7_insertRowsOf 143 = .ok (.invokevirtual 54, 3) := by decide +kernel
theorem dX7_insertRowsOf_146 : decode cX7_insertRowsOf 146 = .ok (.pop, 1) := by decide +kernel
theorem dX7_insertRowsOf_147 : decode cX7_insertRowsOf 147 = .ok (.iinc 6 1, 3) := by decide +kernel
theorem dX7_insertRowsOf_150 : decode cX7_insertRowsOf 150 = .ok (.iload 6, 2) := by decide +kernel
theorem dX7_insertRowsOf_152 : decode cX7_insertRowsOf 152 = .ok (.ireturn, 1) := by decide +kernel
theorem dX7_dropFiltersAgainst_0 : decode cX7_dropFiltersAgainst 0 = .ok (.aload_n 0, 1) := by decide +kernel
theorem dX7_dropFiltersAgainst_1 : decode cX7_dropFiltersAgainst 1 = .ok (.getfield 12, 3) := by decide +kernel
theorem dX7_dropFiltersAgainst_4 : decode cX7_dropFiltersAgainst 4 = .ok (.iload_n 1, 1) := by decide +kernel
theorem dX7_dropFiltersAgainst_5 : decode cX7_dropFiltersAgainst 5 = .ok (.iload_n 2, 1) := by decide +kernel
theorem dX7_dropFiltersAgainst_6 : decode cX7_dropFiltersAgainst 6 = .ok (.invokevirtual 120, 3) := by decide +kernel
theorem dX7_dropFiltersAgainst_9 : decode cX7_dropFiltersAgainst 9 = .ok (.istore_n 3, 1) := by decide +kernel
theorem dX7_dropFiltersAgainst_10 : decode cX7_dropFiltersAgainst 10 = .ok (.iload_n 3, 1) := by decide +kernel
theorem dX7_dropFiltersAgainst_11 : decode cX7_dropFiltersAgainst 11 = .ok (.sipush (-10001), 3) := by decide +kernel
theorem dX7_dropFiltersAgainst_14 : decode cX7_dropFiltersAgainst 14 = .ok (.if_icmp .ne 7, 3) := by decide +kernel
theorem dX7_dropFiltersAgainst_17 : decode cX7_dropFiltersAgainst 17 = .ok (.sipush (-10003), 3) := by decide +kernel
theorem dX7_dropFiltersAgainst_20 : decode cX7_dropFiltersAgainst 20 = .ok (.ireturn, 1) := by decide +kernel
theorem dX7_dropFiltersAgainst_21 : decode cX7_dropFiltersAgainst 21 = .ok (.iconst 5, 1) := by decide +kernel
theorem dX7_dropFiltersAgainst_22 : decode cX7_dropFiltersAgainst 22 = .ok (.istore 4, 2) := by decide +kernel
theorem dX7_dropFiltersAgainst_24 : decode cX7_dropFiltersAgainst 24 = .ok (.iload 4, 2) := by decide +kernel
theorem dX7_dropFiltersAgainst_26 : decode cX7_dropFiltersAgainst 26 = .ok (.ifCond .lt 31, 3) := by decide +kernel
theorem dX7_dropFiltersAgainst_29 : decode cX7_dropFiltersAgainst 29 = .ok (.iload_n 3, 1) := by decide +kernel
theorem dX7_dropFiltersAgainst_30 : decode cX7_dropFiltersAgainst 30 = .ok (.iconst 1, 1) := by decide +kernel
theorem dX7_dropFiltersAgainst_31 : decode cX7_dropFiltersAgainst 31 = .ok (.iload 4, 2) := by decide +kernel
theorem dX7_dropFiltersAgainst_33 : decode cX7_dropFiltersAgainst 33 = .ok (.ishl, 1) := by decide +kernel
theorem dX7_dropFiltersAgainst_34 : decode cX7_dropFiltersAgainst 34 = .ok (.iand, 1) := by decide +kernel
theorem dX7_dropFiltersAgainst_35 : decode cX7_dropFiltersAgainst 35 = .ok (.ifCond .eq 16, 3) := by decide +kernel
theorem dX7_dropFiltersAgainst_38 : decode cX7_dropFiltersAgainst 38 = .ok (.aload_n 0, 1) := by decide +kernel
theorem dX7_dropFiltersAgainst_39 : decode cX7_dropFiltersAgainst 39 = .ok (.getfield 20, 3) := by decide +kernel
theorem dX7_dropFiltersAgainst_42 : decode cX7_dropFiltersAgainst 42 = .ok (.getfield 76, 3) := by decide +kernel
theorem dX7_dropFiltersAgainst_45 : decode cX7_dropFiltersAgainst 45 = .ok (.iload 4, 2) := by decide +kernel
theorem dX7_dropFiltersAgainst_47 : decode cX7_dropFiltersAgainst 47 = .ok (.invokevirtual 85, 3) := by decide +kernel
theorem dX7_dropFiltersAgainst_50 : decode cX7_dropFiltersAgainst 50 = .ok (.pop, 1) := by decide +kernel
theorem dX7_dropFiltersAgainst_51 : decode cX7_dropFiltersAgainst 51 = .ok (.iinc 4 (-1), 3) := by decide +kernel
theorem dX7_dropFiltersAgainst_54 : decode cX7_dropFiltersAgainst 54 = .ok (.goto (-30), 3) := by decide +kernel
theorem dX7_dropFiltersAgainst_57 : decode cX7_dropFiltersAgainst 57 = .ok (.iload_n 3, 1) := by decide +kernel
theorem dX7_dropFiltersAgainst_58 : decode cX7_dropFiltersAgainst 58 = .ok (.invokestatic 235, 3) := by decide +kernel
theorem dX7_dropFiltersAgainst_61 : decode cX7_dropFiltersAgainst 61 = .ok (.ireturn, 1) := by decide +kernel
theorem dX7_perform_0 : decode cX7_perform 0 = .ok (.aload_n 0, 1) := by decide +kernel
theorem dX7_perform_1 : decode cX7_perform 1 = .ok (.getfield 31, 3) := by decide +kernel
theorem dX7_perform_4 : decode cX7_perform 4 = .ok (.iload_n 1, 1) := by decide +kernel
theorem dX7_perform_5 : decode cX7_perform 5 = .ok (.iconst 0, 1) := by decide +kernel
theorem dX7_perform_6 : decode cX7_perform 6 = .ok (.invokevirtual 240, 3) := by decide +kernel
theorem dX7_perform_9 : decode cX7_perform 9 = .ok (.istore_n 2, 1) := by decide +kernel
theorem dX7_perform_10 : decode cX7_perform 10 = .ok (.aload_n 0, 1) := by decide +kernel
theorem dX7_perform_11 : decode cX7_perform 11 = .ok (.getfield 31, 3) := by decide +kernel
theorem dX7_perform_14 : decode cX7_perform 14 = .ok (.iload_n 1, 1) := by decide +kernel
theorem dX7_perform_15 : decode cX7_perform 15 = .ok (.iconst 1, 1) := by decide +kernel
theorem dX7_perform_16 : decode cX7_perform 16 = .ok (.invokevirtual 240, 3) := by decide +kernel
theorem dX7_perform_19 : decode cX7_perform 19 = .ok (.istore_n 3, 1) := by decide +kernel
theorem dX7_perform_20 : decode cX7_perform 20 = .ok (.aload_n 0, 1) := by decide +kernel
theorem dX7_perform_21 : decode cX7_perform 21 = .ok (.getfield 31, 3) := by decide +kernel
theorem dX7_perform_24 : decode cX7_perform 24 = .ok (.iload_n 1, 1) := by decide +kernel
theorem dX7_perform_25 : decode cX7_perform 25 = .ok (.invokevirtual 243, 3) := by decide +kernel
theorem dX7_perform_28 : decode cX7_perform 28 = .ok (.lookupswitch 134 #[(102, 78), (108, 52), (114, 65), (119, 121), (120, 109)], 52) := by decide +kernel
theorem dX7_perform_80 : decode cX7_perform 80 = .ok (.aload_n 0, 1) := by decide +kernel
theorem dX7_perform_81 : decode cX7_perform 81 = .ok (.getfield 20, 3) := by decide +kernel
theorem dX7_perform_84 : decode cX7_perform 84 = .ok (.getfield 48, 3) := by decide +kernel
theorem dX7_perform_87 : decode cX7_perform 87 = .ok (.iload_n 2, 1) := by decide +kernel
theorem dX7_perform_88 : decode cX7_perform 88 = .ok (.iload_n 3, 1) := by decide +kernel
theorem dX7_perform_89 : decode cX7_perform 89 = .ok (.invokevirtual 54, 3) := by decide +kernel
theorem dX7_perform_92 : decode cX7_perform 92 = .ok (.ireturn, 1) := by decide +kernel
theorem dX7_perform_93 : decode cX7_perform 93 = .ok (.aload_n 0, 1) := by decide +kernel
theorem dX7_perform_94 : decode cX7_perform 94 = .ok (.getfield 20, 3) := by decide +kernel
theorem dX7_perform_97 : decode cX7_perform 97 = .ok (.getfield 64, 3) := by decide +kernel
theorem dX7_perform_100 : decode cX7_perform 100 = .ok (.iload_n 2, 1) := by decide +kernel
theorem dX7_perform_101 : decode cX7_perform 101 = .ok (.iload_n 3, 1) := by decide +kernel
theorem dX7_perform_102 : decode cX7_perform 102 = .ok (.invokevirtual 54, 3) := by decide +kernel
theorem dX7_perform_105 : decode cX7_perform 105 = .ok (.ireturn, 1) := by decide +kernel
theorem dX7_perform_106 : decode cX7_perform 106 = .ok (.aload_n 0, 1) := by decide +kernel
theorem dX7_perform_107 : decode cX7_perform 107 = .ok (.getfield 20, 3) := by decide +kernel
theorem dX7_perform_110 : decode cX7_perform 110 = .ok (.getfield 76, 3) := by decide +kernel
theorem dX7_perform_113 : decode cX7_perform 113 = .ok (.iload_n 2, 1) := by decide +kernel
theorem dX7_perform_114 : decode cX7_perform 114 = .ok (.iload_n 3, 1) := by decide +kernel
theorem dX7_perform_115 : decode cX7_perform 115 = .ok (.aload_n 0, 1) := by decide +kernel
theorem dX7_perform_116 : decode cX7_perform 116 = .ok (.getfield 31, 3) := by decide +kernel
theorem dX7_perform_119 : decode cX7_perform 119 = .ok (.iload_n 1, 1) := by decide +kernel
theorem dX7_perform_120 : decode cX7_perform 120 = .ok (.iconst 2, 1) := by decide +kernel
theorem dX7_perform_121 : decode cX7_perform 121 = .ok (.invokevirtual 240, 3) := by decide +kernel
theorem dX7_perform_124 : decode cX7_perform 124 = .ok (.aload_n 0, 1) := by decide +kernel
theorem dX7_perform_125 : decode cX7_perform 125 = .ok (.getfield 31, 3) := by decide +kernel
theorem dX7_perform_128 : decode cX7_perform 128 = .ok (.iload_n 1, 1) := by decide +kernel
theorem dX7_perform_129 : decode cX7_perform 129 = .ok (.iconst 3, 1) := by decide +kernel
theorem dX7_perform_130 : decode cX7_perform 130 = .ok (.invokevirtual 240, 3) := by decide +kernel
theorem dX7_perform_133 : decode cX7_perform 133 = .ok (.invokevirtual 80, 3) := by decide +kernel
theorem dX7_perform_136 : decode cX7_perform 136 = .ok (.ireturn, 1) := by decide +kernel
theorem dX7_perform_137 : decode cX7_perform 137 = .ok (.aload_n 0, 1) := by decide +kernel
theorem dX7_perform_138 : decode cX7_perform 138 = .ok (.getfield 20, 3) := by decide +kernel
theorem dX7_perform_141 : decode cX7_perform 141 = .ok (.getfield 76, 3) := by decide +kernel
theorem dX7_perform_144 : decode cX7_perform 144 = .ok (.iload_n 2, 1) := by decide +kernel
theorem dX7_perform_145 : decode cX7_perform 145 = .ok (.invokevirtual 85, 3) := by decide +kernel
theorem dX7_perform_148 : decode cX7_perform 148 = .ok (.ireturn, 1) := by decide +kernel
theorem dX7_perform_149 : decode cX7_perform 149 = .ok (.aload_n 0, 1) := by decide +kernel
theorem dX7_perform_150 : decode cX7_perform 150 = .ok (.getfield 20, 3) := by decide +kernel
theorem dX7_perform_153 : decode cX7_perform 153 = .ok (.getfield 139, 3) := by decide +kernel
theorem dX7_perform_156 : decode cX7_perform 156 = .ok (.iload_n 2, 1) := by decide +kernel
theorem dX7_perform_157 : decode cX7_perform 157 = .ok (.iload_n 3, 1) := by decide +kernel
theorem dX7_perform_158 : decode cX7_perform 158 = .ok (.invokevirtual 54, 3) := by decide +kernel
theorem dX7_perform_161 : decode cX7_perform 161 = .ok (.ireturn, 1) := by decide +kernel
theorem dX7_perform_162 : decode cX7_perform 162 = .ok (.aload_n 0, 1) := by decide +kernel
theorem dX7_perform_163 : decode cX7_perform 163 = .ok (.getfield 20, 3) := by decide +kernel
theorem dX7_perform_166 : decode cX7_perform 166 = .ok (.getfield 139, 3) := by decide +kernel
theorem dX7_perform_169 : decode cX7_perform 169 = .ok (.invokevirtual 142, 3) := by decide +kernel
theorem dX7_perform_172 : decode cX7_perform 172 = .ok (.ireturn, 1) := by decide +kernel
theorem dX7_isError_0 : decode cX7_isError 0 = .ok (.iload_n 0, 1) := by decide +kernel
theorem dX7_isError_1 : decode cX7_isError 1 = .ok (.sipush (-10002), 3) := by decide +kernel
theorem dX7_isError_4 : decode cX7_isError 4 = .ok (.if_icmp .eq 17, 3) := by decide +kernel
theorem dX7_isError_7 : decode cX7_isError 7 = .ok (.iload_n 0, 1) := by decide +kernel
theorem dX7_isError_8 : decode cX7_isError 8 = .ok (.sipush (-10003), 3) := by decide +kernel
theorem dX7_isError_11 : decode cX7_isError 11 = .ok (.if_icmp .eq 10, 3) := by decide +kernel
theorem dX7_isError_14 : decode cX7_isError 14 = .ok (.iload_n 0, 1) := by decide +kernel
theorem dX7_isError_15 : decode cX7_isError 15 = .ok (.sipush (-10004), 3) := by decide +kernel
theorem dX7_isError_18 : decode cX7_isError 18 = .ok (.if_icmp .ne 7, 3) := by decide +kernel
theorem dX7_isError_21 : decode cX7_isError 21 = .ok (.iconst 1, 1) := by decide +kernel
theorem dX7_isError_22 : decode cX7_isError 22 = .ok (.goto 4, 3) := by decide +kernel
theorem dX7_isError_25 : decode cX7_isError 25 = .ok (.iconst 0, 1) := by decide +kernel
theorem dX7_isError_26 : decode cX7_isError 26 = .ok (.ireturn, 1) := by decide +kernel
theorem dX7_isValue_0 : decode cX7_isValue 0 = .ok (.iload_n 0, 1) := by decide +kernel
theorem dX7_isValue_1 : decode cX7_isValue 1 = .ok (.ifCond .lt 13, 3) := by decide +kernel
theorem dX7_isValue_4 : decode cX7_isValue 4 = .ok (.iload_n 0, 1) := by decide +kernel
theorem dX7_isValue_5 : decode cX7_isValue 5 = .ok (.bipush 10, 2) := by decide +kernel
theorem dX7_isValue_7 : decode cX7_isValue 7 = .ok (.if_icmp .ge 7, 3) := by decide +kernel
theorem dX7_isValue_10 : decode cX7_isValue 10 = .ok (.iconst 1, 1) := by decide +kernel
theorem dX7_isValue_11 : decode cX7_isValue 11 = .ok (.goto 4, 3) := by decide +kernel
theorem dX7_isValue_14 : decode cX7_isValue 14 = .ok (.iconst 0, 1) := by decide +kernel
theorem dX7_isValue_15 : decode cX7_isValue 15 = .ok (.ireturn, 1) := by decide +kernel
theorem dX7_isPair_0 : decode cX7_isPair 0 = .ok (.iload_n 0, 1) := by decide +kernel
theorem dX7_isPair_1 : decode cX7_isPair 1 = .ok (.invokestatic 246, 3) := by decide +kernel
theorem dX7_isPair_4 : decode cX7_isPair 4 = .ok (.ifCond .eq 14, 3) := by decide +kernel
theorem dX7_isPair_7 : decode cX7_isPair 7 = .ok (.iload_n 1, 1) := by decide +kernel
theorem dX7_isPair_8 : decode cX7_isPair 8 = .ok (.invokestatic 246, 3) := by decide +kernel
theorem dX7_isPair_11 : decode cX7_isPair 11 = .ok (.ifCond .eq 7, 3) := by decide +kernel
theorem dX7_isPair_14 : decode cX7_isPair 14 = .ok (.iconst 1, 1) := by decide +kernel
theorem dX7_isPair_15 : decode cX7_isPair 15 = .ok (.goto 4, 3) := by decide +kernel
theorem dX7_isPair_18 : decode cX7_isPair 18 = .ok (.iconst 0, 1) := by decide +kernel
theorem dX7_isPair_19 : decode cX7_isPair 19 = .ok (.ireturn, 1) := by decide +kernel
theorem dX7_isIn_0 : decode cX7_isIn 0 = .ok (.iload_n 0, 1) := by decide +kernel
theorem dX7_isIn_1 : decode cX7_isIn 1 = .ok (.iconst 1, 1) := by decide +kernel
theorem dX7_isIn_2 : decode cX7_isIn 2 = .ok (.iload_n 1, 1) := by decide +kernel
theorem dX7_isIn_3 : decode cX7_isIn 3 = .ok (.ishl, 1) := by decide +kernel
theorem dX7_isIn_4 : decode cX7_isIn 4 = .ok (.iand, 1) := by decide +kernel
theorem dX7_isIn_5 : decode cX7_isIn 5 = .ok (.ifCond .eq 7, 3) := by decide +kernel
theorem dX7_isIn_8 : decode cX7_isIn 8 = .ok (.iconst 1, 1) := by decide +kernel
theorem dX7_isIn_9 : decode cX7_isIn 9 = .ok (.goto 4, 3) := by decide +kernel
theorem dX7_isIn_12 : decode cX7_isIn 12 = .ok (.iconst 0, 1) := by decide +kernel
theorem dX7_isIn_13 : decode cX7_isIn 13 = .ok (.ireturn, 1) := by decide +kernel
theorem dX8_init_0 : decode cX8_init 0 = .ok (.aload_n 0, 1) := by decide +kernel
theorem dX8_init_1 : decode cX8_init 1 = .ok (.invokespecial 1, 3) := by decide +kernel
theorem dX8_init_4 : decode cX8_init 4 = .ok (.aload_n 0, 1) := by decide +kernel
theorem dX8_init_5 : decode cX8_init 5 = .ok (.bipush 52, 2) := by decide +kernel
theorem dX8_init_7 : decode cX8_init 7 = .ok (.newarray .int, 2) := by decide +kernel
theorem dX8_init_9 : decode cX8_init 9 = .ok (.putfield 7, 3) := by decide +kernel
theorem dX8_init_12 : decode cX8_init 12 = .ok (.aload_n 0, 1) := by decide +kernel
theorem dX8_init_13 : decode cX8_init 13 = .ok (.bipush 52, 2) := by decide +kernel
theorem dX8_init_15 : decode cX8_init 15 = .ok (.newarray .int, 2) := by decide +kernel
theorem dX8_init_17 : decode cX8_init 17 = .ok (.putfield 13, 3) := by decide +kernel
theorem dX8_init_20 : decode cX8_init 20 = .ok (.aload_n 0, 1) := by decide +kernel
theorem dX8_init_21 : decode cX8_init 21 = .ok (.sipush 260, 3) := by decide +kernel
theorem dX8_init_24 : decode cX8_init 24 = .ok (.newarray .int, 2) := by decide +kernel
theorem dX8_init_26 : decode cX8_init 26 = .ok (.putfield 16, 3) := by decide +kernel
theorem dX8_init_29 : decode cX8_init 29 = .ok (.aload_n 0, 1) := by decide +kernel
theorem dX8_init_30 : decode cX8_init 30 = .ok (.iconst 3, 1) := by decide +kernel
theorem dX8_init_31 : decode cX8_init 31 = .ok (.newarray .int, 2) := by decide +kernel
theorem dX8_init_33 : decode cX8_init 33 = .ok (.putfield 19, 3) := by decide +kernel
theorem dX8_init_36 : decode cX8_init 36 = .ok (.aload_n 0, 1) := by decide +kernel
theorem dX8_init_37 : decode cX8_init 37 = .ok (.bipush 120, 2) := by decide +kernel
theorem dX8_init_39 : decode cX8_init 39 = .ok (.newarray .byte, 2) := by decide +kernel
theorem dX8_init_41 : decode cX8_init 41 = .ok (.putfield 22, 3) := by decide +kernel
theorem dX8_init_44 : decode cX8_init 44 = .ok (.aload_n 0, 1) := by decide +kernel
theorem dX8_init_45 : decode cX8_init 45 = .ok (.sipush 320, 3) := by decide +kernel
theorem dX8_init_48 : decode cX8_init 48 = .ok (.newarray .int, 2) := by decide +kernel
theorem dX8_init_50 : decode cX8_init 50 = .ok (.putfield 26, 3) := by decide +kernel
theorem dX8_init_53 : decode cX8_init 53 = .ok (.return_, 1) := by decide +kernel
theorem dX8_in_0 : decode cX8_in 0 = .ok (.iload_n 0, 1) := by decide +kernel
theorem dX8_in_1 : decode cX8_in 1 = .ok (.iload_n 1, 1) := by decide +kernel
theorem dX8_in_2 : decode cX8_in 2 = .ok (.if_icmp .lt 12, 3) := by decide +kernel
theorem dX8_in_5 : decode cX8_in 5 = .ok (.iload_n 0, 1) := by decide +kernel
theorem dX8_in_6 : decode cX8_in 6 = .ok (.iload_n 2, 1) := by decide +kernel
theorem dX8_in_7 : decode cX8_in 7 = .ok (.if_icmp .gt 7, 3) := by decide +kernel
theorem dX8_in_10 : decode cX8_in 10 = .ok (.iconst 1, 1) := by decide +kernel
theorem dX8_in_11 : decode cX8_in 11 = .ok (.goto 4, 3) := by decide +kernel
theorem dX8_in_14 : decode cX8_in 14 = .ok (.iconst 0, 1) := by decide +kernel
theorem dX8_in_15 : decode cX8_in 15 = .ok (.ireturn, 1) := by decide +kernel
theorem dX8_fail_0 : decode cX8_fail 0 = .ok (.aload_n 0, 1) := by decide +kernel
theorem dX8_fail_1 : decode cX8_fail 1 = .ok (.getfield 29, 3) := by decide +kernel
theorem dX8_fail_4 : decode cX8_fail 4 = .ok (.ifCond .ne 17, 3) := by decide +kernel
theorem dX8_fail_7 : decode cX8_fail 7 = .ok (.aload_n 0, 1) := by decide +kernel
theorem dX8_fail_8 : decode cX8_fail 8 = .ok (.getfield 19, 3) := by decide +kernel
theorem dX8_fail_11 : decode cX8_fail 11 = .ok (.sipush (-10002), 3) := by decide +kernel
theorem dX8_fail_14 : decode cX8_fail 14 = .ok (.iload_n 1, 1) := by decide +kernel
theorem dX8_fail_15 : decode cX8_fail 15 = .ok (.isub, 1) := by decide +kernel
theorem dX8_fail_16 : decode cX8_fail 16 = .ok (.dup2, 1) := by decide +kernel
theorem dX8_fail_17 : decode cX8_fail 17 = .ok (.iaload, 1) := by decide +kernel
theorem dX8_fail_18 : decode cX8_fail 18 = .ok (.iconst 1, 1) := by decide +kernel
theorem dX8_fail_19 : decode cX8_fail 19 = .ok (.iadd, 1) := by decide +kernel
theorem dX8_fail_20 : decode cX8_fail 20 = .ok (.iastore, 1) := by decide +kernel
theorem dX8_fail_21 : decode cX8_fail 21 = .ok (.iload_n 1, 1) := by decide +kernel
theorem dX8_fail_22 : decode cX8_fail 22 = .ok (.ireturn, 1) := by decide +kernel
theorem dX8_note_0 : decode cX8_note 0 = .ok (.aload_n 0, 1) := by decide +kernel
theorem dX8_note_1 : decode cX8_note 1 = .ok (.getfield 29, 3) := by decide +kernel
theorem dX8_note_4 : decode cX8_note 4 = .ok (.ifCond .eq 4, 3) := by decide +kernel
theorem dX8_note_7 : decode cX8_note 7 = .ok (.return_, 1) := by decide +kernel
theorem dX8_note_8 : decode cX8_note 8 = .ok (.aload_n 0, 1) := by decide +kernel
theorem dX8_note_9 : decode cX8_note 9 = .ok (.getfield 33, 3) := by decide +kernel
theorem dX8_note_12 : decode cX8_note 12 = .ok (.iconst 5, 1) := by decide +kernel
theorem dX8_note_13 : decode cX8_note 13 = .ok (.if_icmp .ne 43, 3) := by decide +kernel
theorem dX8_note_16 : decode cX8_note 16 = .ok (.iconst 0, 1) := by decide +kernel
theorem dX8_note_17 : decode cX8_note 17 = .ok (.istore_n 1, 1) := by decide +kernel
theorem dX8_note_18 : decode cX8_note 18 = .ok (.iload_n 1, 1) := by decide +kernel
theorem dX8_note_19 : decode cX8_note 19 = .ok (.sipush 208, 3) := by decide +kernel
theorem dX8_note_22 : decode cX8_note 22 = .ok (.if_icmp .ge 24, 3) := by decide +kernel
theorem dX8_note_25 : decode cX8_note 25 = .ok (.aload_n 0, 1) := by decide +kernel
theorem dX8_note_26 : decode cX8_note 26 = .ok (.getfield 16, 3) := by decide +kernel
theorem dX8_note_29 : decode cX8_note 29 = .ok (.iload_n 1, 1) := by decide +kernel
theorem dX8_note_30 : decode cX8_note 30 = .ok (.aload_n 0, 1) := by decide +kernel
theorem dX8_note_31 : decode cX8_note 31 = .ok (.getfield 16, 3) := by decide +kernel
theorem dX8_note_34 : decode cX8_note 34 = .ok (.iload_n 1, 1) := by decide +kernel
theorem dX8_note_35 : decode cX8_note 35 = .ok (.bipush 52, 2) := by decide +kernel
theorem dX8_note_37 : decode cX8_note 37 = .ok (.iadd, 1) := by decide +kernel
theorem dX8_note_38 : decode cX8_note 38 = .ok (.iaload, 1) := by decide +kernel
theorem dX8_note_39 : decode cX8_note 39 = .ok (.iastore, 1) := by decide +kernel
theorem dX8_note_40 : decode cX8_note 40 = .ok (.iinc 1 1, 3) := by decide +kernel
theorem dX8_note_43 : decode cX8_note 43 = .ok (.goto (-25), 3) := by decide +kernel
theorem dX8_note_46 : decode cX8_note 46 = .ok (.aload_n 0, 1) := by decide +kernel
theorem dX8_note_47 : decode cX8_note 47 = .ok (.dup, 1) := by decide +kernel
theorem dX8_note_48 : decode cX8_note 48 = .ok (.getfield 33, 3) := by decide +kernel
theorem dX8_note_51 : decode cX8_note 51 = .ok (.iconst 1, 1) := by decide +kernel
theorem dX8_note_52 : decode cX8_note 52 = .ok (.isub, 1) := by decide +kernel
theorem dX8_note_53 : decode cX8_note 53 = .ok (.putfield 33, 3) := by decide +kernel
theorem dX8_note_56 : decode cX8_note 56 = .ok (.iconst 0, 1) := by decide +kernel
theorem dX8_note_57 : decode cX8_note 57 = .ok (.istore_n 1, 1) := by decide +kernel
theorem dX8_note_58 : decode cX8_note 58 = .ok (.iload_n 1, 1) := by decide +kernel
theorem dX8_note_59 : decode cX8_note 59 = .ok (.bipush 52, 2) := by decide +kernel
theorem dX8_note_61 : decode cX8_note 61 = .ok (.if_icmp .ge 29, 3) := by decide +kernel
theorem dX8_note_64 : decode cX8_note 64 = .ok (.aload_n 0, 1) := by decide +kernel
theorem dX8_note_65 : decode cX8_note 65 = .ok (.getfield 16, 3) := by decide +kernel
theorem dX8_note_68 : decode cX8_note 68 = .ok (.bipush 52, 2) := by decide +kernel
theorem dX8_note_70 : decode cX8_note 70 = .ok (.aload_n 0, 1) := by decide +kernel
theorem dX8_note_71 : decode cX8_note 71 = .ok (.getfield 33, 3) := by decide +kernel
theorem dX8_note_74 : decode cX8_note 74 = .ok (.imul, 1) := by decide +kernel
theorem dX8_note_75 : decode cX8_note 75 = .ok (.iload_n 1, 1) := by decide +kernel
theorem dX8_note_76 : decode cX8_note 76 = .ok (.iadd, 1) := by decide +kernel
theorem dX8_note_77 : decode cX8_note 77 = .ok (.aload_n 0, 1) := by decide +kernel
theorem dX8_note_78 : decode cX8_note 78 = .ok (.getfield 7, 3) := by decide +kernel
theorem dX8_note_81 : decode cX8_note 81 = .ok (.iload_n 1, 1) := by decide +kernel
theorem dX8_note_82 : decode cX8_note 82 = .ok (.iaload, 1) := by decide +kernel
theorem dX8_note_83 : decode cX8_note 83 = .ok (.iastore, 1) := by decide +kernel
theorem dX8_note_84 : decode cX8_note 84 = .ok (.iinc 1 1, 3) := by decide +kernel
theorem dX8_note_87 : decode cX8_note 87 = .ok (.goto (-29), 3) := by decide +kernel
theorem dX8_note_90 : decode cX8_note 90 = .ok (.aload_n 0, 1) := by decide +kernel
theorem dX8_note_91 : decode cX8_note 91 = .ok (.dup, 1) := by decide +kernel
theorem dX8_note_92 : decode cX8_note 92 = .ok (.getfield 33, 3) := by decide +kernel
theorem dX8_note_95 : decode cX8_note 95 = .ok (.iconst 1, 1) := by decide +kernel
theorem dX8_note_96 : decode cX8_note 96 = .ok (.iadd, 1) := by decide +kernel
theorem dX8_note_97 : decode cX8_note 97 = .ok (.putfield 33, 3) := by decide +kernel
theorem dX8_note_100 : decode cX8_note 100 = .ok (.return_, 1) := by decide +kernel
theorem dX8_isDigitPair_0 : decode cX8_isDigitPair 0 = .ok (.iload_n 0, 1) := by decide +kernel
theorem dX8_isDigitPair_1 : decode cX8_isDigitPair 1 = .ok (.iconst 0, 1) := by decide +kernel
theorem dX8_isDigitPair_2 : decode cX8_isDigitPair 2 = .ok (.bipush 9, 2) := by decide +kernel
theorem dX8_isDigitPair_4 : decode cX8_isDigitPair 4 = .ok (.invokestatic 37, 3) := by decide +kernel
theorem dX8_isDigitPair_7 : decode cX8_isDigitPair 7 = .ok (.ifCond .eq 17, 3) := by decide +kernel
theorem dX8_isDigitPair_10 : decode cX8_isDigitPair 10 = .ok (.iload_n 1, 1) := by decide +kernel
theorem dX8_isDigitPair_11 : decode cX8_isDigitPair 11 = .ok (.iconst 0, 1) := by decide +kernel
theorem dX8_isDigitPair_12 : decode cX8_isDigitPair 12 = .ok (.bipush 9, 2) := by decide +kernel
theorem dX8_isDigitPair_14 : decode cX8_isDigitPair 14 = .ok (.invokestatic 37, 3) := by decide +kernel
theorem dX8_isDigitPair_17 : decode cX8_isDigitPair 17 = .ok (.ifCond .eq 7, 3) := by decide +kernel
theorem dX8_isDigitPair_20 : decode cX8_isDigitPair 20 = .ok (.iconst 1, 1) := by decide +kernel
theorem dX8_isDigitPair_21 : decode cX8_isDigitPair 21 = .ok (.goto 4, 3) := by decide +kernel
theorem dX8_isDigitPair_24 : decode cX8_isDigitPair 24 = .ok (.iconst 0, 1) := by decide +kernel
theorem dX8_isDigitPair_25 : decode cX8_isDigitPair 25 = .ok (.ireturn, 1) := by decide +kernel
theorem dX8_placeOf_0 : decode cX8_placeOf 0 = .ok (.iconst 0, 1) := by decide +kernel
theorem dX8_placeOf_1 : decode cX8_placeOf 1 = .ok (.istore_n 3, 1) := by decide +kernel
theorem dX8_placeOf_2 : decode cX8_placeOf 2 = .ok (.iload_n 3, 1) := by decide +kernel
theorem dX8_placeOf_3 : decode cX8_placeOf 3 = .ok (.aload_n 0, 1) := by decide +kernel
theorem dX8_placeOf_4 : decode cX8_placeOf 4 = .ok (.getfield 7, 3) := by decide +kernel
theorem dX8_placeOf_7 : decode cX8_placeOf 7 = .ok (.iload_n 1, 1) := by decide +kernel
theorem dX8_placeOf_8 : decode cX8_placeOf 8 = .ok (.iaload, 1) := by decide +kernel
theorem dX8_placeOf_9 : decode cX8_placeOf 9 = .ok (.if_icmp .ge 25, 3) := by decide +kernel
theorem dX8_placeOf_12 : decode cX8_placeOf 12 = .ok (.aload_n 0, 1) := by decide +kernel
theorem dX8_placeOf_13 : decode cX8_placeOf 13 = .ok (.getfield 7, 3) := by decide +kernel
theorem dX8_placeOf_16 : decode cX8_placeOf 16 = .ok (.iload_n 1, 1) := by decide +kernel
theorem dX8_placeOf_17 : decode cX8_placeOf 17 = .ok (.iconst 1, 1) := by decide +kernel
theorem dX8_placeOf_18 : decode cX8_placeOf 18 = .ok (.iadd, 1) := by decide +kernel
theorem dX8_placeOf_19 : decode cX8_placeOf 19 = .ok (.iload_n 3, 1) := by decide +kernel
theorem dX8_placeOf_20 : decode cX8_placeOf 20 = .ok (.iadd, 1) := by decide +kernel
theorem dX8_placeOf_21 : decode cX8_placeOf 21 = .ok (.iaload, 1) := by decide +kernel
theorem dX8_placeOf_22 : decode cX8_placeOf 22 = .ok (.iload_n 2, 1) := by decide +kernel
theorem dX8_placeOf_23 : decode cX8_placeOf 23 = .ok (.if_icmp .ne 5, 3) := by decide +kernel
theorem dX8_placeOf_26 : decode cX8_placeOf 26 = .ok (.iload_n 3, 1) := by decide +kernel
theorem dX8_placeOf_27 : decode cX8_placeOf 27 = .ok (.ireturn, 1) := by decide +kernel
theorem dX8_placeOf_28 : decode cX8_placeOf 28 = .ok (.iinc 3 1, 3) := by decide +kernel
theorem dX8_placeOf_31 : decode cX8_placeOf 31 = .ok (.goto (-29), 3) := by decide +kernel
theorem dX8_placeOf_34 : decode cX8_placeOf 34 = .ok (.sipush (-10001), 3) := by decide +kernel
theorem dX8_placeOf_37 : decode cX8_placeOf 37 = .ok (.ireturn, 1) := by decide +kernel
theorem dX8_adds_0 : decode cX8_adds 0 = .ok (.iload_n 2, 1) := by decide +kernel
theorem dX8_adds_1 : decode cX8_adds 1 = .ok (.iload_n 3, 1) := by decide +kernel
theorem dX8_adds_2 : decode cX8_adds 2 = .ok (.invokestatic 41, 3) := by decide +kernel
theorem dX8_adds_5 : decode cX8_adds 5 = .ok (.ifCond .ne 11, 3) := by decide +kernel
theorem dX8_adds_8 : decode cX8_adds 8 = .ok (.aload_n 0, 1) := by decide +kernel
theorem dX8_adds_9 : decode cX8_adds 9 = .ok (.sipush (-10002), 3) := by decide +kernel
theorem dX8_adds_12 : decode cX8_adds 12 = .ok (.invokevirtual 45, 3) := by decide +kernel
theorem dX8_adds_15 : decode cX8_adds 15 = .ok (.ireturn, 1) := by decide +kernel
theorem dX8_adds_16 : decode cX8_adds 16 = .ok (.aload_n 0, 1) := by decide +kernel
theorem dX8_adds_17 : decode cX8_adds 17 = .ok (.iload_n 1, 1) := by decide +kernel
theorem dX8_adds_18 : decode cX8_adds 18 = .ok (.bipush 10, 2) := by decide +kernel
theorem dX8_adds_20 : decode cX8_adds 20 = .ok (.iload_n 2, 1) := by decide +kernel
theorem dX8_adds_21 : decode cX8_adds 21 = .ok (.imul, 1) := by decide +kernel
theorem dX8_adds_22 : decode cX8_adds 22 = .ok (.iload_n 3, 1) := by decide +kernel
theorem dX8_adds_23 : decode cX8_adds 23 = .ok (.iadd, 1) := by decide +kernel
theorem dX8_adds_24 : decode cX8_adds 24 = .ok (.invokevirtual 49, 3) := by decide +kernel
theorem dX8_adds_27 : decode cX8_adds 27 = .ok (.sipush (-10001), 3) := by decide +kernel
theorem dX8_adds_30 : decode cX8_adds 30 = .ok (.if_icmp .eq 11, 3) := by decide +kernel
theorem dX8_adds_33 : decode cX8_adds 33 = .ok (.aload_n 0, 1) := by decide +kernel
theorem dX8_adds_34 : decode cX8_adds 34 = .ok (.sipush (-10003), 3) := by decide +kernel
theorem dX8_adds_37 : decode cX8_adds 37 = .ok (.invokevirtual 45, 3) := by decide +kernel
theorem dX8_adds_40 : decode cX8_adds 40 = .ok (.ireturn, 1) := by decide +kernel
theorem dX8_adds_41 : decode cX8_adds 41 = .ok (.aload_n 0, 1) := by decide +kernel
theorem dX8_adds_42 : decode cX8_adds 42 = .ok (.getfield 7, 3) := by decide +kernel
theorem dX8_adds_45 : decode cX8_adds 45 = .ok (.iload_n 1, 1) := by decide +kernel
theorem dX8_adds_46 : decode cX8_adds 46 = .ok (.iaload, 1) := by decide +kernel
theorem dX8_adds_47 : decode cX8_adds 47 = .ok (.bipush 10, 2) := by decide +kernel
theorem dX8_adds_49 : decode cX8_adds 49 = .ok (.if_icmp .ne 11, 3) := by decide +kernel
theorem dX8_adds_52 : decode cX8_adds 52 = .ok (.aload_n 0, 1) := by decide +kernel
theorem dX8_adds_53 : decode cX8_adds 53 = .ok (.sipush (-10004), 3) := by decide +kernel
theorem dX8_adds_56 : decode cX8_adds 56 = .ok (.invokevirtual 45, 3) := by decide +kernel
theorem dX8_adds_59 : decode cX8_adds 59 = .ok (.ireturn, 1) := by decide +kernel
theorem dX8_adds_60 : decode cX8_adds 60 = .ok (.aload_n 0, 1) := by decide +kernel
theorem dX8_adds_61 : decode cX8_adds 61 = .ok (.invokevirtual 53, 3) := by decide +kernel
theorem dX8_adds_64 : decode cX8_adds 64 = .ok (.aload_n 0, 1) := by decide +kernel
theorem dX8_adds_65 : decode cX8_adds 65 = .ok (.iload_n 1, 1) := by decide +kernel
theorem dX8_adds_66 : decode cX8_adds 66 = .ok (.bipush 10, 2) := by decide +kernel
theorem dX8_adds_68 : decode cX8_adds 68 = .ok (.iload_n 2, 1) := by decide +kernel
theorem dX8_adds_69 : decode cX8_adds 69 = .ok (.imul, 1) := by decide +kernel
theorem dX8_adds_70 : decode cX8_adds 70 = .ok (.iload_n 3, 1) := by decide +kernel
theorem dX8_adds_71 : decode cX8_adds 71 = .ok (.iadd, 1) := by decide +kernel
theorem dX8_adds_72 : decode cX8_adds 72 = .ok (.invokevirtual 56, 3) := by decide +kernel
theorem dX8_adds_75 : decode cX8_adds 75 = .ok (.aload_n 0, 1) := by decide +kernel
theorem dX8_adds_76 : decode cX8_adds 76 = .ok (.getfield 7, 3) := by decide +kernel
theorem dX8_adds_79 : decode cX8_adds 79 = .ok (.iload_n 1, 1) := by decide +kernel
theorem dX8_adds_80 : decode cX8_adds 80 = .ok (.iaload, 1) := by decide +kernel
theorem dX8_adds_81 : decode cX8_adds 81 = .ok (.ireturn, 1) := by decide +kernel
theorem dX8_putBehind_0 : decode cX8_putBehind 0 = .ok (.aload_n 0, 1) := by decide +kernel
theorem dX8_putBehind_1 : decode cX8_putBehind 1 = .ok (.getfield 7, 3) := by decide +kernel
theorem dX8_putBehind_4 : decode cX8_putBehind 4 = .ok (.iload_n 1, 1) := by decide +kernel
theorem dX8_putBehind_5 : decode cX8_putBehind 5 = .ok (.iconst 1, 1) := by decide +kernel
theorem dX8_putBehind_6 : decode cX8_putBehind 6 = .ok (.iadd, 1) := by decide +kernel
theorem dX8_putBehind_7 : decode cX8_putBehind 7 = .ok (.aload_n 0, 1) := by decide +kernel
theorem dX8_putBehind_8 : decode cX8_putBehind 8 = .ok (.getfield 7, 3) := by decide +kernel
theorem dX8_putBehind_11 : decode cX8_putBehind 11 = .ok (.iload_n 1, 1) := by decide +kernel
theorem dX8_putBehind_12 : decode cX8_putBehind 12 = .ok (.iaload, 1) := by decide +kernel
theorem dX8_putBehind_13 : decode cX8_putBehind 13 = .ok (.iadd, 1) := by decide +kernel
theorem dX8_putBehind_14 : decode cX8_putBehind 14 = .ok (.iload_n 2, 1) := by decide +kernel
theorem dX8_putBehind_15 : decode cX8_putBehind 15 = .ok (.iastore, 1) := by decide +kernel
theorem dX8_putBehind_16 : decode cX8_putBehind 16 = .ok (.aload_n 0, 1) := by decide +kernel
theorem dX8_putBehind_17 : decode cX8_putBehind 17 = .ok (.getfield 7, 3) := by decide +kernel
theorem dX8_putBehind_20 : decode cX8_putBehind 20 = .ok (.iload_n 1, 1) := by decide +kernel
theorem dX8_putBehind_21 : decode cX8_putBehind 21 = .ok (.dup2, 1) := by decide +kernel
theorem dX8_putBehind_22 : decode cX8_putBehind 22 = .ok (.iaload, 1) := by decide +kernel
theorem dX8_putBehind_23 : decode cX8_putBehind 23 = .ok (.iconst 1, 1) := by decide +kernel
theorem dX8_putBehind_24 : decode cX8_putBehind 24 = .ok (.iadd, 1) := by decide +kernel
theorem dX8_putBehind_25 : decode cX8_putBehind 25 = .ok (.iastore, 1) := by decide +kernel
theorem dX8_putBehind_26 : decode cX8_putBehind 26 = .ok (.return_, 1) := by decide +kernel
theorem dX8_removes_0 : decode cX8_removes 0 = .ok (.iload_n 2, 1) := by decide +kernel
theorem dX8_removes_1 : decode cX8_removes 1 = .ok (.iconst 0, 1) := by decide +kernel
theorem dX8_removes_2 : decode cX8_removes 2 = .ok (.aload_n 0, 1) := by decide +kernel
theorem dX8_removes_3 : decode cX8_removes 3 = .ok (.getfield 7, 3) := by decide +kernel
theorem dX8_removes_6 : decode cX8_removes 6 = .ok (.iload_n 1, 1) := by decide +kernel
theorem dX8_removes_7 : decode cX8_removes 7 = .ok (.iaload, 1) := by decide +kernel
theorem dX8_removes_8 : decode cX8_removes 8 = .ok (.iconst 1, 1) := by decide +kernel
theorem dX8_removes_9 : decode cX8_removes 9 = .ok (.isub, 1) := by decide +kernel
theorem dX8_removes_10 : decode cX8_removes 10 = .ok (.invokestatic 37, 3) := by decide +kernel
theorem dX8_removes_13 : decode cX8_removes 13 = .ok (.ifCond .ne 11, 3) := by decide +kernel
theorem dX8_removes_16 : decode cX8_removes 16 = .ok (.aload_n 0, 1) := by decide +kernel
theorem dX8_removes_17 : decode cX8_removes 17 = .ok (.sipush (-10002), 3) := by decide +kernel
theorem dX8_removes_20 : decode cX8_removes 20 = .ok (.invokevirtual 45, 3) := by decide +kernel
theorem dX8_removes_23 : decode cX8_removes 23 = .ok (.ireturn, 1) := by decide +kernel
theorem dX8_removes_24 : decode cX8_removes 24 = .ok (.aload_n 0, 1) := by decide +kernel
theorem dX8_removes_25 : decode cX8_removes 25 = .ok (.invokevirtual 53, 3) := by decide +kernel
theorem dX8_removes_28 : decode cX8_removes 28 = .ok (.iload_n 2, 1) := by decide +kernel
theorem dX8_removes_29 : decode cX8_removes 29 = .ok (.istore_n 3, 1) := by decide +kernel
theorem dX8_removes_30 : decode cX8_removes 30 = .ok (.iload_n 3, 1) := by decide +kernel
theorem dX8_removes_31 : decode cX8_removes 31 = .ok (.iconst 1, 1) := by decide +kernel
theorem dX8_removes_32 : decode cX8_removes 32 = .ok (.iadd, 1) := by decide +kernel
theorem dX8_removes_33 : decode cX8_removes 33 = .ok (.aload_n 0, 1) := by decide +kernel
theorem dX8_removes_34 : decode cX8_removes 34 = .ok (.getfield 7, 3) := by decide +kernel
theorem dX8_removes_37 : decode cX8_removes 37 = .ok (.iload_n 1, 1) := by decide +kernel
theorem dX8_removes_38 : decode cX8_removes 38 = .ok (.iaload, 1) := by decide +kernel
theorem dX8_removes_39 : decode cX8_removes 39 = .ok (.if_icmp .ge 29, 3) := by decide +kernel
theorem dX8_removes_42 : decode cX8_removes 42 = .ok (.aload_n 0, 1) := by decide +kernel
theorem dX8_removes_43 : decode cX8_removes 43 = .ok (.getfield 7, 3) := by decide +kernel
theorem dX8_removes_46 : decode cX8_removes 46 = .ok (.iload_n 1, 1) := by decide +kernel
theorem dX8_removes_47 : decode cX8_removes 47 = .ok (.iconst 1, 1) := by decide +kernel
theorem dX8_removes_48 : decode cX8_removes 48 = .ok (.iadd, 1) := by decide +kernel
theorem dX8_removes_49 : decode cX8_removes 49 = .ok (.iload_n 3, 1) := by decide +kernel
theorem dX8_removes_50 : decode cX8_removes 50 = .ok (.iadd, 1) := by decide +kernel
theorem dX8_removes_51 : decode cX8_removes 51 = .ok (.aload_n 0, 1) := by decide +kernel
theorem dX8_removes_52 : decode cX8_removes 52 = .ok (.getfield 7, 3) := by decide +kernel
theorem dX8_removes_55 : decode cX8_removes 55 = .ok (.iload_n 1, 1) := by decide +kernel
theorem dX8_removes_56 : decode cX8_removes 56 = .ok (.iconst 2, 1) := by decide +kernel
theorem dX8_removes_57 : decode cX8_removes 57 = .ok (.iadd, 1) := by decide +kernel
theorem dX8_removes_58 : decode cX8_removes 58 = .ok (.iload_n 3, 1) := by decide +kernel
theorem dX8_removes_59 : decode cX8_removes 59 = .ok (.iadd, 1) := by decide +kernel
theorem dX8_removes_60 : decode cX8_removes 60 = .ok (.iaload, 1) := by decide +kernel
theorem dX8_removes_61 : decode cX8_removes 61 = .ok (.iastore, 1) := by decide +kernel
theorem dX8_removes_62 : decode cX8_removes 62 = .ok (.iinc 3 1, 3) := by decide +kernel
theorem dX8_removes_65 : decode cX8_removes 65 = .ok (.goto (-35), 3) := by decide +kernel
theorem dX8_removes_68 : decode cX8_removes 68 = .ok (.aload_n 0, 1) := by decide +kernel
theorem dX8_removes_69 : decode cX8_removes 69 = .ok (.getfield 7, 3) := by decide +kernel
theorem dX8_removes_72 : decode cX8_removes 72 = .ok (.iload_n 1, 1) := by decide +kernel
theorem dX8_removes_73 : decode cX8_removes 73 = .ok (.dup2, 1) := by decide +kernel
theorem dX8_removes_74 : decode cX8_removes 74 = .ok (.iaload, 1) := by decide +kernel
theorem dX8_removes_75 : decode cX8_removes 75 = .ok (.iconst 1, 1) := by decide +kernel
theorem dX8_removes_76 : decode cX8_removes 76 = .ok (.isub, 1) := by decide +kernel
theorem dX8_removes_77 : decode cX8_removes 77 = .ok (.iastore, 1) := by decide +kernel
theorem dX8_removes_78 : decode cX8_removes 78 = .ok (.aload_n 0, 1) := by decide +kernel
theorem dX8_removes_79 : decode cX8_removes 79 = .ok (.getfield 7, 3) := by decide +kernel
theorem dX8_removes_82 : decode cX8_removes 82 = .ok (.iload_n 1, 1) := by decide +kernel
theorem dX8_removes_83 : decode cX8_removes 83 = .ok (.iaload, 1) := by decide +kernel
theorem dX8_removes_84 : decode cX8_removes 84 = .ok (.ireturn, 1) := by decide +kernel
theorem dX8_rowAt_0 : decode cX8_rowAt 0 = .ok (.iload_n 2, 1) := by decide +kernel
theorem dX8_rowAt_1 : decode cX8_rowAt 1 = .ok (.ifCond .ge 13, 3) := by decide +kernel
theorem dX8_rowAt_4 : decode cX8_rowAt 4 = .ok (.aload_n 0, 1) := by decide +kernel
theorem dX8_rowAt_5 : decode cX8_rowAt 5 = .ok (.sipush (-10002), 3) := by decide +kernel
theorem dX8_rowAt_8 : decode cX8_rowAt 8 = .ok (.invokevirtual 45, 3) := by decide +kernel
theorem dX8_rowAt_11 : decode cX8_rowAt 11 = .ok (.goto 29, 3) := by decide +kernel
theorem dX8_rowAt_14 : decode cX8_rowAt 14 = .ok (.iload_n 2, 1) := by decide +kernel
theorem dX8_rowAt_15 : decode cX8_rowAt 15 = .ok (.aload_n 0, 1) := by decide +kernel
theorem dX8_rowAt_16 : decode cX8_rowAt 16 = .ok (.getfield 7, 3) := by decide +kernel
theorem dX8_rowAt_19 : decode cX8_rowAt 19 = .ok (.iload_n 1, 1) := by decide +kernel
theorem dX8_rowAt_20 : decode cX8_rowAt 20 = .ok (.iaload, 1) := by decide +kernel
theorem dX8_rowAt_21 : decode cX8_rowAt 21 = .ok (.if_icmp .ge 16, 3) := by decide +kernel
theorem dX8_rowAt_24 : decode cX8_rowAt 24 = .ok (.aload_n 0, 1) := by decide +kernel
theorem dX8_rowAt_25 : decode cX8_rowAt 25 = .ok (.getfield 7, 3) := by decide +kernel
theorem dX8_rowAt_28 : decode cX8_rowAt 28 = .ok (.iload_n 1, 1) := by decide +kernel
theorem dX8_rowAt_29 : decode cX8_rowAt 29 = .ok (.iconst 1, 1) := by decide +kernel
theorem dX8_rowAt_30 : decode cX8_rowAt 30 = .ok (.iadd, 1) := by decide +kernel
theorem dX8_rowAt_31 : decode cX8_rowAt 31 = .ok (.iload_n 2, 1) := by decide +kernel
theorem dX8_rowAt_32 : decode cX8_rowAt 32 = .ok (.iadd, 1) := by decide +kernel
theorem dX8_rowAt_33 : decode cX8_rowAt 33 = .ok (.iaload, 1) := by decide +kernel
theorem dX8_rowAt_34 : decode cX8_rowAt 34 = .ok (.goto 6, 3) := by decide +kernel
theorem dX8_rowAt_37 : decode cX8_rowAt 37 = .ok (.sipush (-10001), 3) := by decide +kernel
theorem dX8_rowAt_40 : decode cX8_rowAt 40 = .ok (.ireturn, 1) := by decide +kernel
theorem dX8_addLeft_0 : decode cX8_addLeft 0 = .ok (.aload_n 0, 1) := by decide +kernel
theorem dX8_addLeft_1 : decode cX8_addLeft 1 = .ok (.iconst 0, 1) := by decide +kernel
theorem dX8_addLeft_2 : decode cX8_addLeft 2 = .ok (.iload_n 1, 1) := by decide +kernel
theorem dX8_addLeft_3 : decode cX8_addLeft 3 = .ok (.iload_n 2, 1) := by decide +kernel
theorem dX8_addLeft_4 : decode cX8_addLeft 4 = .ok (.invokevirtual 60, 3) := by decide +kernel
theorem dX8_addLeft_7 : decode cX8_addLeft 7 = .ok (.ireturn, 1) := by decide +kernel
theorem dX8_addRight_0 : decode cX8_addRight 0 = .ok (.aload_n 0, 1) := by decide +kernel
theorem dX8_addRight_1 : decode cX8_addRight 1 = .ok (.bipush 11, 2) := by decide +kernel
theorem dX8_addRight_3 : decode cX8_addRight 3 = .ok (.iload_n 1, 1) := by decide +kernel
theorem dX8_addRight_4 : decode cX8_addRight 4 = .ok (.iload_n 2, 1) := by decide +kernel
theorem dX8_addRight_5 : decode cX8_addRight 5 = .ok (.invokevirtual 60, 3) := by decide +kernel
theorem dX8_addRight_8 : decode cX8_addRight 8 = .ok (.ireturn, 1) := by decide +kernel
theorem dX8_removeLeft_0 : decode cX8_removeLeft 0 = .ok (.aload_n 0, 1) := by decide +kernel
theorem dX8_removeLeft_1 : decode cX8_removeLeft 1 = .ok (.iconst 0, 1) := by decide +kernel
theorem dX8_removeLeft_2 : decode cX8_removeLeft 2 = .ok (.iload_n 1, 1) := by decide +kernel
theorem dX8_removeLeft_3 : decode cX8_removeLeft 3 = .ok (.invokevirtual 64, 3) := by decide +kernel
theorem dX8_removeLeft_6 : decode cX8_removeLeft 6 = .ok (.ireturn, 1) := by decide +kernel
theorem dX8_removeRight_0 : decode cX8_removeRight 0 = .ok (.aload_n 0, 1) := by decide +kernel
theorem dX8_removeRight_1 : decode cX8_removeRight 1 = .ok (.bipush 11, 2) := by decide +kernel
theorem dX8_removeRight_3 : decode cX8_removeRight 3 = .ok (.iload_n 1, 1) := by decide +kernel
theorem dX8_removeRight_4 : decode cX8_removeRight 4 = .ok (.invokevirtual 64, 3) := by decide +kernel
theorem dX8_removeRight_7 : decode cX8_removeRight 7 = .ok (.ireturn, 1) := by decide +kernel
theorem dX8_leftRow_0 : decode cX8_leftRow 0 = .ok (.aload_n 0, 1) := by decide +kernel
theorem dX8_leftRow_1 : decode cX8_leftRow 1 = .ok (.iconst 0, 1) := by decide +kernel
theorem dX8_leftRow_2 : decode cX8_leftRow 2 = .ok (.iload_n 1, 1) := by decide +kernel
theorem dX8_leftRow_3 : decode cX8_leftRow 3 = .ok (.invokevirtual 67, 3) := by decide +kernel
theorem dX8_leftRow_6 : decode cX8_leftRow 6 = .ok (.ireturn, 1) := by decide +kernel
theorem dX8_rightRow_0 : decode cX8_rightRow 0 = .ok (.aload_n 0, 1) := by decide +kernel
theorem dX8_rightRow_1 : decode cX8_rightRow 1 = .ok (.bipush 11, 2) := by decide +kernel
theorem dX8_rightRow_3 : decode cX8_rightRow 3 = .ok (.iload_n 1, 1) := by decide +kernel
theorem dX8_rightRow_4 : decode cX8_rightRow 4 = .ok (.invokevirtual 67, 3) := by decide +kernel
theorem dX8_rightRow_7 : decode cX8_rightRow 7 = .ok (.ireturn, 1) := by decide +kernel
theorem dX8_of_0 : decode cX8_of 0 = .ok (.aload_n 0, 1) := by decide +kernel
theorem dX8_of_1 : decode cX8_of 1 = .ok (.getfield 7, 3) := by decide +kernel
theorem dX8_of_4 : decode cX8_of 4 = .ok (.bipush 23, 2) := by decide +kernel
theorem dX8_of_6 : decode cX8_of 6 = .ok (.iconst 4, 1) := by decide +kernel
theorem dX8_of_7 : decode cX8_of 7 = .ok (.iload_n 1, 1) := by decide +kernel
theorem dX8_of_8 : decode cX8_of 8 = .ok (.imul, 1) := by decide +kernel
theorem dX8_of_9 : decode cX8_of 9 = .ok (.iadd, 1) := by decide +kernel
theorem dX8_of_10 : decode cX8_of 10 = .ok (.iload_n 2, 1) := by decide +kernel
theorem dX8_of_11 : decode cX8_of 11 = .ok (.iadd, 1) := by decide +kernel
theorem dX8_of_12 : decode cX8_of 12 = .ok (.iaload, 1) := by decide +kernel
theorem dX8_of_13 : decode cX8_of 13 = .ok (.ireturn, 1) := by decide +kernel
theorem dX8_isFilter_0 : decode cX8_isFilter 0 = .ok (.iload_n 1, 1) := by decide +kernel
theorem dX8_isFilter_1 : decode cX8_isFilter 1 = .ok (.iconst 0, 1) := by decide +kernel
theorem dX8_isFilter_2 : decode cX8_isFilter 2 = .ok (.aload_n 0, 1) := by decide +kernel
theorem dX8_isFilter_3 : decode cX8_isFilter 3 = .ok (.getfield 7, 3) := by decide +kernel
theorem dX8_isFilter_6 : decode cX8_isFilter 6 = .ok (.bipush 22, 2) := by decide +kernel
theorem dX8_isFilter_8 : decode cX8_isFilter 8 = .ok (.iaload, 1) := by decide +kernel
theorem dX8_isFilter_9 : decode cX8_isFilter 9 = .ok (.iconst 1, 1) := by decide +kernel
theorem dX8_isFilter_10 : decode cX8_isFilter 10 = .ok (.isub, 1) := by decide +kernel
theorem dX8_isFilter_11 : decode cX8_isFilter 11 = .ok (.invokestatic 37, 3) := by decide +kernel
theorem dX8_isFilter_14 : decode cX8_isFilter 14 = .ok (.ireturn, 1) := by decide +kernel
theorem dX8_isConstant_0 : decode cX8_isConstant 0 = .ok (.iload_n 0, 1) := by decide +kernel
theorem dX8_isConstant_1 : decode cX8_isConstant 1 = .ok (.iconst 2, 1) := by decide +kernel
theorem dX8_isConstant_2 : decode cX8_isConstant 2 = .ok (.if_icmp .ne 14, 3) := by decide +kernel
theorem dX8_isConstant_5 : decode cX8_isConstant 5 = .ok (.iload_n 1, 1) := by decide +kernel
theorem dX8_isConstant_6 : decode cX8_isConstant 6 = .ok (.bipush (-9), 2) := by decide +kernel
theorem dX8_isConstant_8 : decode cX8_isConstant 8 = .ok (.bipush 18, 2) := by decide +kernel
theorem dX8_isConstant_10 : decode cX8_isConstant 10 = .ok (.invokestatic 37, 3) := by decide +kernel
theorem dX8_isConstant_13 : decode cX8_isConstant 13 = .ok (.goto 10, 3) := by decide +kernel
theorem dX8_isConstant_16 : decode cX8_isConstant 16 = .ok (.iload_n 1, 1) := by decide +kernel
theorem dX8_isConstant_17 : decode cX8_isConstant 17 = .ok (.iconst 0, 1) := by decide +kernel
theorem dX8_isConstant_18 : decode cX8_isConstant 18 = .ok (.bipush 9, 2) := by decide +kernel
theorem dX8_isConstant_20 : decode cX8_isConstant 20 = .ok (.invokestatic 37, 3) := by decide +kernel
theorem dX8_isConstant_23 : decode cX8_isConstant 23 = .ok (.ireturn, 1) := by decide +kernel
theorem dX8_addFilter_0 : decode cX8_addFilter 0 = .ok (.iload_n 1, 1) := by decide +kernel
theorem dX8_addFilter_1 : decode cX8_addFilter 1 = .ok (.iconst 0, 1) := by decide +kernel
theorem dX8_addFilter_2 : decode cX8_addFilter 2 = .ok (.iconst 2, 1) := by decide +kernel
theorem dX8_addFilter_3 : decode cX8_addFilter 3 = .ok (.invokestatic 37, 3) := by decide +kernel
theorem dX8_addFilter_6 : decode cX8_addFilter 6 = .ok (.ifCond .eq 39, 3) := by decide +kernel
theorem dX8_addFilter_9 : decode cX8_addFilter 9 = .ok (.iload_n 2, 1) := by decide +kernel
theorem dX8_addFilter_10 : decode cX8_addFilter 10 = .ok (.iconst 0, 1) := by decide +kernel
theorem dX8_addFilter_11 : decode cX8_addFilter 11 = .ok (.iload_n 1, 1) := by decide +kernel
theorem dX8_addFilter_12 : decode cX8_addFilter 12 = .ok (.iconst 2, 1) := by decide +kernel
theorem dX8_addFilter_13 : decode cX8_addFilter 13 = .ok (.if_icmp .ne 7, 3) := by decide +kernel
theorem dX8_addFilter_16 : decode cX8_addFilter 16 = .ok (.iconst 2, 1) := by decide +kernel
theorem dX8_addFilter_17 : decode cX8_addFilter 17 = .ok (.goto 4, 3) := by decide +kernel
theorem dX8_addFilter_20 : decode cX8_addFilter 20 = .ok (.iconst 1, 1) := by decide +kernel
theorem dX8_addFilter_21 : decode cX8_addFilter 21 = .ok (.invokestatic 37, 3) := by decide +kernel
theorem dX8_addFilter_24 : decode cX8_addFilter 24 = .ok (.ifCond .eq 21, 3) := by decide +kernel
theorem dX8_addFilter_27 : decode cX8_addFilter 27 = .ok (.iload_n 3, 1) := by decide +kernel
theorem dX8_addFilter_28 : decode cX8_addFilter 28 = .ok (.iconst 0, 1) := by decide +kernel
theorem dX8_addFilter_29 : decode cX8_addFilter 29 = .ok (.iconst 3, 1) := by decide +kernel
theorem dX8_addFilter_30 : decode cX8_addFilter 30 = .ok (.invokestatic 37, 3) := by decide +kernel
theorem dX8_addFilter_33 : decode cX8_addFilter 33 = .ok (.ifCond .eq 12, 3) := by decide +kernel
theorem dX8_addFilter_36 : decode cX8_addFilter 36 = .ok (.iload_n 1, 1) := by decide +kernel
theorem dX8_addFilter_37 : decode cX8_addFilter 37 = .ok (.iload 4, 2) := by decide +kernel
theorem dX8_addFilter_39 : decode cX8_addFilter 39 = .ok (.invokestatic 70, 3) := by decide +kernel
theorem dX8_addFilter_42 : decode cX8_addFilter 42 = .ok (.ifCond .ne 11, 3) := by decide +kernel
theorem dX8_addFilter_45 : decode cX8_addFilter 45 = .ok (.aload_n 0, 1) := by decide +kernel
theorem dX8_addFilter_46 : decode cX8_addFilter 46 = .ok (.sipush (-10002), 3) := by decide +kernel
theorem dX8_addFilter_49 : decode cX8_addFilter 49 = .ok (.invokevirtual 45, 3) := by decide +kernel
theorem dX8_addFilter_52 : decode cX8_addFilter 52 = .ok (.ireturn, 1) := by decide +kernel
theorem dX8_addFilter_53 : decode cX8_addFilter 53 = .ok (.aload_n 0, 1) := by decide +kernel
theorem dX8_addFilter_54 : decode cX8_addFilter 54 = .ok (.getfield 7, 3) := by decide +kernel
theorem dX8_addFilter_57 : decode cX8_addFilter 57 = .ok (.bipush 22, 2) := by decide +kernel
theorem dX8_addFilter_59 : decode cX8_addFilter 59 = .ok (.iaload, 1) := by decide +kernel
theorem dX8_addFilter_60 : decode cX8_addFilter 60 = .ok (.bipush 6, 2) := by decide +kernel
theorem dX8_addFilter_62 : decode cX8_addFilter 62 = .ok (.if_icmp .ne 11, 3) := by decide +kernel
theorem dX8_addFilter_65 : decode cX8_addFilter 65 = .ok (.aload_n 0, 1) := by decide +kernel
theorem dX8_addFilter_66 : decode cX8_addFilter 66 = .ok (.sipush (-10004), 3) := by decide +kernel
theorem dX8_addFilter_69 : decode cX8_addFilter 69 = .ok (.invokevirtual 45, 3) := by decide +kernel
theorem dX8_addFilter_72 : decode cX8_addFilter 72 = .ok (.ireturn, 1) := by decide +kernel
theorem dX8_addFilter_73 : decode cX8_addFilter 73 = .ok (.aload_n 0, 1) := by decide +kernel
theorem dX8_addFilter_74 : decode cX8_addFilter 74 = .ok (.invokevirtual 53, 3) := by decide +kernel
theorem dX8_addFilter_77 : decode cX8_addFilter 77 = .ok (.bipush 23, 2) := by decide +kernel
theorem dX8_addFilter_79 : decode cX8_addFilter 79 = .ok (.iconst 4, 1) := by decide +kernel
theorem dX8_addFilter_80 : decode cX8_addFilter 80 = .ok (.aload_n 0, 1) := by decide +kernel
theorem dX8_addFilter_81 : decode cX8_addFilter 81 = .ok (.getfield 7, 3) := by decide +kernel
theorem dX8_addFilter_84 : decode cX8_addFilter 84 = .ok (.bipush 22, 2) := by decide +kernel
theorem dX8_addFilter_86 : decode cX8_addFilter 86 = .ok (.iaload, 1) := by decide +kernel
theorem dX8_addFilter_87 : decode cX8_addFilter 87 = .ok (.imul, 1) := by decide +kernel
theorem dX8_addFilter_88 : decode cX8_addFilter 88 = .ok (.iadd, 1) := by decide +kernel
theorem dX8_addFilter_89 : decode cX8_addFilter 89 = .ok (.istore 5, 2) := by decide +kernel
theorem dX8_addFilter_91 : decode cX8_addFilter 91 = .ok (.aload_n 0, 1) := by decide +kernel
theorem dX8_addFilter_92 : decode cX8_addFilter 92 = .ok (.getfield 7, 3) := by decide +kernel
theorem dX8_addFilter_95 : decode cX8_addFilter 95 = .ok (.iload 5, 2) := by decide +kernel
theorem dX8_addFilter_97 : decode cX8_addFilter 97 = .ok (.iload_n 1, 1) := by decide +kernel
theorem dX8_addFilter_98 : decode cX8_addFilter 98 = .ok (.iastore, 1) := by decide +kernel
theorem dX8_addFilter_99 : decode cX8_addFilter 99 = .ok (.aload_n 0, 1) := by decide +kernel
theorem dX8_addFilter_100 : decode cX8_addFilter 100 = .ok (.getfield 7, 3) := by decide +kernel
theorem dX8_addFilter_103 : decode cX8_addFilter 103 = .ok (.iload 5, 2) := by decide +kernel
theorem dX8_addFilter_105 : decode cX8_addFilter 105 = .ok (.iconst 1, 1) := by decide +kernel
theorem dX8_addFilter_106 : decode cX8_addFilter 106 = .ok (.iadd, 1) := by decide +kernel
theorem dX8_addFilter_107 : decode cX8_addFilter 107 = .ok (.iload_n 2, 1) := by decide +kernel
theorem dX8_addFilter_108 : decode cX8_addFilter 108 = .ok (.iastore, 1) := by decide +kernel
theorem dX8_addFilter_109 : decode cX8_addFilter 109 = .ok (.aload_n 0, 1) := by decide +kernel
theorem dX8_addFilter_110 : decode cX8_addFilter 110 = .ok (.getfield 7, 3) := by decide +kernel
theorem dX8_addFilter_113 : decode cX8_addFilter 113 = .ok (.iload 5, 2) := by decide +kernel
theorem dX8_addFilter_115 : decode cX8_addFilter 115 = .ok (.iconst 2, 1) := by decide +kernel
theorem dX8_addFilter_116 : decode cX8_addFilter 116 = .ok (.iadd, 1) := by decide +kernel
theorem dX8_addFilter_117 : decode cX8_addFilter 117 = .ok (.iload_n 3, 1) := by decide +kernel
theorem dX8_addFilter_118 : decode cX8_addFilter 118 = .ok (.iastore, 1) := by decide +kernel
theorem dX8_addFilter_119 : decode cX8_addFilter 119 = .ok (.aload_n 0, 1) := by decide +kernel
theorem dX8_addFilter_120 : decode cX8_addFilter 120 = .ok (.getfield 7, 3) := by decide +kernel
theorem dX8_addFilter_123 : decode cX8_addFilter 123 = .ok (.iload 5, 2) := by decide +kernel
theorem dX8_addFilter_125 : decode cX8_addFilter 125 = .ok (.iconst 3, 1) := by decide +kernel
theorem dX8_addFilter_126 : decode cX8_addFilter 126 = .ok (.iadd, 1) := by decide +kernel
theorem dX8_addFilter_127 : decode cX8_addFilter 127 = .ok (.iload 4, 2) := by decide +kernel
theorem dX8_addFilter_129 : decode cX8_addFilter 129 = .ok (.iastore, 1) := by decide +kernel
theorem dX8_addFilter_130 : decode cX8_addFilter 130 = .ok (.aload_n 0, 1) := by decide +kernel
theorem dX8_addFilter_131 : decode cX8_addFilter 131 = .ok (.getfield 7, 3) := by decide +kernel
theorem dX8_addFilter_134 : decode cX8_addFilter 134 = .ok (.bipush 22, 2) := by decide +kernel
theorem dX8_addFilter_136 : decode cX8_addFilter 136 = .ok (.dup2, 1) := by decide +kernel
theorem dX8_addFilter_137 : decode cX8_addFilter 137 = .ok (.iaload, 1) := by decide +kernel
theorem dX8_addFilter_138 : decode cX8_addFilter 138 = .ok (.iconst 1, 1) := by decide +kernel
theorem dX8_addFilter_139 : decode cX8_addFilter 139 = .ok (.iadd, 1) := by decide +kernel
theorem dX8_addFilter_140 : decode cX8_addFilter 140 = .ok (.iastore, 1) := by decide +kernel
theorem dX8_addFilter_141 : decode cX8_addFilter 141 = .ok (.aload_n 0, 1) := by decide +kernel
theorem dX8_addFilter_142 : decode cX8_addFilter 142 = .ok (.getfield 7, 3) := by decide +kernel
theorem dX8_addFilter_145 : decode cX8_addFilter 145 = .ok (.bipush 22, 2) := by decide +kernel
theorem dX8_addFilter_147 : decode cX8_addFilter 147 = .ok (.iaload, 1) := by decide +kernel
theorem dX8_addFilter_148 : decode cX8_addFilter 148 = .ok (.iconst 1, 1) := by decide +kernel
theorem dX8_addFilter_149 : decode cX8_addFilter 149 = .ok (.isub, 1) := by decide +kernel
theorem dX8_addFilter_150 : decode cX8_addFilter 150 = .ok (.ireturn, 1) := by decide +kernel
theorem dX8_dropFilter_0 : decode cX8_dropFilter 0 = .ok (.bipush 23, 2) := by decide +kernel
theorem dX8_dropFilter_2 : decode cX8_dropFilter 2 = .ok (.iconst 4, 1) := by decide +kernel
theorem dX8_dropFilter_3 : decode cX8_dropFilter 3 = .ok (.iload_n 1, 1) := by decide +kernel
theorem dX8_dropFilter_4 : decode cX8_dropFilter 4 = .ok (.imul, 1) := by decide +kernel
theorem dX8_dropFilter_5 : decode cX8_dropFilter 5 = .ok (.iadd, 1) := by decide +kernel
theorem dX8_dropFilter_6 : decode cX8_dropFilter 6 = .ok (.istore_n 2, 1) := by decide +kernel
theorem dX8_dropFilter_7 : decode cX8_dropFilter 7 = .ok (.iload_n 2, 1) := by decide +kernel
theorem dX8_dropFilter_8 : decode cX8_dropFilter 8 = .ok (.iconst 4, 1) := by decide +kernel
theorem dX8_dropFilter_9 : decode cX8_dropFilter 9 = .ok (.iadd, 1) := by decide +kernel
theorem dX8_dropFilter_10 : decode cX8_dropFilter 10 = .ok (.bipush 47, 2) := by decide +kernel
theorem dX8_dropFilter_12 : decode cX8_dropFilter 12 = .ok (.if_icmp .ge 23, 3) := by decide +kernel
theorem dX8_dropFilter_15 : decode cX8_dropFilter 15 = .ok (.aload_n 0, 1) := by decide +kernel
theorem dX8_dropFilter_16 : decode cX8_dropFilter 16 = .ok (.getfield 7, 3) := by decide +kernel
theorem dX8_dropFilter_19 : decode cX8_dropFilter 19 = .ok (.iload_n 2, 1) := by decide +kernel
theorem dX8_dropFilter_20 : decode cX8_dropFilter 20 = .ok (.aload_n 0, 1) := by decide +kernel
theorem dX8_dropFilter_21 : decode cX8_dropFilter 21 = .ok (.getfield 7, 3) := by decide +kernel
theorem dX8_dropFilter_24 : decode cX8_dropFilter 24 = .ok (.iload_n 2, 1) := by decide +kernel
theorem dX8_dropFilter_25 : decode cX8_dropFilter 25 = .ok (.iconst 4, 1) := by decide +kernel
theorem dX8_dropFilter_26 : decode cX8_dropFilter 26 = .ok (.iadd, 1) := by decide +kernel
theorem dX8_dropFilter_27 : decode cX8_dropFilter 27 = .ok (.iaload, 1) := by decide +kernel
theorem dX8_dropFilter_28 : decode cX8_dropFilter 28 = .ok (.iastore, 1) := by decide +kernel
theorem dX8_dropFilter_29 : decode cX8_dropFilter 29 = .ok (.iinc 2 1, 3) := by decide +kernel
theorem dX8_dropFilter_32 : decode cX8_dropFilter 32 = .ok (.goto (-25), 3) := by decide +kernel
theorem dX8_dropFilter_35 : decode cX8_dropFilter 35 = .ok (.aload_n 0, 1) := by decide +kernel
theorem dX8_dropFilter_36 : decode cX8_dropFilter 36 = .ok (.getfield 7, 3) := by decide +kernel
theorem dX8_dropFilter_39 : decode cX8_dropFilter 39 = .ok (.bipush 22, 2) := by decide +kernel
theorem dX8_dropFilter_41 : decode cX8_dropFilter 41 = .ok (.dup2, 1) := by decide +kernel
theorem dX8_dropFilter_42 : decode cX8_dropFilter 42 = .ok (.iaload, 1) := by decide +kernel
theorem dX8_dropFilter_43 : decode cX8_dropFilter 43 = .ok (.iconst 1, 1) := by decide +kernel
theorem dX8_dropFilter_44 : decode cX8_dropFilter 44 = .ok (.isub, 1) := by decide +kernel
theorem dX8_dropFilter_45 : decode cX8_dropFilter 45 = .ok (.iastore, 1) := by decide +kernel
theorem dX8_dropFilter_46 : decode cX8_dropFilter 46 = .ok (.return_, 1) := by decide +kernel
theorem dX8_removeFilter_0 : decode cX8_removeFilter 0 = .ok (.aload_n 0, 1) := by decide +kernel
theorem dX8_removeFilter_1 : decode cX8_removeFilter 1 = .ok (.iload_n 1, 1) := by decide +kernel
theorem dX8_removeFilter_2 : decode cX8_removeFilter 2 = .ok (.invokevirtual 73, 3) := by decide +kernel
theorem dX8_removeFilter_5 : decode cX8_removeFilter 5 = .ok (.ifCond .ne 11, 3) := by decide +kernel
theorem dX8_removeFilter_8 : decode cX8_removeFilter 8 = .ok (.aload_n 0, 1) := by decide +kernel
theorem dX8_removeFilter_9 : decode cX8_removeFilter 9 = .ok (.sipush (-10002), 3) := by decide +kernel
theorem dX8_removeFilter_12 : decode cX8_removeFilter 12 = .ok (.invokevirtual 45, 3) := by decide +kernel
theorem dX8_removeFilter_15 : decode cX8_removeFilter 15 = .ok (.ireturn, 1) := by decide +kernel
theorem dX8_removeFilter_16 : decode cX8_removeFilter 16 = .ok (.aload_n 0, 1) := by decide +kernel
theorem dX8_removeFilter_17 : decode cX8_removeFilter 17 = .ok (.invokevirtual 53, 3) := by decide +kernel
theorem dX8_removeFilter_20 : decode cX8_removeFilter 20 = .ok (.aload_n 0, 1) := by decide +kernel
theorem dX8_removeFilter_21 : decode cX8_removeFilter 21 = .ok (.iload_n 1, 1) := by decide +kernel
theorem dX8_removeFilter_22 : decode cX8_removeFilter 22 = .ok (.invokevirtual 77, 3) := by decide +kernel
theorem dX8_removeFilter_25 : decode cX8_removeFilter 25 = .ok (.aload_n 0, 1) := by decide +kernel
theorem dX8_removeFilter_26 : decode cX8_removeFilter 26 = .ok (.getfield 7, 3) := by decide +kernel
theorem dX8_removeFilter_29 : decode cX8_removeFilter 29 = .ok (.bipush 22, 2) := by decide +kernel
theorem dX8_removeFilter_31 : decode cX8_removeFilter 31 = .ok (.iaload, 1) := by decide +kernel
theorem dX8_removeFilter_32 : decode cX8_removeFilter 32 = .ok (.ireturn, 1) := by decide +kernel
theorem dX8_setConstant_0 : decode cX8_setConstant 0 = .ok (.aload_n 0, 1) := by decide +kernel
theorem dX8_setConstant_1 : decode cX8_setConstant 1 = .ok (.iload_n 1, 1) := by decide +kernel
theorem dX8_setConstant_2 : decode cX8_setConstant 2 = .ok (.invokevirtual 73, 3) := by decide +kernel
theorem dX8_setConstant_5 : decode cX8_setConstant 5 = .ok (.ifCond .eq 16, 3) := by decide +kernel
theorem dX8_setConstant_8 : decode cX8_setConstant 8 = .ok (.aload_n 0, 1) := by decide +kernel
theorem dX8_setConstant_9 : decode cX8_setConstant 9 = .ok (.iload_n 1, 1) := by decide +kernel
theorem dX8_setConstant_10 : decode cX8_setConstant 10 = .ok (.iconst 0, 1) := by decide +kernel
theorem dX8_setConstant_11 : decode cX8_setConstant 11 = .ok (.invokevirtual 81, 3) := by decide +kernel
theorem dX8_setConstant_14 : decode cX8_setConstant 14 = .ok (.iload_n 2, 1) := by decide +kernel
theorem dX8_setConstant_15 : decode cX8_setConstant 15 = .ok (.invokestatic 70, 3) := by decide +kernel
theorem dX8_setConstant_18 : decode cX8_setConstant 18 = .ok (.ifCond .ne 11, 3) := by decide +kernel
theorem dX8_setConstant_21 : decode cX8_setConstant 21 = .ok (.aload_n 0, 1) := by decide +kernel
theorem dX8_setConstant_22 : decode cX8_setConstant 22 = .ok (.sipush (-10002), 3) := by decide +kernel
theorem dX8_setConstant_25 : decode cX8_setConstant 25 = .ok (.invokevirtual 45, 3) := by decide +kernel
theorem dX8_setConstant_28 : decode cX8_setConstant 28 = .ok (.ireturn, 1) := by decide +kernel
theorem dX8_setConstant_29 : decode cX8_setConstant 29 = .ok (.aload_n 0, 1) := by decide +kernel
theorem dX8_setConstant_30 : decode cX8_setConstant 30 = .ok (.invokevirtual 53, 3) := by decide +kernel
theorem dX8_setConstant_33 : decode cX8_setConstant 33 = .ok (.aload_n 0, 1) := by decide +kernel
theorem dX8_setConstant_34 : decode cX8_setConstant 34 = .ok (.iload_n 1, 1) := by decide +kernel
theorem dX8_setConstant_35 : decode cX8_setConstant 35 = .ok (.iconst 3, 1) := by decide +kernel
theorem dX8_setConstant_36 : decode cX8_setConstant 36 = .ok (.invokevirtual 81, 3) := by decide +kernel
theorem dX8_setConstant_39 : decode cX8_setConstant 39 = .ok (.istore_n 3, 1) := by decide +kernel
theorem dX8_setConstant_40 : decode cX8_setConstant 40 = .ok (.aload_n 0, 1) := by decide +kernel
theorem dX8_setConstant_41 : decode cX8_setConstant 41 = .ok (.getfield 7, 3) := by decide +kernel
theorem dX8_setConstant_44 : decode cX8_setConstant 44 = .ok (.bipush 23, 2) := by decide +kernel
theorem dX8_setConstant_46 : decode cX8_setConstant 46 = .ok (.iconst 4, 1) := by decide +kernel
theorem dX8_setConstant_47 : decode cX8_setConstant 47 = .ok (.iload_n 1, 1) := by decide +kernel
theorem dX8_setConstant_48 : decode cX8_setConstant 48 = .ok (.imul, 1) := by decide +kernel
theorem dX8_setConstant_49 : decode cX8_setConstant 49 = .ok (.iadd, 1) := by decide +kernel
theorem dX8_setConstant_50 : decode cX8_setConstant 50 = .ok (.iconst 3, 1) := by decide +kernel
theorem dX8_setConstant_51 : decode cX8_setConstant 51 = .ok (.iadd, 1) := by decide +kernel
theorem dX8_setConstant_52 : decode cX8_setConstant 52 = .ok (.iload_n 2, 1) := by decide +kernel
theorem dX8_setConstant_53 : decode cX8_setConstant 53 = .ok (.iastore, 1) := by decide +kernel
theorem dX8_setConstant_54 : decode cX8_setConstant 54 = .ok (.iload_n 3, 1) := by decide +kernel
theorem dX8_setConstant_55 : decode cX8_setConstant 55 = .ok (.ireturn, 1) := by decide +kernel
theorem dX8_filterCount_0 : decode cX8_filterCount 0 = .ok (.aload_n 0, 1) := by decide +kernel
theorem dX8_filterCount_1 : decode cX8_filterCount 1 = .ok (.getfield 7, 3) := by decide +kernel
theorem dX8_filterCount_4 : decode cX8_filterCount 4 = .ok (.bipush 22, 2) := by decide +kernel
theorem dX8_filterCount_6 : decode cX8_filterCount 6 = .ok (.iaload, 1) := by decide +kernel
theorem dX8_filterCount_7 : decode cX8_filterCount 7 = .ok (.ireturn, 1) := by decide +kernel
theorem dX8_constant_0 : decode cX8_constant 0 = .ok (.aload_n 0, 1) := by decide +kernel
theorem dX8_constant_1 : decode cX8_constant 1 = .ok (.iload_n 1, 1) := by decide +kernel
theorem dX8_constant_2 : decode cX8_constant 2 = .ok (.invokevirtual 73, 3) := by decide +kernel
theorem dX8_constant_5 : decode cX8_constant 5 = .ok (.ifCond .eq 12, 3) := by decide +kernel
theorem dX8_constant_8 : decode cX8_constant 8 = .ok (.aload_n 0, 1) := by decide +kernel
theorem dX8_constant_9 : decode cX8_constant 9 = .ok (.iload_n 1, 1) := by decide +kernel
theorem dX8_constant_10 : decode cX8_constant 10 = .ok (.iconst 3, 1) := by decide +kernel
theorem dX8_constant_11 : decode cX8_constant 11 = .ok (.invokevirtual 81, 3) := by decide +kernel
theorem dX8_constant_14 : decode cX8_constant 14 = .ok (.goto 10, 3) := by decide +kernel
theorem dX8_constant_17 : decode cX8_constant 17 = .ok (.aload_n 0, 1) := by decide +kernel
theorem dX8_constant_18 : decode cX8_constant 18 = .ok (.sipush (-10002), 3) := by decide +kernel
theorem dX8_constant_21 : decode cX8_constant 21 = .ok (.invokevirtual 45, 3) := by decide +kernel
theorem dX8_constant_24 : decode cX8_constant 24 = .ok (.ireturn, 1) := by decide +kernel
theorem dX8_holds_0 : decode cX8_holds 0 = .ok (.iload_n 1, 1) := by decide +kernel
theorem dX8_holds_1 : decode cX8_holds 1 = .ok (.ifCond .ne 16, 3) := by decide +kernel
theorem dX8_holds_4 : decode cX8_holds 4 = .ok (.iload_n 0, 1) := by decide +kernel
theorem dX8_holds_5 : decode cX8_holds 5 = .ok (.iload_n 2, 1) := by decide +kernel
theorem dX8_holds_6 : decode cX8_holds 6 = .ok (.if_icmp .gt 7, 3) := by decide +kernel
theorem dX8_holds_9 : decode cX8_holds 9 = .ok (.iconst 1, 1) := by decide +kernel
theorem dX8_holds_10 : decode cX8_holds 10 = .ok (.goto 53, 3) := by decide +kernel
theorem dX8_holds_13 : decode cX8_holds 13 = .ok (.iconst 0, 1) := by decide +kernel
theorem dX8_holds_14 : decode cX8_holds 14 = .ok (.goto 49, 3) := by decide +kernel
theorem dX8_holds_17 : decode cX8_holds 17 = .ok (.iload_n 1, 1) := by decide +kernel
theorem dX8_holds_18 : decode cX8_holds 18 = .ok (.iconst 1, 1) := by decide +kernel
theorem dX8_holds_19 : decode cX8_holds 19 = .ok (.if_icmp .ne 16, 3) := by decide +kernel
theorem dX8_holds_22 : decode cX8_holds 22 = .ok (.iload_n 0, 1) := by decide +kernel
theorem dX8_holds_23 : decode cX8_holds 23 = .ok (.iload_n 2, 1) := by decide +kernel
theorem dX8_holds_24 : decode cX8_holds 24 = .ok (.if_icmp .lt 7, 3) := by decide +kernel
theorem dX8_holds_27 : decode cX8_holds 27 = .ok (.iconst 1, 1) := by decide +kernel
theorem dX8_holds_28 : decode cX8_holds 28 = .ok (.goto 35, 3) := by decide +kernel
theorem dX8_holds_31 : decode cX8_holds 31 = .ok (.iconst 0, 1) := by decide +kernel
theorem dX8_holds_32 : decode cX8_holds 32 = .ok (.goto 31, 3) := by decide +kernel
theorem dX8_holds_35 : decode cX8_holds 35 = .ok (.iload_n 1, 1) := by decide +kernel
theorem dX8_holds_36 : decode cX8_holds 36 = .ok (.iconst 2, 1) := by decide +kernel
theorem dX8_holds_37 : decode cX8_holds 37 = .ok (.if_icmp .ne 16, 3) := by decide +kernel
theorem dX8_holds_40 : decode cX8_holds 40 = .ok (.iload_n 0, 1) := by decide +kernel
theorem dX8_holds_41 : decode cX8_holds 41 = .ok (.iload_n 2, 1) := by decide +kernel
theorem dX8_holds_42 : decode cX8_holds 42 = .ok (.if_icmp .ne 7, 3) := by decide +kernel
theorem dX8_holds_45 : decode cX8_holds 45 = .ok (.iconst 1, 1) := by decide +kernel
theorem dX8_holds_46 : decode cX8_holds 46 = .ok (.goto 17, 3) := by decide +kernel
theorem dX8_holds_49 : decode cX8_holds 49 = .ok (.iconst 0, 1) := by decide +kernel
theorem dX8_holds_50 : decode cX8_holds 50 = .ok (.goto 13, 3) := by decide +kernel
theorem dX8_holds_53 : decode cX8_holds 53 = .ok (.iload_n 0, 1) := by decide +kernel
theorem dX8_holds_54 : decode cX8_holds 54 = .ok (.iload_n 2, 1) := by decide +kernel
theorem dX8_holds_55 : decode cX8_holds 55 = .ok (.if_icmp .eq 7, 3) := by decide +kernel
theorem dX8_holds_58 : decode cX8_holds 58 = .ok (.iconst 1, 1) := by decide +kernel
theorem dX8_holds_59 : decode cX8_holds 59 = .ok (.goto 4, 3) := by decide +kernel
theorem dX8_holds_62 : decode cX8_holds 62 = .ok (.iconst 0, 1) := by decide +kernel
theorem dX8_holds_63 : decode cX8_holds 63 = .ok (.ireturn, 1) := by decide +kernel
theorem dX8_columnOf_0 : decode cX8_columnOf 0 = .ok (.iload_n 0, 1) := by decide +kernel
theorem dX8_columnOf_1 : decode cX8_columnOf 1 = .ok (.ifCond .ne 13, 3) := by decide +kernel
theorem dX8_columnOf_4 : decode cX8_columnOf 4 = .ok (.iload_n 1, 1) := by decide +kernel
theorem dX8_columnOf_5 : decode cX8_columnOf 5 = .ok (.ifCond .ne 7, 3) := by decide +kernel
theorem dX8_columnOf_8 : decode cX8_columnOf 8 = .ok (.iload_n 2, 1) := by decide +kernel
theorem dX8_columnOf_9 : decode cX8_columnOf 9 = .ok (.goto 4, 3) := by decide +kernel
theorem dX8_columnOf_12 : decode cX8_columnOf 12 = .ok (.iload_n 3, 1) := by decide +kernel
theorem dX8_columnOf_13 : decode cX8_columnOf 13 = .ok (.ireturn, 1) := by decide +kernel
theorem dX8_columnOf_14 : decode cX8_columnOf 14 = .ok (.iload_n 0, 1) := by decide +kernel
theorem dX8_columnOf_15 : decode cX8_columnOf 15 = .ok (.iconst 1, 1) := by decide +kernel
theorem dX8_columnOf_16 : decode cX8_columnOf 16 = .ok (.if_icmp .ne 14, 3) := by decide +kernel
theorem dX8_columnOf_19 : decode cX8_columnOf 19 = .ok (.iload_n 1, 1) := by decide +kernel
theorem dX8_columnOf_20 : decode cX8_columnOf 20 = .ok (.ifCond .ne 7, 3) := by decide +kernel
theorem dX8_columnOf_23 : decode cX8_columnOf 23 = .ok (.iload_n 3, 1) := by decide +kernel
theorem dX8_columnOf_24 : decode cX8_columnOf 24 = .ok (.goto 5, 3) := by decide +kernel
theorem dX8_columnOf_27 : decode cX8_columnOf 27 = .ok (.iload 4, 2) := by decide +kernel
theorem dX8_columnOf_29 : decode cX8_columnOf 29 = .ok (.ireturn, 1) := by decide +kernel
theorem dX8_columnOf_30 : decode cX8_columnOf 30 = .ok (.iload_n 1, 1) := by decide +kernel
theorem dX8_columnOf_31 : decode cX8_columnOf 31 = .ok (.ifCond .ne 10, 3) := by decide +kernel
theorem dX8_columnOf_34 : decode cX8_columnOf 34 = .ok (.iload_n 2, 1) := by decide +kernel
theorem dX8_columnOf_35 : decode cX8_columnOf 35 = .ok (.iload 4, 2) := by decide +kernel
theorem dX8_columnOf_37 : decode cX8_columnOf 37 = .ok (.isub, 1) := by decide +kernel
theorem dX8_columnOf_38 : decode cX8_columnOf 38 = .ok (.goto 16, 3) := by decide +kernel
theorem dX8_columnOf_41 : decode cX8_columnOf 41 = .ok (.iload_n 1, 1) := by decide +kernel
theorem dX8_columnOf_42 : decode cX8_columnOf 42 = .ok (.iconst 1, 1) := by decide +kernel
theorem dX8_columnOf_43 : decode cX8_columnOf 43 = .ok (.if_icmp .ne 10, 3) := by decide +kernel
theorem dX8_columnOf_46 : decode cX8_columnOf 46 = .ok (.iload_n 2, 1) := by decide +kernel
theorem dX8_columnOf_47 : decode cX8_columnOf 47 = .ok (.iload 4, 2) := by decide +kernel
theorem dX8_columnOf_49 : decode cX8_columnOf 49 = .ok (.iadd, 1) := by decide +kernel
theorem dX8_columnOf_50 : decode cX8_columnOf 50 = .ok (.goto 4, 3) := by decide +kernel
theorem dX8_columnOf_53 : decode cX8_columnOf 53 = .ok (.iload_n 3, 1) := by decide +kernel
theorem dX8_columnOf_54 : decode cX8_columnOf 54 = .ok (.ireturn, 1) := by decide +kernel
theorem dX8_accepts_0 : decode cX8_accepts 0 = .ok (.aload_n 0, 1) := by decide +kernel
theorem dX8_accepts_1 : decode cX8_accepts 1 = .ok (.iload_n 1, 1) := by decide +kernel
theorem dX8_accepts_2 : decode cX8_accepts 2 = .ok (.iconst 0, 1) := by decide +kernel
theorem dX8_accepts_3 : decode cX8_accepts 3 = .ok (.invokevirtual 81, 3) := by decide +kernel
theorem dX8_accepts_6 : decode cX8_accepts 6 = .ok (.aload_n 0, 1) := by decide +kernel
theorem dX8_accepts_7 : decode cX8_accepts 7 = .ok (.iload_n 1, 1) := by decide +kernel
theorem dX8_accepts_8 : decode cX8_accepts 8 = .ok (.iconst 1, 1) := by decide +kernel
theorem dX8_accepts_9 : decode cX8_accepts 9 = .ok (.invokevirtual 81, 3) := by decide +kernel
theorem dX8_accepts_12 : decode cX8_accepts 12 = .ok (.iload_n 2, 1) := by decide +kernel
theorem dX8_accepts_13 : decode cX8_accepts 13 = .ok (.iload_n 3, 1) := by decide +kernel
theorem dX8_accepts_14 : decode cX8_accepts 14 = .ok (.iload 4, 2) := by decide +kernel
theorem dX8_accepts_16 : decode cX8_accepts 16 = .ok (.invokestatic 84, 3) := by decide +kernel
theorem dX8_accepts_19 : decode cX8_accepts 19 = .ok (.aload_n 0, 1) := by decide +kernel
theorem dX8_accepts_20 : decode cX8_accepts 20 = .ok (.iload_n 1, 1) := by decide +kernel
theorem dX8_accepts_21 : decode cX8_accepts 21 = .ok (.iconst 2, 1) := by decide +kernel
theorem dX8_accepts_22 : decode cX8_accepts 22 = .ok (.invokevirtual 81, 3) := by decide +kernel
theorem dX8_accepts_25 : decode cX8_accepts 25 = .ok (.aload_n 0, 1) := by decide +kernel
theorem dX8_accepts_26 : decode cX8_accepts 26 = .ok (.iload_n 1, 1) := by decide +kernel
theorem dX8_accepts_27 : decode cX8_accepts 27 = .ok (.iconst 3, 1) := by decide +kernel
theorem dX8_accepts_28 : decode cX8_accepts 28 = .ok (.invokevirtual 81, 3) := by decide +kernel
theorem dX8_accepts_31 : decode cX8_accepts 31 = .ok (.invokestatic 88, 3) := by decide +kernel
theorem dX8_accepts_34 : decode cX8_accepts 34 = .ok (.ireturn, 1) := by decide +kernel
theorem dX8_passes_0 : decode cX8_passes 0 = .ok (.iconst 1, 1) := by decide +kernel
theorem dX8_passes_1 : decode cX8_passes 1 = .ok (.istore 6, 2) := by decide +kernel
theorem dX8_passes_3 : decode cX8_passes 3 = .ok (.iconst 0, 1) := by decide +kernel
theorem dX8_passes_4 : decode cX8_passes 4 = .ok (.istore 7, 2) := by decide +kernel
theorem dX8_passes_6 : decode cX8_passes 6 = .ok (.iload 7, 2) := by decide +kernel
theorem dX8_passes_8 : decode cX8_passes 8 = .ok (.aload_n 0, 1) := by decide +kernel
theorem dX8_passes_9 : decode cX8_passes 9 = .ok (.getfield 7, 3) := by decide +kernel
theorem dX8_passes_12 : decode cX8_passes 12 = .ok (.bipush 22, 2) := by decide +kernel
theorem dX8_passes_14 : decode cX8_passes 14 = .ok (.iaload, 1) := by decide +kernel
theorem dX8_passes_15 : decode cX8_passes 15 = .ok (.if_icmp .ge 56, 3) := by decide +kernel
theorem dX8_passes_18 : decode cX8_passes 18 = .ok (.iload 6, 2) := by decide +kernel
theorem dX8_passes_20 : decode cX8_passes 20 = .ok (.ifCond .eq 42, 3) := by decide +kernel
theorem dX8_passes_23 : decode cX8_passes 23 = .ok (.aload_n 0, 1) := by decide +kernel
theorem dX8_passes_24 : decode cX8_passes 24 = .ok (.iload 7, 2) := by decide +kernel
theorem dX8_passes_26 : decode cX8_passes 26 = .ok (.iconst 0, 1) := by decide +kernel
theorem dX8_passes_27 : decode cX8_passes 27 = .ok (.invokevirtual 81, 3) := by decide +kernel
theorem dX8_passes_30 : decode cX8_passes 30 = .ok (.iload_n 1, 1) := by decide +kernel
theorem dX8_passes_31 : decode cX8_passes 31 = .ok (.if_icmp .ne 27, 3) := by decide +kernel
theorem dX8_passes_34 : decode cX8_passes 34 = .ok (.iload_n 2, 1) := by decide +kernel
theorem dX8_passes_35 : decode cX8_passes 35 = .ok (.iload 7, 2) := by decide +kernel
theorem dX8_passes_37 : decode cX8_passes 37 = .ok (.ishr, 1) := by decide +kernel
theorem dX8_passes_38 : decode cX8_passes 38 = .ok (.iconst 1, 1) := by decide +kernel
theorem dX8_passes_39 : decode cX8_passes 39 = .ok (.iand, 1) := by decide +kernel
theorem dX8_passes_40 : decode cX8_passes 40 = .ok (.iconst 1, 1) := by decide +kernel
theorem dX8_passes_41 : decode cX8_passes 41 = .ok (.if_icmp .eq 17, 3) := by decide +kernel
theorem dX8_passes_44 : decode cX8_passes 44 = .ok (.aload_n 0, 1) := by decide +kernel
theorem dX8_passes_45 : decode cX8_passes 45 = .ok (.iload 7, 2) := by decide +kernel
theorem dX8_passes_47 : decode cX8_passes 47 = .ok (.iload_n 3, 1) := by decide +kernel
theorem dX8_passes_48 : decode cX8_passes 48 = .ok (.iload 4, 2) := by decide +kernel
theorem dX8_passes_50 : decode cX8_passes 50 = .ok (.iload 5, 2) := by decide +kernel
theorem dX8_passes_52 : decode cX8_passes 52 = .ok (.invokevirtual 91, 3) := by decide +kernel
theorem dX8_passes_55 : decode cX8_passes 55 = .ok (.ifCond .eq 7, 3) := by decide +kernel
theorem dX8_passes_58 : decode cX8_passes 58 = .ok (.iconst 1, 1) := by decide +kernel
theorem dX8_passes_59 : decode cX8_passes 59 = .ok (.goto 4, 3) := by decide +kernel
theorem dX8_passes_62 : decode cX8_passes 62 = .ok (.iconst 0, 1) := by decide +kernel
theorem dX8_passes_63 : decode cX8_passes 63 = .ok (.istore 6, 2) := by decide +kernel
theorem dX8_passes_65 : decode cX8_passes 65 = .ok (.iinc 7 1, 3) := by decide +kernel
theorem dX8_passes_68 : decode cX8_passes 68 = .ok (.goto (-62), 3) := by decide +kernel
theorem dX8_passes_71 : decode cX8_passes 71 = .ok (.iload 6, 2) := by decide +kernel
theorem dX8_passes_73 : decode cX8_passes 73 = .ok (.ireturn, 1) := by decide +kernel
theorem dX8_passesAll_0 : decode cX8_passesAll 0 = .ok (.aload_n 0, 1) := by decide +kernel
theorem dX8_passesAll_1 : decode cX8_passesAll 1 = .ok (.iconst 0, 1) := by decide +kernel
theorem dX8_passesAll_2 : decode cX8_passesAll 2 = .ok (.iload_n 1, 1) := by decide +kernel
theorem dX8_passesAll_3 : decode cX8_passesAll 3 = .ok (.iload_n 2, 1) := by decide +kernel
theorem dX8_passesAll_4 : decode cX8_passesAll 4 = .ok (.iload_n 3, 1) := by decide +kernel
theorem dX8_passesAll_5 : decode cX8_passesAll 5 = .ok (.iload 4, 2) := by decide +kernel
theorem dX8_passesAll_7 : decode cX8_passesAll 7 = .ok (.invokevirtual 95, 3) := by decide +kernel
theorem dX8_passesAll_10 : decode cX8_passesAll 10 = .ok (.ifCond .eq 33, 3) := by decide +kernel
theorem dX8_passesAll_13 : decode cX8_passesAll 13 = .ok (.aload_n 0, 1) := by decide +kernel
theorem dX8_passesAll_14 : decode cX8_passesAll 14 = .ok (.iconst 1, 1) := by decide +kernel
theorem dX8_passesAll_15 : decode cX8_passesAll 15 = .ok (.iload_n 1, 1) := by decide +kernel
theorem dX8_passesAll_16 : decode cX8_passesAll 16 = .ok (.iload_n 2, 1) := by decide +kernel
theorem dX8_passesAll_17 : decode cX8_passesAll 17 = .ok (.iload_n 3, 1) := by decide +kernel
theorem dX8_passesAll_18 : decode cX8_passesAll 18 = .ok (.iload 4, 2) := by decide +kernel
theorem dX8_passesAll_20 : decode cX8_passesAll 20 = .ok (.invokevirtual 95, 3) := by decide +kernel
theorem dX8_passesAll_23 : decode cX8_passesAll 23 = .ok (.ifCond .eq 20, 3) := by decide +kernel
theorem dX8_passesAll_26 : decode cX8_passesAll 26 = .ok (.aload_n 0, 1) := by decide +kernel
theorem dX8_passesAll_27 : decode cX8_passesAll 27 = .ok (.iconst 2, 1) := by decide +kernel
theorem dX8_passesAll_28 : decode cX8_passesAll 28 = .ok (.iload_n 1, 1) := by decide +kernel
theorem dX8_passesAll_29 : decode cX8_passesAll 29 = .ok (.iload_n 2, 1) := by decide +kernel
theorem dX8_passesAll_30 : decode cX8_passesAll 30 = .ok (.iload_n 3, 1) := by decide +kernel
theorem dX8_passesAll_31 : decode cX8_passesAll 31 = .ok (.iload 4, 2) := by decide +kernel
theorem dX8_passesAll_33 : decode cX8_passesAll 33 = .ok (.invokevirtual 95, 3) := by decide +kernel
theorem dX8_passesAll_36 : decode cX8_passesAll 36 = .ok (.ifCond .eq 7, 3) := by decide +kernel
theorem dX8_passesAll_39 : decode cX8_passesAll 39 = .ok (.iconst 1, 1) := by decide +kernel
theorem dX8_passesAll_40 : decode cX8_passesAll 40 = .ok (.goto 4, 3) := by decide +kernel
theorem dX8_passesAll_43 : decode cX8_passesAll 43 = .ok (.iconst 0, 1) := by decide +kernel
theorem dX8_passesAll_44 : decode cX8_passesAll 44 = .ok (.ireturn, 1) := by decide +kernel
theorem dX8_hasLeft_0 : decode cX8_hasLeft 0 = .ok (.aload_n 0, 1) := by decide +kernel
theorem dX8_hasLeft_1 : decode cX8_hasLeft 1 = .ok (.iconst 0, 1) := by decide +kernel
theorem dX8_hasLeft_2 : decode cX8_hasLeft 2 = .ok (.bipush 10, 2) := by decide +kernel
theorem dX8_hasLeft_4 : decode cX8_hasLeft 4 = .ok (.iload_n 1, 1) := by decide +kernel
theorem dX8_hasLeft_5 : decode cX8_hasLeft 5 = .ok (.imul, 1) := by decide +kernel
theorem dX8_hasLeft_6 : decode cX8_hasLeft 6 = .ok (.iload_n 2, 1) := by decide +kernel
theorem dX8_hasLeft_7 : decode cX8_hasLeft 7 = .ok (.iadd, 1) := by decide +kernel
theorem dX8_hasLeft_8 : decode cX8_hasLeft 8 = .ok (.invokevirtual 49, 3) := by decide +kernel
theorem dX8_hasLeft_11 : decode cX8_hasLeft 11 = .ok (.sipush (-10001), 3) := by decide +kernel
theorem dX8_hasLeft_14 : decode cX8_hasLeft 14 = .ok (.if_icmp .eq 7, 3) := by decide +kernel
theorem dX8_hasLeft_17 : decode cX8_hasLeft 17 = .ok (.iconst 1, 1) := by decide +kernel
theorem dX8_hasLeft_18 : decode cX8_hasLeft 18 = .ok (.goto 4, 3) := by decide +kernel
theorem dX8_hasLeft_21 : decode cX8_hasLeft 21 = .ok (.iconst 0, 1) := by decide +kernel
theorem dX8_hasLeft_22 : decode cX8_hasLeft 22 = .ok (.ireturn, 1) := by decide +kernel
theorem dX8_hasRight_0 : decode cX8_hasRight 0 = .ok (.aload_n 0, 1) := by decide +kernel
theorem dX8_hasRight_1 : decode cX8_hasRight 1 = .ok (.bipush 11, 2) := by decide +kernel
theorem dX8_hasRight_3 : decode cX8_hasRight 3 = .ok (.bipush 10, 2) := by decide +kernel
theorem dX8_hasRight_5 : decode cX8_hasRight 5 = .ok (.iload_n 1, 1) := by decide +kernel
theorem dX8_hasRight_6 : decode cX8_hasRight 6 = .ok (.imul, 1) := by decide +kernel
theorem dX8_hasRight_7 : decode cX8_hasRight 7 = .ok (.iload_n 2, 1) := by decide +kernel
theorem dX8_hasRight_8 : decode cX8_hasRight 8 = .ok (.iadd, 1) := by decide +kernel
theorem dX8_hasRight_9 : decode cX8_hasRight 9 = .ok (.invokevirtual 49, 3) := by decide +kernel
theorem dX8_hasRight_12 : decode cX8_hasRight 12 = .ok (.sipush (-10001), 3) := by decide +kernel
theorem dX8_hasRight_15 : decode cX8_hasRight 15 = .ok (.if_icmp .eq 7, 3) := by decide +kernel
theorem dX8_hasRight_18 : decode cX8_hasRight 18 = .ok (.iconst 1, 1) := by decide +kernel
theorem dX8_hasRight_19 : decode cX8_hasRight 19 = .ok (.goto 4, 3) := by decide +kernel
theorem dX8_hasRight_22 : decode cX8_hasRight 22 = .ok (.iconst 0, 1) := by decide +kernel
theorem dX8_hasRight_23 : decode cX8_hasRight 23 = .ok (.ireturn, 1) := by decide +kernel
theorem dX8_acceptedBy_0 : decode cX8_acceptedBy 0 = .ok (.aload_n 0, 1) := by decide +kernel
theorem dX8_acceptedBy_1 : decode cX8_acceptedBy 1 = .ok (.iload_n 1, 1) := by decide +kernel
theorem dX8_acceptedBy_2 : decode cX8_acceptedBy 2 = .ok (.invokevirtual 73, 3) := by decide +kernel
theorem dX8_acceptedBy_5 : decode cX8_acceptedBy 5 = .ok (.ifCond .ne 11, 3) := by decide +kernel
theorem dX8_acceptedBy_8 : decode cX8_acceptedBy 8 = .ok (.aload_n 0, 1) := by decide +kernel
theorem dX8_acceptedBy_9 : decode cX8_acceptedBy 9 = .ok (.sipush (-10002), 3) := by decide +kernel
theorem dX8_acceptedBy_12 : decode cX8_acceptedBy 12 = .ok (.invokevirtual 45, 3) := by decide +kernel
theorem dX8_acceptedBy_15 : decode cX8_acceptedBy 15 = .ok (.ireturn, 1) := by decide +kernel
theorem dX8_acceptedBy_16 : decode cX8_acceptedBy 16 = .ok (.aload_n 0, 1) := by decide +kernel
theorem dX8_acceptedBy_17 : decode cX8_acceptedBy 17 = .ok (.iload_n 1, 1) := by decide +kernel
theorem dX8_acceptedBy_18 : decode cX8_acceptedBy 18 = .ok (.invokevirtual 99, 3) := by decide +kernel
theorem dX8_acceptedBy_21 : decode cX8_acceptedBy 21 = .ok (.ireturn, 1) := by decide +kernel
theorem dX8_accepted_0 : decode cX8_accepted 0 = .ok (.iconst 0, 1) := by decide +kernel
theorem dX8_accepted_1 : decode cX8_accepted 1 = .ok (.istore_n 2, 1) := by decide +kernel
theorem dX8_accepted_2 : decode cX8_accepted 2 = .ok (.aload_n 0, 1) := by decide +kernel
theorem dX8_accepted_3 : decode cX8_accepted 3 = .ok (.iload_n 1, 1) := by decide +kernel
theorem dX8_accepted_4 : decode cX8_accepted 4 = .ok (.iconst 0, 1) := by decide +kernel
theorem dX8_accepted_5 : decode cX8_accepted 5 = .ok (.invokevirtual 81, 3) := by decide +kernel
theorem dX8_accepted_8 : decode cX8_accepted 8 = .ok (.istore_n 3, 1) := by decide +kernel
theorem dX8_accepted_9 : decode cX8_accepted 9 = .ok (.iload_n 3, 1) := by decide +kernel
theorem dX8_accepted_10 : decode cX8_accepted 10 = .ok (.iconst 2, 1) := by decide +kernel
theorem dX8_accepted_11 : decode cX8_accepted 11 = .ok (.if_icmp .ge 106, 3) := by decide +kernel
theorem dX8_accepted_14 : decode cX8_accepted 14 = .ok (.iload_n 3, 1) := by decide +kernel
theorem dX8_accepted_15 : decode cX8_accepted 15 = .ok (.ifCond .ne 7, 3) := by decide +kernel
theorem dX8_accepted_18 : decode cX8_accepted 18 = .ok (.iconst 0, 1) := by decide +kernel
theorem dX8_accepted_19 : decode cX8_accepted 19 = .ok (.goto 5, 3) := by decide +kernel
theorem dX8_accepted_22 : decode cX8_accepted 22 = .ok (.bipush 11, 2) := by decide +kernel
theorem dX8_accepted_24 : decode cX8_accepted 24 = .ok (.istore 4, 2) := by decide +kernel
theorem dX8_accepted_26 : decode cX8_accepted 26 = .ok (.iconst 0, 1) := by decide +kernel
theorem dX8_accepted_27 : decode cX8_accepted 27 = .ok (.istore 5, 2) := by decide +kernel
theorem dX8_accepted_29 : decode cX8_accepted 29 = .ok (.iload 5, 2) := by decide +kernel
theorem dX8_accepted_31 : decode cX8_accepted 31 = .ok (.aload_n 0, 1) := by decide +kernel
theorem dX8_accepted_32 : decode cX8_accepted 32 = .ok (.getfield 7, 3) := by decide +kernel
theorem dX8_accepted_35 : decode cX8_accepted 35 = .ok (.iload 4, 2) := by decide +kernel
theorem dX8_accepted_37 : decode cX8_accepted 37 = .ok (.iaload, 1) := by decide +kernel
theorem dX8_accepted_38 : decode cX8_accepted 38 = .ok (.if_icmp .ge 77, 3) := by decide +kernel
theorem dX8_accepted_41 : decode cX8_accepted 41 = .ok (.aload_n 0, 1) := by decide +kernel
theorem dX8_accepted_42 : decode cX8_accepted 42 = .ok (.getfield 7, 3) := by decide +kernel
theorem dX8_accepted_45 : decode cX8_accepted 45 = .ok (.iload 4, 2) := by decide +kernel
theorem dX8_accepted_47 : decode cX8_accepted 47 = .ok (.iconst 1, 1) := by decide +kernel
theorem dX8_accepted_48 : decode cX8_accepted 48 = .ok (.iadd, 1) := by decide +kernel
theorem dX8_accepted_49 : decode cX8_accepted 49 = .ok (.iload 5, 2) := by decide +kernel
theorem dX8_accepted_51 : decode cX8_accepted 51 = .ok (.iadd, 1) := by decide +kernel
theorem dX8_accepted_52 : decode cX8_accepted 52 = .ok (.iaload, 1) := by decide +kernel
theorem dX8_accepted_53 : decode cX8_accepted 53 = .ok (.istore 6, 2) := by decide +kernel
theorem dX8_accepted_55 : decode cX8_accepted 55 = .ok (.iload_n 3, 1) := by decide +kernel
theorem dX8_accepted_56 : decode cX8_accepted 56 = .ok (.ifCond .ne 22, 3) := by decide +kernel
theorem dX8_accepted_59 : decode cX8_accepted 59 = .ok (.aload_n 0, 1) := by decide +kernel
theorem dX8_accepted_60 : decode cX8_accepted 60 = .ok (.iload_n 1, 1) := by decide +kernel
theorem dX8_accepted_61 : decode cX8_accepted 61 = .ok (.iload 6, 2) := by decide +kernel
theorem dX8_accepted_63 : decode cX8_accepted 63 = .ok (.bipush 10, 2) := by decide +kernel
theorem dX8_accepted_65 : decode cX8_accepted 65 = .ok (.idiv, 1) := by decide +kernel
theorem dX8_accepted_66 : decode cX8_accepted 66 = .ok (.iload 6, 2) := by decide +kernel
theorem dX8_accepted_68 : decode cX8_accepted 68 = .ok (.bipush 10, 2) := by decide +kernel
theorem dX8_accepted_70 : decode cX8_accepted 70 = .ok (.irem, 1) := by decide +kernel
theorem dX8_accepted_71 : decode cX8_accepted 71 = .ok (.iconst 0, 1) := by decide +kernel
theorem dX8_accepted_72 : decode cX8_accepted 72 = .ok (.invokevirtual 91, 3) := by decide +kernel
theorem dX8_accepted_75 : decode cX8_accepted 75 = .ok (.goto 19, 3) := by decide +kernel
theorem dX8_accepted_78 : decode cX8_accepted 78 = .ok (.aload_n 0, 1) := by decide +kernel
theorem dX8_accepted_79 : decode cX8_accepted 79 = .ok (.iload_n 1, 1) := by decide +kernel
theorem dX8_accepted_80 : decode cX8_accepted 80 = .ok (.iconst 0, 1) := by decide +kernel
theorem dX8_accepted_81 : decode cX8_accepted 81 = .ok (.iload 6, 2) := by decide +kernel
theorem dX8_accepted_83 : decode cX8_accepted 83 = .ok (.bipush 10, 2) := by decide +kernel
theorem dX8_accepted_85 : decode cX8_accepted 85 = .ok (.idiv, 1) := by decide +kernel
theorem dX8_accepted_86 : decode cX8_accepted 86 = .ok (.iload 6, 2) := by decide +kernel
theorem dX8_accepted_88 : decode cX8_accepted 88 = .ok (.bipush 10, 2) := by decide +kernel
theorem dX8_accepted_90 : decode cX8_accepted 90 = .ok (.irem, 1) := by decide +kernel
theorem dX8_accepted_91 : decode cX8_accepted 91 = .ok (.invokevirtual 91, 3) := by decide +kernel
theorem dX8_accepted_94 : decode cX8_accepted 94 = .ok (.istore 7, 2) := by decide +kernel
theorem dX8_accepted_96 : decode cX8_accepted 96 = .ok (.iload_n 2, 1) := by decide +kernel
theorem dX8_accepted_97 : decode cX8_accepted 97 = .ok (.iload 7, 2) := by decide +kernel
theorem dX8_accepted_99 : decode cX8_accepted 99 = .ok (.ifCond .eq 7, 3) := by decide +kernel
theorem dX8_accepted_102 : decode cX8_accepted 102 = .ok (.iconst 1, 1) := by decide +kernel
theorem dX8_accepted_103 : decode cX8_accepted 103 = .ok (.goto 4, 3) := by decide +kernel
theorem dX8_accepted_106 : decode cX8_accepted 106 = .ok (.iconst 0, 1) := by decide +kernel
theorem dX8_accepted_107 : decode cX8_accepted 107 = .ok (.iadd, 1) := by decide +kernel
theorem dX8_accepted_108 : decode cX8_accepted 108 = .ok (.istore_n 2, 1) := by decide +kernel
theorem dX8_accepted_109 : decode cX8_accepted 109 = .ok (.iinc 5 1, 3) := by decide +kernel
theorem dX8_accepted_112 : decode cX8_accepted 112 = .ok (.goto (-83), 3) := by decide +kernel
theorem dX8_accepted_115 : decode cX8_accepted 115 = .ok (.iload_n 2, 1) := by decide +kernel
theorem dX8_accepted_116 : decode cX8_accepted 116 = .ok (.ireturn, 1) := by decide +kernel
theorem dX8_accepted_117 : decode cX8_accepted 117 = .ok (.iconst 0, 1) := by decide +kernel
theorem dX8_accepted_118 : decode cX8_accepted 118 = .ok (.istore 4, 2) := by decide +kernel
theorem dX8_accepted_120 : decode cX8_accepted 120 = .ok (.iload 4, 2) := by decide +kernel
theorem dX8_accepted_122 : decode cX8_accepted 122 = .ok (.aload_n 0, 1) := by decide +kernel
theorem dX8_accepted_123 : decode cX8_accepted 123 = .ok (.getfield 7, 3) := by decide +kernel
theorem dX8_accepted_126 : decode cX8_accepted 126 = .ok (.iconst 0, 1) := by decide +kernel
theorem dX8_accepted_127 : decode cX8_accepted 127 = .ok (.iaload, 1) := by decide +kernel
theorem dX8_accepted_128 : decode cX8_accepted 128 = .ok (.if_icmp .ge 121, 3) := by decide +kernel
theorem dX8_accepted_131 : decode cX8_accepted 131 = .ok (.aload_n 0, 1) := by decide +kernel
theorem dX8_accepted_132 : decode cX8_accepted 132 = .ok (.getfield 7, 3) := by decide +kernel
theorem dX8_accepted_135 : decode cX8_accepted 135 = .ok (.iconst 1, 1) := by decide +kernel
theorem dX8_accepted_136 : decode cX8_accepted 136 = .ok (.iload 4, 2) := by decide +kernel
theorem dX8_accepted_138 : decode cX8_accepted 138 = .ok (.iadd, 1) := by decide +kernel
theorem dX8_accepted_139 : decode cX8_accepted 139 = .ok (.iaload, 1) := by decide +kernel
theorem dX8_accepted_140 : decode cX8_accepted 140 = .ok (.bipush 10, 2) := by decide +kernel
theorem dX8_accepted_142 : decode cX8_accepted 142 = .ok (.idiv, 1) := by decide +kernel
theorem dX8_accepted_143 : decode cX8_accepted 143 = .ok (.istore 5, 2) := by decide +kernel
theorem dX8_accepted_145 : decode cX8_accepted 145 = .ok (.aload_n 0, 1) := by decide +kernel
theorem dX8_accepted_146 : decode cX8_accepted 146 = .ok (.getfield 7, 3) := by decide +kernel
theorem dX8_accepted_149 : decode cX8_accepted 149 = .ok (.iconst 1, 1) := by decide +kernel
theorem dX8_accepted_150 : decode cX8_accepted 150 = .ok (.iload 4, 2) := by decide +kernel
theorem dX8_accepted_152 : decode cX8_accepted 152 = .ok (.iadd, 1) := by decide +kernel
theorem dX8_accepted_153 : decode cX8_accepted 153 = .ok (.iaload, 1) := by decide +kernel
theorem dX8_accepted_154 : decode cX8_accepted 154 = .ok (.bipush 10, 2) := by decide +kernel
theorem dX8_accepted_156 : decode cX8_accepted 156 = .ok (.irem, 1) := by decide +kernel
theorem dX8_accepted_157 : decode cX8_accepted 157 = .ok (.istore 6, 2) := by decide +kernel
theorem dX8_accepted_159 : decode cX8_accepted 159 = .ok (.iconst 0, 1) := by decide +kernel
theorem dX8_accepted_160 : decode cX8_accepted 160 = .ok (.istore 7, 2) := by decide +kernel
theorem dX8_accepted_162 : decode cX8_accepted 162 = .ok (.iload 7, 2) := by decide +kernel
theorem dX8_accepted_164 : decode cX8_accepted 164 = .ok (.aload_n 0, 1) := by decide +kernel
theorem dX8_accepted_165 : decode cX8_accepted 165 = .ok (.getfield 7, 3) := by decide +kernel
theorem dX8_accepted_168 : decode cX8_accepted 168 = .ok (.bipush 11, 2) := by decide +kernel
theorem dX8_accepted_170 : decode cX8_accepted 170 = .ok (.iaload, 1) := by decide +kernel
theorem dX8_accepted_171 : decode cX8_accepted 171 = .ok (.if_icmp .ge 72, 3) := by decide +kernel
theorem dX8_accepted_174 : decode cX8_accepted 174 = .ok (.aload_n 0, 1) := by decide +kernel
theorem dX8_accepted_175 : decode cX8_accepted 175 = .ok (.getfield 7, 3) := by decide +kernel
theorem dX8_accepted_178 : decode cX8_accepted 178 = .ok (.bipush 12, 2) := by decide +kernel
theorem dX8_accepted_180 : decode cX8_accepted 180 = .ok (.iload 7, 2) := by decide +kernel
theorem dX8_accepted_182 : decode cX8_accepted 182 = .ok (.iadd, 1) := by decide +kernel
theorem dX8_accepted_183 : decode cX8_accepted 183 = .ok (.iaload, 1) := by decide +kernel
theorem dX8_accepted_184 : decode cX8_accepted 184 = .ok (.bipush 10, 2) := by decide +kernel
theorem dX8_accepted_186 : decode cX8_accepted 186 = .ok (.idiv, 1) := by decide +kernel
theorem dX8_accepted_187 : decode cX8_accepted 187 = .ok (.iload 6, 2) := by decide +kernel
theorem dX8_accepted_189 : decode cX8_accepted 189 = .ok (.if_icmp .ne 32, 3) := by decide +kernel
theorem dX8_accepted_192 : decode cX8_accepted 192 = .ok (.aload_n 0, 1) := by decide +kernel
theorem dX8_accepted_193 : decode cX8_accepted 193 = .ok (.iload_n 1, 1) := by decide +kernel
theorem dX8_accepted_194 : decode cX8_accepted 194 = .ok (.iload 5, 2) := by decide +kernel
theorem dX8_accepted_196 : decode cX8_accepted 196 = .ok (.iload 6, 2) := by decide +kernel
theorem dX8_accepted_198 : decode cX8_accepted 198 = .ok (.aload_n 0, 1) := by decide +kernel
theorem dX8_accepted_199 : decode cX8_accepted 199 = .ok (.getfield 7, 3) := by decide +kernel
theorem dX8_accepted_202 : decode cX8_accepted 202 = .ok (.bipush 12, 2) := by decide +kernel
theorem dX8_accepted_204 : decode cX8_accepted 204 = .ok (.iload 7, 2) := by decide +kernel
theorem dX8_accepted_206 : decode cX8_accepted 206 = .ok (.iadd, 1) := by decide +kernel
theorem dX8_accepted_207 : decode cX8_accepted 207 = .ok (.iaload, 1) := by decide +kernel
theorem dX8_accepted_208 : decode cX8_accepted 208 = .ok (.bipush 10, 2) := by decide +kernel
theorem dX8_accepted_210 : decode cX8_accepted 210 = .ok (.irem, 1) := by decide +kernel
theorem dX8_accepted_211 : decode cX8_accepted 211 = .ok (.invokevirtual 91, 3) := by decide +kernel
theorem dX8_accepted_214 : decode cX8_accepted 214 = .ok (.ifCond .eq 7, 3) := by decide +kernel
theorem dX8_accepted_217 : decode cX8_accepted 217 = .ok (.iconst 1, 1) := by decide +kernel
theorem dX8_accepted_218 : decode cX8_accepted 218 = .ok (.goto 4, 3) := by decide +kernel
theorem dX8_accepted_221 : decode cX8_accepted 221 = .ok (.iconst 0, 1) := by decide +kernel
theorem dX8_accepted_222 : decode cX8_accepted 222 = .ok (.istore 8, 2) := by decide +kernel
theorem dX8_accepted_224 : decode cX8_accepted 224 = .ok (.iload_n 2, 1) := by decide +kernel
theorem dX8_accepted_225 : decode cX8_accepted 225 = .ok (.iload 8, 2) := by decide +kernel
theorem dX8_accepted_227 : decode cX8_accepted 227 = .ok (.ifCond .eq 7, 3) := by decide +kernel
theorem dX8_accepted_230 : decode cX8_accepted 230 = .ok (.iconst 1, 1) := by decide +kernel
theorem dX8_accepted_231 : decode cX8_accepted 231 = .ok (.goto 4, 3) := by decide +kernel
theorem dX8_accepted_234 : decode cX8_accepted 234 = .ok (.iconst 0, 1) := by decide +kernel
theorem dX8_accepted_235 : decode cX8_accepted 235 = .ok (.iadd, 1) := by decide +kernel
theorem dX8_accepted_236 : decode cX8_accepted 236 = .ok (.istore_n 2, 1) := by decide +kernel
theorem dX8_accepted_237 : decode cX8_accepted 237 = .ok (.iinc 7 1, 3) := by decide +kernel
theorem dX8_accepted_240 : decode cX8_accepted 240 = .ok (.goto (-78), 3) := by decide +kernel
theorem dX8_accepted_243 : decode cX8_accepted 243 = .ok (.iinc 4 1, 3) := by decide +kernel
theorem dX8_accepted_246 : decode cX8_accepted 246 = .ok (.goto (-126), 3) := by decide +kernel
theorem dX8_accepted_249 : decode cX8_accepted 249 = .ok (.iload_n 2, 1) := by decide +kernel
theorem dX8_accepted_250 : decode cX8_accepted 250 = .ok (.ireturn, 1) := by decide +kernel
theorem dX8_matches_0 : decode cX8_matches 0 = .ok (.iconst 0, 1) := by decide +kernel
theorem dX8_matches_1 : decode cX8_matches 1 = .ok (.istore 4, 2) := by decide +kernel
theorem dX8_matches_3 : decode cX8_matches 3 = .ok (.iconst 0, 1) := by decide +kernel
theorem dX8_matches_4 : decode cX8_matches 4 = .ok (.istore 5, 2) := by decide +kernel
theorem dX8_matches_6 : decode cX8_matches 6 = .ok (.iload 5, 2) := by decide +kernel
theorem dX8_matches_8 : decode cX8_matches 8 = .ok (.bipush 10, 2) := by decide +kernel
theorem dX8_matches_10 : decode cX8_matches 10 = .ok (.if_icmp .ge 51, 3) := by decide +kernel
theorem dX8_matches_13 : decode cX8_matches 13 = .ok (.iload 4, 2) := by decide +kernel
theorem dX8_matches_15 : decode cX8_matches 15 = .ok (.aload_n 0, 1) := by decide +kernel
theorem dX8_matches_16 : decode cX8_matches 16 = .ok (.iload_n 1, 1) := by decide +kernel
theorem dX8_matches_17 : decode cX8_matches 17 = .ok (.iload 5, 2) := by decide +kernel
theorem dX8_matches_19 : decode cX8_matches 19 = .ok (.invokevirtual 102, 3) := by decide +kernel
theorem dX8_matches_22 : decode cX8_matches 22 = .ok (.ifCond .eq 29, 3) := by decide +kernel
theorem dX8_matches_25 : decode cX8_matches 25 = .ok (.aload_n 0, 1) := by decide +kernel
theorem dX8_matches_26 : decode cX8_matches 26 = .ok (.iload 5, 2) := by decide +kernel
theorem dX8_matches_28 : decode cX8_matches 28 = .ok (.iload_n 2, 1) := by decide +kernel
theorem dX8_matches_29 : decode cX8_matches 29 = .ok (.invokevirtual 105, 3) := by decide +kernel
theorem dX8_matches_32 : decode cX8_matches 32 = .ok (.ifCond .eq 19, 3) := by decide +kernel
theorem dX8_matches_35 : decode cX8_matches 35 = .ok (.aload_n 0, 1) := by decide +kernel
theorem dX8_matches_36 : decode cX8_matches 36 = .ok (.iload_n 3, 1) := by decide +kernel
theorem dX8_matches_37 : decode cX8_matches 37 = .ok (.iload_n 1, 1) := by decide +kernel
theorem dX8_matches_38 : decode cX8_matches 38 = .ok (.iload 5, 2) := by decide +kernel
theorem dX8_matches_40 : decode cX8_matches 40 = .ok (.iload_n 2, 1) := by decide +kernel
theorem dX8_matches_41 : decode cX8_matches 41 = .ok (.invokevirtual 108, 3) := by decide +kernel
theorem dX8_matches_44 : decode cX8_matches 44 = .ok (.ifCond .eq 7, 3) := by decide +kernel
theorem dX8_matches_47 : decode cX8_matches 47 = .ok (.iconst 1, 1) := by decide +kernel
theorem dX8_matches_48 : decode cX8_matches 48 = .ok (.goto 4, 3) := by decide +kernel
theorem dX8_matches_51 : decode cX8_matches 51 = .ok (.iconst 0, 1) := by decide +kernel
theorem dX8_matches_52 : decode cX8_matches 52 = .ok (.iadd, 1) := by decide +kernel
theorem dX8_matches_53 : decode cX8_matches 53 = .ok (.istore 4, 2) := by decide +kernel
theorem dX8_matches_55 : decode cX8_matches 55 = .ok (.iinc 5 1, 3) := by decide +kernel
theorem dX8_matches_58 : decode cX8_matches 58 = .ok (.goto (-52), 3) := by decide +kernel
theorem dX8_matches_61 : decode cX8_matches 61 = .ok (.iload 4, 2) := by decide +kernel
theorem dX8_matches_63 : decode cX8_matches 63 = .ok (.ireturn, 1) := by decide +kernel
theorem dX8_isAnswer_0 : decode cX8_isAnswer 0 = .ok (.aload_n 0, 1) := by decide +kernel
theorem dX8_isAnswer_1 : decode cX8_isAnswer 1 = .ok (.iload_n 1, 1) := by decide +kernel
theorem dX8_isAnswer_2 : decode cX8_isAnswer 2 = .ok (.iload_n 2, 1) := by decide +kernel
theorem dX8_isAnswer_3 : decode cX8_isAnswer 3 = .ok (.iconst 0, 1) := by decide +kernel
theorem dX8_isAnswer_4 : decode cX8_isAnswer 4 = .ok (.invokevirtual 111, 3) := by decide +kernel
theorem dX8_isAnswer_7 : decode cX8_isAnswer 7 = .ok (.ifCond .le 7, 3) := by decide +kernel
theorem dX8_isAnswer_10 : decode cX8_isAnswer 10 = .ok (.iconst 1, 1) := by decide +kernel
theorem dX8_isAnswer_11 : decode cX8_isAnswer 11 = .ok (.goto 4, 3) := by decide +kernel
theorem dX8_isAnswer_14 : decode cX8_isAnswer 14 = .ok (.iconst 0, 1) := by decide +kernel
theorem dX8_isAnswer_15 : decode cX8_isAnswer 15 = .ok (.ireturn, 1) := by decide +kernel
theorem dX8_answers_0 : decode cX8_answers 0 = .ok (.iconst 0, 1) := by decide +kernel
theorem dX8_answers_1 : decode cX8_answers 1 = .ok (.istore_n 1, 1) := by decide +kernel
theorem dX8_answers_2 : decode cX8_answers 2 = .ok (.iconst 0, 1) := by decide +kernel
theorem dX8_answers_3 : decode cX8_answers 3 = .ok (.istore_n 2, 1) := by decide +kernel
theorem dX8_answers_4 : decode cX8_answers 4 = .ok (.iload_n 2, 1) := by decide +kernel
theorem dX8_answers_5 : decode cX8_answers 5 = .ok (.bipush 100, 2) := by decide +kernel
theorem dX8_answers_7 : decode cX8_answers 7 = .ok (.if_icmp .ge 32, 3) := by decide +kernel
theorem dX8_answers_10 : decode cX8_answers 10 = .ok (.iload_n 1, 1) := by decide +kernel
theorem dX8_answers_11 : decode cX8_answers 11 = .ok (.aload_n 0, 1) := by decide +kernel
theorem dX8_answers_12 : decode cX8_answers 12 = .ok (.iload_n 2, 1) := by decide +kernel
theorem dX8_answers_13 : decode cX8_answers 13 = .ok (.bipush 10, 2) := by decide +kernel
theorem dX8_answers_15 : decode cX8_answers 15 = .ok (.idiv, 1) := by decide +kernel
theorem dX8_answers_16 : decode cX8_answers 16 = .ok (.iload_n 2, 1) := by decide +kernel
theorem dX8_answers_17 : decode cX8_answers 17 = .ok (.bipush 10, 2) := by decide +kernel
theorem dX8_answers_19 : decode cX8_answers 19 = .ok (.irem, 1) := by decide +kernel
theorem dX8_answers_20 : decode cX8_answers 20 = .ok (.invokevirtual 114, 3) := by decide +kernel
theorem dX8_answers_23 : decode cX8_answers 23 = .ok (.ifCond .eq 7, 3) := by decide +kernel
theorem dX8_answers_26 : decode cX8_answers 26 = .ok (.iconst 1, 1) := by decide +kernel
theorem dX8_answers_27 : decode cX8_answers 27 = .ok (.goto 4, 3) := by decide +kernel
theorem dX8_answers_30 : decode cX8_answers 30 = .ok (.iconst 0, 1) := by decide +kernel
theorem dX8_answers_31 : decode cX8_answers 31 = .ok (.iadd, 1) := by decide +kernel
theorem dX8_answers_32 : decode cX8_answers 32 = .ok (.istore_n 1, 1) := by decide +kernel
theorem dX8_answers_33 : decode cX8_answers 33 = .ok (.iinc 2 1, 3) := by decide +kernel
theorem dX8_answers_36 : decode cX8_answers 36 = .ok (.goto (-32), 3) := by decide +kernel
theorem dX8_answers_39 : decode cX8_answers 39 = .ok (.iload_n 1, 1) := by decide +kernel
theorem dX8_answers_40 : decode cX8_answers 40 = .ok (.ireturn, 1) := by decide +kernel
theorem dX8_answerCount_0 : decode cX8_answerCount 0 = .ok (.aload_n 0, 1) := by decide +kernel
theorem dX8_answerCount_1 : decode cX8_answerCount 1 = .ok (.invokevirtual 117, 3) := by decide +kernel
theorem dX8_answerCount_4 : decode cX8_answerCount 4 = .ok (.ireturn, 1) := by decide +kernel
theorem dX8_answerAt_0 : decode cX8_answerAt 0 = .ok (.iload_n 1, 1) := by decide +kernel
theorem dX8_answerAt_1 : decode cX8_answerAt 1 = .ok (.istore_n 2, 1) := by decide +kernel
theorem dX8_answerAt_2 : decode cX8_answerAt 2 = .ok (.iconst 0, 1) := by decide +kernel
theorem dX8_answerAt_3 : decode cX8_answerAt 3 = .ok (.istore_n 3, 1) := by decide +kernel
theorem dX8_answerAt_4 : decode cX8_answerAt 4 = .ok (.iload_n 3, 1) := by decide +kernel
theorem dX8_answerAt_5 : decode cX8_answerAt 5 = .ok (.bipush 100, 2) := by decide +kernel
theorem dX8_answerAt_7 : decode cX8_answerAt 7 = .ok (.if_icmp .ge 33, 3) := by decide +kernel
theorem dX8_answerAt_10 : decode cX8_answerAt 10 = .ok (.aload_n 0, 1) := by decide +kernel
theorem dX8_answerAt_11 : decode cX8_answerAt 11 = .ok (.iload_n 3, 1) := by decide +kernel
theorem dX8_answerAt_12 : decode cX8_answerAt 12 = .ok (.bipush 10, 2) := by decide +kernel
theorem dX8_answerAt_14 : decode cX8_answerAt 14 = .ok (.idiv, 1) := by decide +kernel
theorem dX8_answerAt_15 : decode cX8_answerAt 15 = .ok (.iload_n 3, 1) := by decide +kernel
theorem dX8_answerAt_16 : decode cX8_answerAt 16 = .ok (.bipush 10, 2) := by decide +kernel
theorem dX8_answerAt_18 : decode cX8_answerAt 18 = .ok (.irem, 1) := by decide +kernel
theorem dX8_answerAt_19 : decode cX8_answerAt 19 = .ok (.invokevirtual 114, 3) := by decide +kernel
theorem dX8_answerAt_22 : decode cX8_answerAt 22 = .ok (.ifCond .eq 12, 3) := by decide +kernel
theorem dX8_answerAt_25 : decode cX8_answerAt 25 = .ok (.iload_n 2, 1) := by decide +kernel
theorem dX8_answerAt_26 : decode cX8_answerAt 26 = .ok (.ifCond .ne 5, 3) := by decide +kernel
theorem dX8_answerAt_29 : decode cX8_answerAt 29 = .ok (.iload_n 3, 1) := by decide +kernel
theorem dX8_answerAt_30 : decode cX8_answerAt 30 = .ok (.ireturn, 1) := by decide +kernel
theorem dX8_answerAt_31 : decode cX8_answerAt 31 = .ok (.iinc 2 (-1), 3) := by decide +kernel
theorem dX8_answerAt_34 : decode cX8_answerAt 34 = .ok (.iinc 3 1, 3) := by decide +kernel
theorem dX8_answerAt_37 : decode cX8_answerAt 37 = .ok (.goto (-33), 3) := by decide +kernel
theorem dX8_answerAt_40 : decode cX8_answerAt 40 = .ok (.sipush (-10001), 3) := by decide +kernel
theorem dX8_answerAt_43 : decode cX8_answerAt 43 = .ok (.ireturn, 1) := by decide +kernel
theorem dX8_answer_0 : decode cX8_answer 0 = .ok (.iload_n 1, 1) := by decide +kernel
theorem dX8_answer_1 : decode cX8_answer 1 = .ok (.ifCond .ge 13, 3) := by decide +kernel
theorem dX8_answer_4 : decode cX8_answer 4 = .ok (.aload_n 0, 1) := by decide +kernel
theorem dX8_answer_5 : decode cX8_answer 5 = .ok (.sipush (-10002), 3) := by decide +kernel
theorem dX8_answer_8 : decode cX8_answer 8 = .ok (.invokevirtual 45, 3) := by decide +kernel
theorem dX8_answer_11 : decode cX8_answer 11 = .ok (.goto 8, 3) := by decide +kernel
theorem dX8_answer_14 : decode cX8_answer 14 = .ok (.aload_n 0, 1) := by decide +kernel
theorem dX8_answer_15 : decode cX8_answer 15 = .ok (.iload_n 1, 1) := by decide +kernel
theorem dX8_answer_16 : decode cX8_answer 16 = .ok (.invokevirtual 121, 3) := by decide +kernel
theorem dX8_answer_19 : decode cX8_answer 19 = .ok (.ireturn, 1) := by decide +kernel
theorem dX8_matchCount_0 : decode cX8_matchCount 0 = .ok (.iload_n 1, 1) := by decide +kernel
theorem dX8_matchCount_1 : decode cX8_matchCount 1 = .ok (.iload_n 2, 1) := by decide +kernel
theorem dX8_matchCount_2 : decode cX8_matchCount 2 = .ok (.invokestatic 41, 3) := by decide +kernel
theorem dX8_matchCount_5 : decode cX8_matchCount 5 = .ok (.ifCond .eq 13, 3) := by decide +kernel
theorem dX8_matchCount_8 : decode cX8_matchCount 8 = .ok (.aload_n 0, 1) := by decide +kernel
theorem dX8_matchCount_9 : decode cX8_matchCount 9 = .ok (.iload_n 1, 1) := by decide +kernel
theorem dX8_matchCount_10 : decode cX8_matchCount 10 = .ok (.iload_n 2, 1) := by decide +kernel
theorem dX8_matchCount_11 : decode cX8_matchCount 11 = .ok (.iconst 0, 1) := by decide +kernel
theorem dX8_matchCount_12 : decode cX8_matchCount 12 = .ok (.invokevirtual 111, 3) := by decide +kernel
theorem dX8_matchCount_15 : decode cX8_matchCount 15 = .ok (.goto 10, 3) := by decide +kernel
theorem dX8_matchCount_18 : decode cX8_matchCount 18 = .ok (.aload_n 0, 1) := by decide +kernel
theorem dX8_matchCount_19 : decode cX8_matchCount 19 = .ok (.sipush (-10002), 3) := by decide +kernel
theorem dX8_matchCount_22 : decode cX8_matchCount 22 = .ok (.invokevirtual 45, 3) := by decide +kernel
theorem dX8_matchCount_25 : decode cX8_matchCount 25 = .ok (.ireturn, 1) := by decide +kernel
theorem dX8_dropper_0 : decode cX8_dropper 0 = .ok (.iconst 0, 1) := by decide +kernel
theorem dX8_dropper_1 : decode cX8_dropper 1 = .ok (.istore 4, 2) := by decide +kernel
theorem dX8_dropper_3 : decode cX8_dropper 3 = .ok (.iload 4, 2) := by decide +kernel
theorem dX8_dropper_5 : decode cX8_dropper 5 = .ok (.aload_n 0, 1) := by decide +kernel
theorem dX8_dropper_6 : decode cX8_dropper 6 = .ok (.getfield 7, 3) := by decide +kernel
theorem dX8_dropper_9 : decode cX8_dropper 9 = .ok (.bipush 22, 2) := by decide +kernel
theorem dX8_dropper_11 : decode cX8_dropper 11 = .ok (.iaload, 1) := by decide +kernel
theorem dX8_dropper_12 : decode cX8_dropper 12 = .ok (.if_icmp .ge 94, 3) := by decide +kernel
theorem dX8_dropper_15 : decode cX8_dropper 15 = .ok (.aload_n 0, 1) := by decide +kernel
theorem dX8_dropper_16 : decode cX8_dropper 16 = .ok (.iload 4, 2) := by decide +kernel
theorem dX8_dropper_18 : decode cX8_dropper 18 = .ok (.iconst 0, 1) := by decide +kernel
theorem dX8_dropper_19 : decode cX8_dropper 19 = .ok (.invokevirtual 81, 3) := by decide +kernel
theorem dX8_dropper_22 : decode cX8_dropper 22 = .ok (.iload_n 1, 1) := by decide +kernel
theorem dX8_dropper_23 : decode cX8_dropper 23 = .ok (.if_icmp .ne 77, 3) := by decide +kernel
theorem dX8_dropper_26 : decode cX8_dropper 26 = .ok (.iconst 0, 1) := by decide +kernel
theorem dX8_dropper_27 : decode cX8_dropper 27 = .ok (.istore 5, 2) := by decide +kernel
theorem dX8_dropper_29 : decode cX8_dropper 29 = .ok (.iload 5, 2) := by decide +kernel
theorem dX8_dropper_31 : decode cX8_dropper 31 = .ok (.bipush 10, 2) := by decide +kernel
theorem dX8_dropper_33 : decode cX8_dropper 33 = .ok (.if_icmp .ge 54, 3) := by decide +kernel
theorem dX8_dropper_36 : decode cX8_dropper 36 = .ok (.aload_n 0, 1) := by decide +kernel
theorem dX8_dropper_37 : decode cX8_dropper 37 = .ok (.dup, 1) := by decide +kernel
theorem dX8_dropper_38 : decode cX8_dropper 38 = .ok (.getfield 124, 3) := by decide +kernel
theorem dX8_dropper_41 : decode cX8_dropper 41 = .ok (.aload_n 0, 1) := by decide +kernel
theorem dX8_dropper_42 : decode cX8_dropper 42 = .ok (.getfield 124, 3) := by decide +kernel
theorem dX8_dropper_45 : decode cX8_dropper 45 = .ok (.iload 5, 2) := by decide +kernel
theorem dX8_dropper_47 : decode cX8_dropper 47 = .ok (.ishr, 1) := by decide +kernel
theorem dX8_dropper_48 : decode cX8_dropper 48 = .ok (.iconst 1, 1) := by decide +kernel
theorem dX8_dropper_49 : decode cX8_dropper 49 = .ok (.iand, 1) := by decide +kernel
theorem dX8_dropper_50 : decode cX8_dropper 50 = .ok (.iconst 1, 1) := by decide +kernel
theorem dX8_dropper_51 : decode cX8_dropper 51 = .ok (.if_icmp .ne 20, 3) := by decide +kernel
theorem dX8_dropper_54 : decode cX8_dropper 54 = .ok (.aload_n 0, 1) := by decide +kernel
theorem dX8_dropper_55 : decode cX8_dropper 55 = .ok (.iload 4, 2) := by decide +kernel
theorem dX8_dropper_57 : decode cX8_dropper 57 = .ok (.iload_n 2, 1) := by decide +kernel
theorem dX8_dropper_58 : decode cX8_dropper 58 = .ok (.iload 5, 2) := by decide +kernel
theorem dX8_dropper_60 : decode cX8_dropper 60 = .ok (.iload_n 3, 1) := by decide +kernel
theorem dX8_dropper_61 : decode cX8_dropper 61 = .ok (.invokevirtual 91, 3) := by decide +kernel
theorem dX8_dropper_64 : decode cX8_dropper 64 = .ok (.ifCond .eq 7, 3) := by decide +kernel
theorem dX8_dropper_67 : decode cX8_dropper 67 = .ok (.iconst (-1), 1) := by decide +kernel
theorem dX8_dropper_68 : decode cX8_dropper 68 = .ok (.goto 9, 3) := by decide +kernel
theorem dX8_dropper_71 : decode cX8_dropper 71 = .ok (.iconst 1, 1) := by decide +kernel
theorem dX8_dropper_72 : decode cX8_dropper 72 = .ok (.iload 5, 2) := by decide +kernel
theorem dX8_dropper_74 : decode cX8_dropper 74 = .ok (.ishl, 1) := by decide +kernel
theorem dX8_dropper_75 : decode cX8_dropper 75 = .ok (.iconst (-1), 1) := by decide +kernel
theorem dX8_dropper_76 : decode cX8_dropper 76 = .ok (.ixor, 1) := by decide +kernel
theorem dX8_dropper_77 : decode cX8_dropper 77 = .ok (.iand, 1) := by decide +kernel
theorem dX8_dropper_78 : decode cX8_dropper 78 = .ok (.putfield 124, 3) := by decide +kernel
theorem dX8_dropper_81 : decode cX8_dropper 81 = .ok (.iinc 5 1, 3) := by decide +kernel
theorem dX8_dropper_84 : decode cX8_dropper 84 = .ok (.goto (-55), 3) := by decide +kernel
theorem dX8_dropper_87 : decode cX8_dropper 87 = .ok (.aload_n 0, 1) := by decide +kernel
theorem dX8_dropper_88 : decode cX8_dropper 88 = .ok (.getfield 124, 3) := by decide +kernel
theorem dX8_dropper_91 : decode cX8_dropper 91 = .ok (.ifCond .ne 9, 3) := by decide +kernel
theorem dX8_dropper_94 : decode cX8_dropper 94 = .ok (.bipush 10, 2) := by decide +kernel
theorem dX8_dropper_96 : decode cX8_dropper 96 = .ok (.iload 4, 2) := by decide +kernel
theorem dX8_dropper_98 : decode cX8_dropper 98 = .ok (.iadd, 1) := by decide +kernel
theorem dX8_dropper_99 : decode cX8_dropper 99 = .ok (.ireturn, 1) := by decide +kernel
theorem dX8_dropper_100 : decode cX8_dropper 100 = .ok (.iinc 4 1, 3) := by decide +kernel
theorem dX8_dropper_103 : decode cX8_dropper 103 = .ok (.goto (-100), 3) := by decide +kernel
theorem dX8_dropper_106 : decode cX8_dropper 106 = .ok (.sipush (-10001), 3) := by decide +kernel
theorem dX8_dropper_109 : decode cX8_dropper 109 = .ok (.ireturn, 1) := by decide +kernel
theorem dX8_cause_0 : decode cX8_cause 0 = .ok (.aload_n 0, 1) := by decide +kernel
theorem dX8_cause_1 : decode cX8_cause 1 = .ok (.iconst 0, 1) := by decide +kernel
theorem dX8_cause_2 : decode cX8_cause 2 = .ok (.putfield 124, 3) := by decide +kernel
theorem dX8_cause_5 : decode cX8_cause 5 = .ok (.iconst 0, 1) := by decide +kernel
theorem dX8_cause_6 : decode cX8_cause 6 = .ok (.istore_n 3, 1) := by decide +kernel
theorem dX8_cause_7 : decode cX8_cause 7 = .ok (.iload_n 3, 1) := by decide +kernel
theorem dX8_cause_8 : decode cX8_cause 8 = .ok (.bipush 10, 2) := by decide +kernel
theorem dX8_cause_10 : decode cX8_cause 10 = .ok (.if_icmp .ge 34, 3) := by decide +kernel
theorem dX8_cause_13 : decode cX8_cause 13 = .ok (.aload_n 0, 1) := by decide +kernel
theorem dX8_cause_14 : decode cX8_cause 14 = .ok (.dup, 1) := by decide +kernel
theorem dX8_cause_15 : decode cX8_cause 15 = .ok (.getfield 124, 3) := by decide +kernel
theorem dX8_cause_18 : decode cX8_cause 18 = .ok (.aload_n 0, 1) := by decide +kernel
theorem dX8_cause_19 : decode cX8_cause 19 = .ok (.iload_n 1, 1) := by decide +kernel
theorem dX8_cause_20 : decode cX8_cause 20 = .ok (.iload_n 3, 1) := by decide +kernel
theorem dX8_cause_21 : decode cX8_cause 21 = .ok (.invokevirtual 102, 3) := by decide +kernel
theorem dX8_cause_24 : decode cX8_cause 24 = .ok (.ifCond .eq 9, 3) := by decide +kernel
theorem dX8_cause_27 : decode cX8_cause 27 = .ok (.iconst 1, 1) := by decide +kernel
theorem dX8_cause_28 : decode cX8_cause 28 = .ok (.iload_n 3, 1) := by decide +kernel
theorem dX8_cause_29 : decode cX8_cause 29 = .ok (.ishl, 1) := by decide +kernel
theorem dX8_cause_30 : decode cX8_cause 30 = .ok (.goto 4, 3) := by decide +kernel
theorem dX8_cause_33 : decode cX8_cause 33 = .ok (.iconst 0, 1) := by decide +kernel
theorem dX8_cause_34 : decode cX8_cause 34 = .ok (.ior, 1) := by decide +kernel
theorem dX8_cause_35 : decode cX8_cause 35 = .ok (.putfield 124, 3) := by decide +kernel
theorem dX8_cause_38 : decode cX8_cause 38 = .ok (.iinc 3 1, 3) := by decide +kernel
theorem dX8_cause_41 : decode cX8_cause 41 = .ok (.goto (-34), 3) := by decide +kernel
theorem dX8_cause_44 : decode cX8_cause 44 = .ok (.aload_n 0, 1) := by decide +kernel
theorem dX8_cause_45 : decode cX8_cause 45 = .ok (.getfield 124, 3) := by decide +kernel
theorem dX8_cause_48 : decode cX8_cause 48 = .ok (.ifCond .ne 5, 3) := by decide +kernel
theorem dX8_cause_51 : decode cX8_cause 51 = .ok (.iconst 0, 1) := by decide +kernel
theorem dX8_cause_52 : decode cX8_cause 52 = .ok (.ireturn, 1) := by decide +kernel
theorem dX8_cause_53 : decode cX8_cause 53 = .ok (.aload_n 0, 1) := by decide +kernel
theorem dX8_cause_54 : decode cX8_cause 54 = .ok (.iconst 0, 1) := by decide +kernel
theorem dX8_cause_55 : decode cX8_cause 55 = .ok (.iload_n 1, 1) := by decide +kernel
theorem dX8_cause_56 : decode cX8_cause 56 = .ok (.iload_n 2, 1) := by decide +kernel
theorem dX8_cause_57 : decode cX8_cause 57 = .ok (.invokevirtual 127, 3) := by decide +kernel
theorem dX8_cause_60 : decode cX8_cause 60 = .ok (.istore_n 3, 1) := by decide +kernel
theorem dX8_cause_61 : decode cX8_cause 61 = .ok (.iload_n 3, 1) := by decide +kernel
theorem dX8_cause_62 : decode cX8_cause 62 = .ok (.sipush (-10001), 3) := by decide +kernel
theorem dX8_cause_65 : decode cX8_cause 65 = .ok (.if_icmp .eq 5, 3) := by decide +kernel
theorem dX8_cause_68 : decode cX8_cause 68 = .ok (.iload_n 3, 1) := by decide +kernel
theorem dX8_cause_69 : decode cX8_cause 69 = .ok (.ireturn, 1) := by decide +kernel
theorem dX8_cause_70 : decode cX8_cause 70 = .ok (.aload_n 0, 1) := by decide +kernel
theorem dX8_cause_71 : decode cX8_cause 71 = .ok (.getfield 124, 3) := by decide +kernel
theorem dX8_cause_74 : decode cX8_cause 74 = .ok (.istore 4, 2) := by decide +kernel
