theorem d_LA_cell_0 : decode b_LA_cell 0 = .ok (.iload_n 1, 1) := by decide +kernel
theorem d_LA_cell_1 : decode b_LA_cell 1 = .ok (.aload_n 0, 1) := by decide +kernel
theorem d_LA_cell_2 : decode b_LA_cell 2 = .ok (.arraylength, 1) := by decide +kernel
theorem d_LA_cell_3 : decode b_LA_cell 3 = .ok (.if_icmp .ge 9, 3) := by decide +kernel
theorem d_LA_cell_6 : decode b_LA_cell 6 = .ok (.aload_n 0, 1) := by decide +kernel
theorem d_LA_cell_7 : decode b_LA_cell 7 = .ok (.iload_n 1, 1) := by decide +kernel
theorem d_LA_cell_8 : decode b_LA_cell 8 = .ok (.iaload, 1) := by decide +kernel
theorem d_LA_cell_9 : decode b_LA_cell 9 = .ok (.goto 4, 3) := by decide +kernel
theorem d_LA_cell_12 : decode b_LA_cell 12 = .ok (.iconst 0, 1) := by decide +kernel
theorem d_LA_cell_13 : decode b_LA_cell 13 = .ok (.ireturn, 1) := by decide +kernel
theorem d_LA_feed_0 : decode b_LA_feed 0 = .ok (.aload 4, 2) := by decide +kernel
theorem d_LA_feed_2 : decode b_LA_feed 2 = .ok (.iconst 0, 1) := by decide +kernel
theorem d_LA_feed_3 : decode b_LA_feed 3 = .ok (.aload_n 0, 1) := by decide +kernel
theorem d_LA_feed_4 : decode b_LA_feed 4 = .ok (.lload_n 1, 1) := by decide +kernel
theorem d_LA_feed_5 : decode b_LA_feed 5 = .ok (.iload_n 3, 1) := by decide +kernel
theorem d_LA_feed_6 : decode b_LA_feed 6 = .ok (.invokevirtual 7, 3) := by decide +kernel
theorem d_LA_feed_9 : decode b_LA_feed 9 = .ok (.i2l, 1) := by decide +kernel
theorem d_LA_feed_10 : decode b_LA_feed 10 = .ok (.lastore, 1) := by decide +kernel
theorem d_LA_feed_11 : decode b_LA_feed 11 = .ok (.goto 11, 3) := by decide +kernel
theorem d_LA_feed_14 : decode b_LA_feed 14 = .ok (.astore 5, 2) := by decide +kernel
theorem d_LA_feed_16 : decode b_LA_feed 16 = .ok (.iconst 1, 1) := by decide +kernel
theorem d_LA_feed_17 : decode b_LA_feed 17 = .ok (.ireturn, 1) := by decide +kernel
theorem d_LA_feed_18 : decode b_LA_feed 18 = .ok (.astore 5, 2) := by decide +kernel
theorem d_LA_feed_20 : decode b_LA_feed 20 = .ok (.iconst 2, 1) := by decide +kernel
theorem d_LA_feed_21 : decode b_LA_feed 21 = .ok (.ireturn, 1) := by decide +kernel
theorem d_LA_feed_22 : decode b_LA_feed 22 = .ok (.iconst 0, 1) := by decide +kernel
theorem d_LA_feed_23 : decode b_LA_feed 23 = .ok (.ireturn, 1) := by decide +kernel
theorem d_LA_append_0 : decode b_LA_append 0 = .ok (.aload_n 3, 1) := by decide +kernel
theorem d_LA_append_1 : decode b_LA_append 1 = .ok (.iconst 0, 1) := by decide +kernel
theorem d_LA_append_2 : decode b_LA_append 2 = .ok (.aload_n 0, 1) := by decide +kernel
theorem d_LA_append_3 : decode b_LA_append 3 = .ok (.iload_n 1, 1) := by decide +kernel
theorem d_LA_append_4 : decode b_LA_append 4 = .ok (.iload_n 2, 1) := by decide +kernel
theorem d_LA_append_5 : decode b_LA_append 5 = .ok (.invokevirtual 17, 3) := by decide +kernel
theorem d_LA_append_8 : decode b_LA_append 8 = .ok (.i2l, 1) := by decide +kernel
theorem d_LA_append_9 : decode b_LA_append 9 = .ok (.lastore, 1) := by decide +kernel
theorem d_LA_append_10 : decode b_LA_append 10 = .ok (.goto 11, 3) := by decide +kernel
theorem d_LA_append_13 : decode b_LA_append 13 = .ok (.astore 4, 2) := by decide +kernel
theorem d_LA_append_15 : decode b_LA_append 15 = .ok (.iconst 1, 1) := by decide +kernel
theorem d_LA_append_16 : decode b_LA_append 16 = .ok (.ireturn, 1) := by decide +kernel
theorem d_LA_append_17 : decode b_LA_append 17 = .ok (.astore 4, 2) := by decide +kernel
theorem d_LA_append_19 : decode b_LA_append 19 = .ok (.iconst 2, 1) := by decide +kernel
theorem d_LA_append_20 : decode b_LA_append 20 = .ok (.ireturn, 1) := by decide +kernel
theorem d_LA_append_21 : decode b_LA_append 21 = .ok (.iconst 0, 1) := by decide +kernel
theorem d_LA_append_22 : decode b_LA_append 22 = .ok (.ireturn, 1) := by decide +kernel
theorem d_LA_cut_0 : decode b_LA_cut 0 = .ok (.aload_n 3, 1) := by decide +kernel
theorem d_LA_cut_1 : decode b_LA_cut 1 = .ok (.iconst 0, 1) := by decide +kernel
theorem d_LA_cut_2 : decode b_LA_cut 2 = .ok (.aload_n 0, 1) := by decide +kernel
theorem d_LA_cut_3 : decode b_LA_cut 3 = .ok (.iload_n 1, 1) := by decide +kernel
theorem d_LA_cut_4 : decode b_LA_cut 4 = .ok (.iload_n 2, 1) := by decide +kernel
theorem d_LA_cut_5 : decode b_LA_cut 5 = .ok (.invokevirtual 25, 3) := by decide +kernel
theorem d_LA_cut_8 : decode b_LA_cut 8 = .ok (.i2l, 1) := by decide +kernel
theorem d_LA_cut_9 : decode b_LA_cut 9 = .ok (.lastore, 1) := by decide +kernel
theorem d_LA_cut_10 : decode b_LA_cut 10 = .ok (.goto 15, 3) := by decide +kernel
theorem d_LA_cut_13 : decode b_LA_cut 13 = .ok (.astore 4, 2) := by decide +kernel
theorem d_LA_cut_15 : decode b_LA_cut 15 = .ok (.iconst 1, 1) := by decide +kernel
theorem d_LA_cut_16 : decode b_LA_cut 16 = .ok (.ireturn, 1) := by decide +kernel
theorem d_LA_cut_17 : decode b_LA_cut 17 = .ok (.astore 4, 2) := by decide +kernel
theorem d_LA_cut_19 : decode b_LA_cut 19 = .ok (.iconst 2, 1) := by decide +kernel
theorem d_LA_cut_20 : decode b_LA_cut 20 = .ok (.ireturn, 1) := by decide +kernel
theorem d_LA_cut_21 : decode b_LA_cut 21 = .ok (.astore 4, 2) := by decide +kernel
theorem d_LA_cut_23 : decode b_LA_cut 23 = .ok (.iconst 3, 1) := by decide +kernel
theorem d_LA_cut_24 : decode b_LA_cut 24 = .ok (.ireturn, 1) := by decide +kernel
theorem d_LA_cut_25 : decode b_LA_cut 25 = .ok (.iconst 0, 1) := by decide +kernel
theorem d_LA_cut_26 : decode b_LA_cut 26 = .ok (.ireturn, 1) := by decide +kernel
theorem d_LA_remove_0 : decode b_LA_remove 0 = .ok (.aload_n 2, 1) := by decide +kernel
theorem d_LA_remove_1 : decode b_LA_remove 1 = .ok (.iconst 0, 1) := by decide +kernel
theorem d_LA_remove_2 : decode b_LA_remove 2 = .ok (.aload_n 0, 1) := by decide +kernel
theorem d_LA_remove_3 : decode b_LA_remove 3 = .ok (.iload_n 1, 1) := by decide +kernel
theorem d_LA_remove_4 : decode b_LA_remove 4 = .ok (.invokevirtual 30, 3) := by decide +kernel
theorem d_LA_remove_7 : decode b_LA_remove 7 = .ok (.ifCond .eq 7, 3) := by decide +kernel
theorem d_LA_remove_10 : decode b_LA_remove 10 = .ok (.lconst 1, 1) := by decide +kernel
theorem d_LA_remove_11 : decode b_LA_remove 11 = .ok (.goto 4, 3) := by decide +kernel
theorem d_LA_remove_14 : decode b_LA_remove 14 = .ok (.lconst 0, 1) := by decide +kernel
theorem d_LA_remove_15 : decode b_LA_remove 15 = .ok (.lastore, 1) := by decide +kernel
theorem d_LA_remove_16 : decode b_LA_remove 16 = .ok (.goto 6, 3) := by decide +kernel
theorem d_LA_remove_19 : decode b_LA_remove 19 = .ok (.astore_n 3, 1) := by decide +kernel
theorem d_LA_remove_20 : decode b_LA_remove 20 = .ok (.iconst 1, 1) := by decide +kernel
theorem d_LA_remove_21 : decode b_LA_remove 21 = .ok (.ireturn, 1) := by decide +kernel
theorem d_LA_remove_22 : decode b_LA_remove 22 = .ok (.iconst 0, 1) := by decide +kernel
theorem d_LA_remove_23 : decode b_LA_remove 23 = .ok (.ireturn, 1) := by decide +kernel
theorem d_LA_twin_0 : decode b_LA_twin 0 = .ok (.aload_n 3, 1) := by decide +kernel
theorem d_LA_twin_1 : decode b_LA_twin 1 = .ok (.iconst 0, 1) := by decide +kernel
theorem d_LA_twin_2 : decode b_LA_twin 2 = .ok (.aload_n 0, 1) := by decide +kernel
theorem d_LA_twin_3 : decode b_LA_twin 3 = .ok (.iload_n 1, 1) := by decide +kernel
theorem d_LA_twin_4 : decode b_LA_twin 4 = .ok (.iload_n 2, 1) := by decide +kernel
theorem d_LA_twin_5 : decode b_LA_twin 5 = .ok (.invokevirtual 34, 3) := by decide +kernel
theorem d_LA_twin_8 : decode b_LA_twin 8 = .ok (.i2l, 1) := by decide +kernel
theorem d_LA_twin_9 : decode b_LA_twin 9 = .ok (.lastore, 1) := by decide +kernel
theorem d_LA_twin_10 : decode b_LA_twin 10 = .ok (.goto 11, 3) := by decide +kernel
theorem d_LA_twin_13 : decode b_LA_twin 13 = .ok (.astore 4, 2) := by decide +kernel
theorem d_LA_twin_15 : decode b_LA_twin 15 = .ok (.iconst 1, 1) := by decide +kernel
theorem d_LA_twin_16 : decode b_LA_twin 16 = .ok (.ireturn, 1) := by decide +kernel
theorem d_LA_twin_17 : decode b_LA_twin 17 = .ok (.astore 4, 2) := by decide +kernel
theorem d_LA_twin_19 : decode b_LA_twin 19 = .ok (.iconst 2, 1) := by decide +kernel
theorem d_LA_twin_20 : decode b_LA_twin 20 = .ok (.ireturn, 1) := by decide +kernel
theorem d_LA_twin_21 : decode b_LA_twin 21 = .ok (.iconst 0, 1) := by decide +kernel
theorem d_LA_twin_22 : decode b_LA_twin 22 = .ok (.ireturn, 1) := by decide +kernel
theorem d_LA_sync_0 : decode b_LA_sync 0 = .ok (.aload_n 2, 1) := by decide +kernel
theorem d_LA_sync_1 : decode b_LA_sync 1 = .ok (.iconst 0, 1) := by decide +kernel
theorem d_LA_sync_2 : decode b_LA_sync 2 = .ok (.aload_n 0, 1) := by decide +kernel
theorem d_LA_sync_3 : decode b_LA_sync 3 = .ok (.iload_n 1, 1) := by decide +kernel
theorem d_LA_sync_4 : decode b_LA_sync 4 = .ok (.invokevirtual 37, 3) := by decide +kernel
theorem d_LA_sync_7 : decode b_LA_sync 7 = .ok (.i2l, 1) := by decide +kernel
theorem d_LA_sync_8 : decode b_LA_sync 8 = .ok (.lastore, 1) := by decide +kernel
theorem d_LA_sync_9 : decode b_LA_sync 9 = .ok (.goto 6, 3) := by decide +kernel
theorem d_LA_sync_12 : decode b_LA_sync 12 = .ok (.astore_n 3, 1) := by decide +kernel
theorem d_LA_sync_13 : decode b_LA_sync 13 = .ok (.iconst 1, 1) := by decide +kernel
theorem d_LA_sync_14 : decode b_LA_sync 14 = .ok (.ireturn, 1) := by decide +kernel
theorem d_LA_sync_15 : decode b_LA_sync 15 = .ok (.iconst 0, 1) := by decide +kernel
theorem d_LA_sync_16 : decode b_LA_sync 16 = .ok (.ireturn, 1) := by decide +kernel
theorem d_LA_crash_0 : decode b_LA_crash 0 = .ok (.aload_n 3, 1) := by decide +kernel
theorem d_LA_crash_1 : decode b_LA_crash 1 = .ok (.iconst 0, 1) := by decide +kernel
theorem d_LA_crash_2 : decode b_LA_crash 2 = .ok (.aload_n 0, 1) := by decide +kernel
theorem d_LA_crash_3 : decode b_LA_crash 3 = .ok (.iload_n 1, 1) := by decide +kernel
theorem d_LA_crash_4 : decode b_LA_crash 4 = .ok (.iload_n 2, 1) := by decide +kernel
theorem d_LA_crash_5 : decode b_LA_crash 5 = .ok (.invokevirtual 41, 3) := by decide +kernel
theorem d_LA_crash_8 : decode b_LA_crash 8 = .ok (.i2l, 1) := by decide +kernel
theorem d_LA_crash_9 : decode b_LA_crash 9 = .ok (.lastore, 1) := by decide +kernel
theorem d_LA_crash_10 : decode b_LA_crash 10 = .ok (.goto 11, 3) := by decide +kernel
theorem d_LA_crash_13 : decode b_LA_crash 13 = .ok (.astore 4, 2) := by decide +kernel
theorem d_LA_crash_15 : decode b_LA_crash 15 = .ok (.iconst 1, 1) := by decide +kernel
theorem d_LA_crash_16 : decode b_LA_crash 16 = .ok (.ireturn, 1) := by decide +kernel
theorem d_LA_crash_17 : decode b_LA_crash 17 = .ok (.astore 4, 2) := by decide +kernel
theorem d_LA_crash_19 : decode b_LA_crash 19 = .ok (.iconst 2, 1) := by decide +kernel
theorem d_LA_crash_20 : decode b_LA_crash 20 = .ok (.ireturn, 1) := by decide +kernel
theorem d_LA_crash_21 : decode b_LA_crash 21 = .ok (.iconst 0, 1) := by decide +kernel
theorem d_LA_crash_22 : decode b_LA_crash 22 = .ok (.ireturn, 1) := by decide +kernel
theorem d_LA_file_0 : decode b_LA_file 0 = .ok (.aload_n 3, 1) := by decide +kernel
theorem d_LA_file_1 : decode b_LA_file 1 = .ok (.iconst 0, 1) := by decide +kernel
theorem d_LA_file_2 : decode b_LA_file 2 = .ok (.aload_n 0, 1) := by decide +kernel
theorem d_LA_file_3 : decode b_LA_file 3 = .ok (.iload_n 1, 1) := by decide +kernel
theorem d_LA_file_4 : decode b_LA_file 4 = .ok (.iload_n 2, 1) := by decide +kernel
theorem d_LA_file_5 : decode b_LA_file 5 = .ok (.invokevirtual 44, 3) := by decide +kernel
theorem d_LA_file_8 : decode b_LA_file 8 = .ok (.i2l, 1) := by decide +kernel
theorem d_LA_file_9 : decode b_LA_file 9 = .ok (.lastore, 1) := by decide +kernel
theorem d_LA_file_10 : decode b_LA_file 10 = .ok (.goto 7, 3) := by decide +kernel
theorem d_LA_file_13 : decode b_LA_file 13 = .ok (.astore 4, 2) := by decide +kernel
theorem d_LA_file_15 : decode b_LA_file 15 = .ok (.iconst 1, 1) := by decide +kernel
theorem d_LA_file_16 : decode b_LA_file 16 = .ok (.ireturn, 1) := by decide +kernel
theorem d_LA_file_17 : decode b_LA_file 17 = .ok (.iconst 0, 1) := by decide +kernel
theorem d_LA_file_18 : decode b_LA_file 18 = .ok (.ireturn, 1) := by decide +kernel
theorem d_LA_byteAt_0 : decode b_LA_byteAt 0 = .ok (.aload 4, 2) := by decide +kernel
theorem d_LA_byteAt_2 : decode b_LA_byteAt 2 = .ok (.iconst 0, 1) := by decide +kernel
theorem d_LA_byteAt_3 : decode b_LA_byteAt 3 = .ok (.aload_n 0, 1) := by decide +kernel
theorem d_LA_byteAt_4 : decode b_LA_byteAt 4 = .ok (.iload_n 1, 1) := by decide +kernel
theorem d_LA_byteAt_5 : decode b_LA_byteAt 5 = .ok (.iload_n 2, 1) := by decide +kernel
theorem d_LA_byteAt_6 : decode b_LA_byteAt 6 = .ok (.iload_n 3, 1) := by decide +kernel
theorem d_LA_byteAt_7 : decode b_LA_byteAt 7 = .ok (.invokevirtual 47, 3) := by decide +kernel
theorem d_LA_byteAt_10 : decode b_LA_byteAt 10 = .ok (.i2l, 1) := by decide +kernel
theorem d_LA_byteAt_11 : decode b_LA_byteAt 11 = .ok (.lastore, 1) := by decide +kernel
theorem d_LA_byteAt_12 : decode b_LA_byteAt 12 = .ok (.goto 7, 3) := by decide +kernel
theorem d_LA_byteAt_15 : decode b_LA_byteAt 15 = .ok (.astore 5, 2) := by decide +kernel
theorem d_LA_byteAt_17 : decode b_LA_byteAt 17 = .ok (.iconst 1, 1) := by decide +kernel
theorem d_LA_byteAt_18 : decode b_LA_byteAt 18 = .ok (.ireturn, 1) := by decide +kernel
theorem d_LA_byteAt_19 : decode b_LA_byteAt 19 = .ok (.iconst 0, 1) := by decide +kernel
theorem d_LA_byteAt_20 : decode b_LA_byteAt 20 = .ok (.ireturn, 1) := by decide +kernel
theorem d_LA_law_0 : decode code 0 = .ok (.new 8, 3) := by decide +kernel
theorem d_LA_law_3 : decode code 3 = .ok (.dup, 1) := by decide +kernel
theorem d_LA_law_4 : decode code 4 = .ok (.aload_n 0, 1) := by decide +kernel
theorem d_LA_law_5 : decode code 5 = .ok (.iconst 0, 1) := by decide +kernel
theorem d_LA_law_6 : decode code 6 = .ok (.invokestatic 51, 3) := by decide +kernel
theorem d_LA_law_9 : decode code 9 = .ok (.invokespecial 57, 3) := by decide +kernel
theorem d_LA_law_12 : decode code 12 = .ok (.astore_n 1, 1) := by decide +kernel
theorem d_LA_law_13 : decode code 13 = .ok (.new 60, 3) := by decide +kernel
theorem d_LA_law_16 : decode code 16 = .ok (.dup, 1) := by decide +kernel
theorem d_LA_law_17 : decode code 17 = .ok (.aload_n 0, 1) := by decide +kernel
theorem d_LA_law_18 : decode code 18 = .ok (.iconst 0, 1) := by decide +kernel
theorem d_LA_law_19 : decode code 19 = .ok (.invokestatic 51, 3) := by decide +kernel
theorem d_LA_law_22 : decode code 22 = .ok (.invokespecial 62, 3) := by decide +kernel
theorem d_LA_law_25 : decode code 25 = .ok (.astore_n 2, 1) := by decide +kernel
theorem d_LA_law_26 : decode code 26 = .ok (.iconst 1, 1) := by decide +kernel
theorem d_LA_law_27 : decode code 27 = .ok (.newarray .long, 2) := by decide +kernel
theorem d_LA_law_29 : decode code 29 = .ok (.astore_n 3, 1) := by decide +kernel
theorem d_LA_law_30 : decode code 30 = .ok (.iconst 1, 1) := by decide +kernel
theorem d_LA_law_31 : decode code 31 = .ok (.istore 4, 2) := by decide +kernel
theorem d_LA_law_33 : decode code 33 = .ok (.iload 4, 2) := by decide +kernel
theorem d_LA_law_35 : decode code 35 = .ok (.aload_n 0, 1) := by decide +kernel
theorem d_LA_law_36 : decode code 36 = .ok (.arraylength, 1) := by decide +kernel
theorem d_LA_law_37 : decode code 37 = .ok (.iconst 4, 1) := by decide +kernel
theorem d_LA_law_38 : decode code 38 = .ok (.isub, 1) := by decide +kernel
theorem d_LA_law_39 : decode code 39 = .ok (.if_icmp .gt 812, 3) := by decide +kernel
theorem d_LA_law_42 : decode code 42 = .ok (.aload_n 0, 1) := by decide +kernel
theorem d_LA_law_43 : decode code 43 = .ok (.iload 4, 2) := by decide +kernel
theorem d_LA_law_45 : decode code 45 = .ok (.iaload, 1) := by decide +kernel
theorem d_LA_law_46 : decode code 46 = .ok (.bipush 15, 2) := by decide +kernel
theorem d_LA_law_48 : decode code 48 = .ok (.iand, 1) := by decide +kernel
theorem d_LA_law_49 : decode code 49 = .ok (.tableswitch 796 0 10 #[59, 159, 227, 295, 358, 426, 482, 550, 607, 675, 771], 59) := by decide +kernel
theorem d_LA_law_108 : decode code 108 = .ok (.aload_n 1, 1) := by decide +kernel
theorem d_LA_law_109 : decode code 109 = .ok (.aload_n 0, 1) := by decide +kernel
theorem d_LA_law_110 : decode code 110 = .ok (.iload 4, 2) := by decide +kernel
theorem d_LA_law_112 : decode code 112 = .ok (.iconst 1, 1) := by decide +kernel
theorem d_LA_law_113 : decode code 113 = .ok (.iadd, 1) := by decide +kernel
theorem d_LA_law_114 : decode code 114 = .ok (.iaload, 1) := by decide +kernel
theorem d_LA_law_115 : decode code 115 = .ok (.i2l, 1) := by decide +kernel
theorem d_LA_law_116 : decode code 116 = .ok (.bipush 32, 2) := by decide +kernel
theorem d_LA_law_118 : decode code 118 = .ok (.lshl, 1) := by decide +kernel
theorem d_LA_law_119 : decode code 119 = .ok (.aload_n 0, 1) := by decide +kernel
theorem d_LA_law_120 : decode code 120 = .ok (.iload 4, 2) := by decide +kernel
theorem d_LA_law_122 : decode code 122 = .ok (.iconst 2, 1) := by decide +kernel
theorem d_LA_law_123 : decode code 123 = .ok (.iadd, 1) := by decide +kernel
theorem d_LA_law_124 : decode code 124 = .ok (.iaload, 1) := by decide +kernel
theorem d_LA_law_125 : decode code 125 = .ok (.i2l, 1) := by decide +kernel
theorem d_LA_law_126 : decode code 126 = .ok (.ldc2_w 63, 3) := by decide +kernel
theorem d_LA_law_129 : decode code 129 = .ok (.land, 1) := by decide +kernel
theorem d_LA_law_130 : decode code 130 = .ok (.lor, 1) := by decide +kernel
theorem d_LA_law_131 : decode code 131 = .ok (.aload_n 0, 1) := by decide +kernel
theorem d_LA_law_132 : decode code 132 = .ok (.iload 4, 2) := by decide +kernel
theorem d_LA_law_134 : decode code 134 = .ok (.iconst 3, 1) := by decide +kernel
theorem d_LA_law_135 : decode code 135 = .ok (.iadd, 1) := by decide +kernel
theorem d_LA_law_136 : decode code 136 = .ok (.iaload, 1) := by decide +kernel
theorem d_LA_law_137 : decode code 137 = .ok (.aload_n 3, 1) := by decide +kernel
theorem d_LA_law_138 : decode code 138 = .ok (.invokestatic 65, 3) := by decide +kernel
theorem d_LA_law_141 : decode code 141 = .ok (.istore 5, 2) := by decide +kernel
theorem d_LA_law_143 : decode code 143 = .ok (.aload_n 2, 1) := by decide +kernel
theorem d_LA_law_144 : decode code 144 = .ok (.aload_n 0, 1) := by decide +kernel
theorem d_LA_law_145 : decode code 145 = .ok (.iload 4, 2) := by decide +kernel
theorem d_LA_law_147 : decode code 147 = .ok (.iconst 1, 1) := by decide +kernel
theorem d_LA_law_148 : decode code 148 = .ok (.iadd, 1) := by decide +kernel
theorem d_LA_law_149 : decode code 149 = .ok (.iaload, 1) := by decide +kernel
theorem d_LA_law_150 : decode code 150 = .ok (.i2l, 1) := by decide +kernel
theorem d_LA_law_151 : decode code 151 = .ok (.bipush 32, 2) := by decide +kernel
theorem d_LA_law_153 : decode code 153 = .ok (.lshl, 1) := by decide +kernel
theorem d_LA_law_154 : decode code 154 = .ok (.aload_n 0, 1) := by decide +kernel
theorem d_LA_law_155 : decode code 155 = .ok (.iload 4, 2) := by decide +kernel
theorem d_LA_law_157 : decode code 157 = .ok (.iconst 2, 1) := by decide +kernel
theorem d_LA_law_158 : decode code 158 = .ok (.iadd, 1) := by decide +kernel
theorem d_LA_law_159 : decode code 159 = .ok (.iaload, 1) := by decide +kernel
theorem d_LA_law_160 : decode code 160 = .ok (.i2l, 1) := by decide +kernel
theorem d_LA_law_161 : decode code 161 = .ok (.ldc2_w 63, 3) := by decide +kernel
theorem d_LA_law_164 : decode code 164 = .ok (.land, 1) := by decide +kernel
theorem d_LA_law_165 : decode code 165 = .ok (.lor, 1) := by decide +kernel
theorem d_LA_law_166 : decode code 166 = .ok (.aload_n 0, 1) := by decide +kernel
theorem d_LA_law_167 : decode code 167 = .ok (.iload 4, 2) := by decide +kernel
theorem d_LA_law_169 : decode code 169 = .ok (.iconst 3, 1) := by decide +kernel
theorem d_LA_law_170 : decode code 170 = .ok (.iadd, 1) := by decide +kernel
theorem d_LA_law_171 : decode code 171 = .ok (.iaload, 1) := by decide +kernel
theorem d_LA_law_172 : decode code 172 = .ok (.invokevirtual 68, 3) := by decide +kernel
theorem d_LA_law_175 : decode code 175 = .ok (.istore 6, 2) := by decide +kernel
theorem d_LA_law_177 : decode code 177 = .ok (.aload_n 2, 1) := by decide +kernel
theorem d_LA_law_178 : decode code 178 = .ok (.invokevirtual 69, 3) := by decide +kernel
theorem d_LA_law_181 : decode code 181 = .ok (.iload 5, 2) := by decide +kernel
theorem d_LA_law_183 : decode code 183 = .ok (.if_icmp .eq 5, 3) := by decide +kernel
theorem d_LA_law_186 : decode code 186 = .ok (.iconst 0, 1) := by decide +kernel
theorem d_LA_law_187 : decode code 187 = .ok (.ireturn, 1) := by decide +kernel
theorem d_LA_law_188 : decode code 188 = .ok (.iload 5, 2) := by decide +kernel
theorem d_LA_law_190 : decode code 190 = .ok (.ifCond .ne 15, 3) := by decide +kernel
theorem d_LA_law_193 : decode code 193 = .ok (.aload_n 3, 1) := by decide +kernel
theorem d_LA_law_194 : decode code 194 = .ok (.iconst 0, 1) := by decide +kernel
theorem d_LA_law_195 : decode code 195 = .ok (.laload, 1) := by decide +kernel
theorem d_LA_law_196 : decode code 196 = .ok (.iload 6, 2) := by decide +kernel
theorem d_LA_law_198 : decode code 198 = .ok (.i2l, 1) := by decide +kernel
theorem d_LA_law_199 : decode code 199 = .ok (.lcmp, 1) := by decide +kernel
theorem d_LA_law_200 : decode code 200 = .ok (.ifCond .eq 5, 3) := by decide +kernel
theorem d_LA_law_203 : decode code 203 = .ok (.iconst 0, 1) := by decide +kernel
theorem d_LA_law_204 : decode code 204 = .ok (.ireturn, 1) := by decide +kernel
theorem d_LA_law_205 : decode code 205 = .ok (.goto 640, 3) := by decide +kernel
theorem d_LA_law_208 : decode code 208 = .ok (.aload_n 1, 1) := by decide +kernel
theorem d_LA_law_209 : decode code 209 = .ok (.aload_n 0, 1) := by decide +kernel
theorem d_LA_law_210 : decode code 210 = .ok (.iload 4, 2) := by decide +kernel
theorem d_LA_law_212 : decode code 212 = .ok (.iconst 1, 1) := by decide +kernel
theorem d_LA_law_213 : decode code 213 = .ok (.iadd, 1) := by decide +kernel
theorem d_LA_law_214 : decode code 214 = .ok (.iaload, 1) := by decide +kernel
theorem d_LA_law_215 : decode code 215 = .ok (.aload_n 0, 1) := by decide +kernel
theorem d_LA_law_216 : decode code 216 = .ok (.iload 4, 2) := by decide +kernel
theorem d_LA_law_218 : decode code 218 = .ok (.iconst 2, 1) := by decide +kernel
theorem d_LA_law_219 : decode code 219 = .ok (.iadd, 1) := by decide +kernel
theorem d_LA_law_220 : decode code 220 = .ok (.iaload, 1) := by decide +kernel
theorem d_LA_law_221 : decode code 221 = .ok (.aload_n 3, 1) := by decide +kernel
theorem d_LA_law_222 : decode code 222 = .ok (.invokestatic 73, 3) := by decide +kernel
theorem d_LA_law_225 : decode code 225 = .ok (.istore 5, 2) := by decide +kernel
theorem d_LA_law_227 : decode code 227 = .ok (.aload_n 2, 1) := by decide +kernel
theorem d_LA_law_228 : decode code 228 = .ok (.aload_n 0, 1) := by decide +kernel
theorem d_LA_law_229 : decode code 229 = .ok (.iload 4, 2) := by decide +kernel
theorem d_LA_law_231 : decode code 231 = .ok (.iconst 1, 1) := by decide +kernel
theorem d_LA_law_232 : decode code 232 = .ok (.iadd, 1) := by decide +kernel
theorem d_LA_law_233 : decode code 233 = .ok (.iaload, 1) := by decide +kernel
theorem d_LA_law_234 : decode code 234 = .ok (.aload_n 0, 1) := by decide +kernel
theorem d_LA_law_235 : decode code 235 = .ok (.iload 4, 2) := by decide +kernel
theorem d_LA_law_237 : decode code 237 = .ok (.iconst 2, 1) := by decide +kernel
theorem d_LA_law_238 : decode code 238 = .ok (.iadd, 1) := by decide +kernel
theorem d_LA_law_239 : decode code 239 = .ok (.iaload, 1) := by decide +kernel
theorem d_LA_law_240 : decode code 240 = .ok (.invokevirtual 76, 3) := by decide +kernel
theorem d_LA_law_243 : decode code 243 = .ok (.istore 6, 2) := by decide +kernel
theorem d_LA_law_245 : decode code 245 = .ok (.aload_n 2, 1) := by decide +kernel
theorem d_LA_law_246 : decode code 246 = .ok (.invokevirtual 69, 3) := by decide +kernel
theorem d_LA_law_249 : decode code 249 = .ok (.iload 5, 2) := by decide +kernel
theorem d_LA_law_251 : decode code 251 = .ok (.if_icmp .eq 5, 3) := by decide +kernel
theorem d_LA_law_254 : decode code 254 = .ok (.iconst 0, 1) := by decide +kernel
theorem d_LA_law_255 : decode code 255 = .ok (.ireturn, 1) := by decide +kernel
theorem d_LA_law_256 : decode code 256 = .ok (.iload 5, 2) := by decide +kernel
theorem d_LA_law_258 : decode code 258 = .ok (.ifCond .ne 15, 3) := by decide +kernel
theorem d_LA_law_261 : decode code 261 = .ok (.aload_n 3, 1) := by decide +kernel
theorem d_LA_law_262 : decode code 262 = .ok (.iconst 0, 1) := by decide +kernel
theorem d_LA_law_263 : decode code 263 = .ok (.laload, 1) := by decide +kernel
theorem d_LA_law_264 : decode code 264 = .ok (.iload 6, 2) := by decide +kernel
theorem d_LA_law_266 : decode code 266 = .ok (.i2l, 1) := by decide +kernel
theorem d_LA_law_267 : decode code 267 = .ok (.lcmp, 1) := by decide +kernel
theorem d_LA_law_268 : decode code 268 = .ok (.ifCond .eq 5, 3) := by decide +kernel
theorem d_LA_law_271 : decode code 271 = .ok (.iconst 0, 1) := by decide +kernel
theorem d_LA_law_272 : decode code 272 = .ok (.ireturn, 1) := by decide +kernel
theorem d_LA_law_273 : decode code 273 = .ok (.goto 572, 3) := by decide +kernel
theorem d_LA_law_276 : decode code 276 = .ok (.aload_n 1, 1) := by decide +kernel
theorem d_LA_law_277 : decode code 277 = .ok (.aload_n 0, 1) := by decide +kernel
theorem d_LA_law_278 : decode code 278 = .ok (.iload 4, 2) := by decide +kernel
theorem d_LA_law_280 : decode code 280 = .ok (.iconst 1, 1) := by decide +kernel
theorem d_LA_law_281 : decode code 281 = .ok (.iadd, 1) := by decide +kernel
theorem d_LA_law_282 : decode code 282 = .ok (.iaload, 1) := by decide +kernel
theorem d_LA_law_283 : decode code 283 = .ok (.aload_n 0, 1) := by decide +kernel
theorem d_LA_law_284 : decode code 284 = .ok (.iload 4, 2) := by decide +kernel
theorem d_LA_law_286 : decode code 286 = .ok (.iconst 2, 1) := by decide +kernel
theorem d_LA_law_287 : decode code 287 = .ok (.iadd, 1) := by decide +kernel
theorem d_LA_law_288 : decode code 288 = .ok (.iaload, 1) := by decide +kernel
theorem d_LA_law_289 : decode code 289 = .ok (.aload_n 3, 1) := by decide +kernel
theorem d_LA_law_290 : decode code 290 = .ok (.invokestatic 77, 3) := by decide +kernel
theorem d_LA_law_293 : decode code 293 = .ok (.istore 5, 2) := by decide +kernel
theorem d_LA_law_295 : decode code 295 = .ok (.aload_n 2, 1) := by decide +kernel
theorem d_LA_law_296 : decode code 296 = .ok (.aload_n 0, 1) := by decide +kernel
theorem d_LA_law_297 : decode code 297 = .ok (.iload 4, 2) := by decide +kernel
theorem d_LA_law_299 : decode code 299 = .ok (.iconst 1, 1) := by decide +kernel
theorem d_LA_law_300 : decode code 300 = .ok (.iadd, 1) := by decide +kernel
theorem d_LA_law_301 : decode code 301 = .ok (.iaload, 1) := by decide +kernel
theorem d_LA_law_302 : decode code 302 = .ok (.aload_n 0, 1) := by decide +kernel
theorem d_LA_law_303 : decode code 303 = .ok (.iload 4, 2) := by decide +kernel
theorem d_LA_law_305 : decode code 305 = .ok (.iconst 2, 1) := by decide +kernel
theorem d_LA_law_306 : decode code 306 = .ok (.iadd, 1) := by decide +kernel
theorem d_LA_law_307 : decode code 307 = .ok (.iaload, 1) := by decide +kernel
theorem d_LA_law_308 : decode code 308 = .ok (.invokevirtual 79, 3) := by decide +kernel
theorem d_LA_law_311 : decode code 311 = .ok (.istore 6, 2) := by decide +kernel
theorem d_LA_law_313 : decode code 313 = .ok (.aload_n 2, 1) := by decide +kernel
theorem d_LA_law_314 : decode code 314 = .ok (.invokevirtual 69, 3) := by decide +kernel
theorem d_LA_law_317 : decode code 317 = .ok (.iload 5, 2) := by decide +kernel
theorem d_LA_law_319 : decode code 319 = .ok (.if_icmp .eq 5, 3) := by decide +kernel
theorem d_LA_law_322 : decode code 322 = .ok (.iconst 0, 1) := by decide +kernel
theorem d_LA_law_323 : decode code 323 = .ok (.ireturn, 1) := by decide +kernel
theorem d_LA_law_324 : decode code 324 = .ok (.iload 5, 2) := by decide +kernel
theorem d_LA_law_326 : decode code 326 = .ok (.ifCond .ne 15, 3) := by decide +kernel
theorem d_LA_law_329 : decode code 329 = .ok (.aload_n 3, 1) := by decide +kernel
theorem d_LA_law_330 : decode code 330 = .ok (.iconst 0, 1) := by decide +kernel
theorem d_LA_law_331 : decode code 331 = .ok (.laload, 1) := by decide +kernel
theorem d_LA_law_332 : decode code 332 = .ok (.iload 6, 2) := by decide +kernel
theorem d_LA_law_334 : decode code 334 = .ok (.i2l, 1) := by decide +kernel
theorem d_LA_law_335 : decode code 335 = .ok (.lcmp, 1) := by decide +kernel
theorem d_LA_law_336 : decode code 336 = .ok (.ifCond .eq 5, 3) := by decide +kernel
theorem d_LA_law_339 : decode code 339 = .ok (.iconst 0, 1) := by decide +kernel
theorem d_LA_law_340 : decode code 340 = .ok (.ireturn, 1) := by decide +kernel
theorem d_LA_law_341 : decode code 341 = .ok (.goto 504, 3) := by decide +kernel
theorem d_LA_law_344 : decode code 344 = .ok (.aload_n 1, 1) := by decide +kernel
theorem d_LA_law_345 : decode code 345 = .ok (.aload_n 0, 1) := by decide +kernel
theorem d_LA_law_346 : decode code 346 = .ok (.iload 4, 2) := by decide +kernel
theorem d_LA_law_348 : decode code 348 = .ok (.iconst 1, 1) := by decide +kernel
theorem d_LA_law_349 : decode code 349 = .ok (.iadd, 1) := by decide +kernel
theorem d_LA_law_350 : decode code 350 = .ok (.iaload, 1) := by decide +kernel
theorem d_LA_law_351 : decode code 351 = .ok (.aload_n 3, 1) := by decide +kernel
theorem d_LA_law_352 : decode code 352 = .ok (.invokestatic 80, 3) := by decide +kernel
theorem d_LA_law_355 : decode code 355 = .ok (.istore 5, 2) := by decide +kernel
theorem d_LA_law_357 : decode code 357 = .ok (.aload_n 2, 1) := by decide +kernel
theorem d_LA_law_358 : decode code 358 = .ok (.aload_n 0, 1) := by decide +kernel
theorem d_LA_law_359 : decode code 359 = .ok (.iload 4, 2) := by decide +kernel
theorem d_LA_law_361 : decode code 361 = .ok (.iconst 1, 1) := by decide +kernel
theorem d_LA_law_362 : decode code 362 = .ok (.iadd, 1) := by decide +kernel
theorem d_LA_law_363 : decode code 363 = .ok (.iaload, 1) := by decide +kernel
theorem d_LA_law_364 : decode code 364 = .ok (.invokevirtual 83, 3) := by decide +kernel
theorem d_LA_law_367 : decode code 367 = .ok (.istore 6, 2) := by decide +kernel
theorem d_LA_law_369 : decode code 369 = .ok (.aload_n 2, 1) := by decide +kernel
theorem d_LA_law_370 : decode code 370 = .ok (.invokevirtual 69, 3) := by decide +kernel
theorem d_LA_law_373 : decode code 373 = .ok (.iload 5, 2) := by decide +kernel
theorem d_LA_law_375 : decode code 375 = .ok (.if_icmp .eq 5, 3) := by decide +kernel
theorem d_LA_law_378 : decode code 378 = .ok (.iconst 0, 1) := by decide +kernel
theorem d_LA_law_379 : decode code 379 = .ok (.ireturn, 1) := by decide +kernel
theorem d_LA_law_380 : decode code 380 = .ok (.iload 5, 2) := by decide +kernel
theorem d_LA_law_382 : decode code 382 = .ok (.ifCond .ne 22, 3) := by decide +kernel
theorem d_LA_law_385 : decode code 385 = .ok (.aload_n 3, 1) := by decide +kernel
theorem d_LA_law_386 : decode code 386 = .ok (.iconst 0, 1) := by decide +kernel
theorem d_LA_law_387 : decode code 387 = .ok (.laload, 1) := by decide +kernel
theorem d_LA_law_388 : decode code 388 = .ok (.iload 6, 2) := by decide +kernel
theorem d_LA_law_390 : decode code 390 = .ok (.ifCond .eq 7, 3) := by decide +kernel
theorem d_LA_law_393 : decode code 393 = .ok (.lconst 1, 1) := by decide +kernel
theorem d_LA_law_394 : decode code 394 = .ok (.goto 4, 3) := by decide +kernel
theorem d_LA_law_397 : decode code 397 = .ok (.lconst 0, 1) := by decide +kernel
theorem d_LA_law_398 : decode code 398 = .ok (.lcmp, 1) := by decide +kernel
theorem d_LA_law_399 : decode code 399 = .ok (.ifCond .eq 5, 3) := by decide +kernel
theorem d_LA_law_402 : decode code 402 = .ok (.iconst 0, 1) := by decide +kernel
theorem d_LA_law_403 : decode code 403 = .ok (.ireturn, 1) := by decide +kernel
theorem d_LA_law_404 : decode code 404 = .ok (.goto 441, 3) := by decide +kernel
theorem d_LA_law_407 : decode code 407 = .ok (.aload_n 1, 1) := by decide +kernel
theorem d_LA_law_408 : decode code 408 = .ok (.aload_n 0, 1) := by decide +kernel
theorem d_LA_law_409 : decode code 409 = .ok (.iload 4, 2) := by decide +kernel
theorem d_LA_law_411 : decode code 411 = .ok (.iconst 1, 1) := by decide +kernel
theorem d_LA_law_412 : decode code 412 = .ok (.iadd, 1) := by decide +kernel
theorem d_LA_law_413 : decode code 413 = .ok (.iaload, 1) := by decide +kernel
theorem d_LA_law_414 : decode code 414 = .ok (.aload_n 0, 1) := by decide +kernel
theorem d_LA_law_415 : decode code 415 = .ok (.iload 4, 2) := by decide +kernel
theorem d_LA_law_417 : decode code 417 = .ok (.iconst 2, 1) := by decide +kernel
theorem d_LA_law_418 : decode code 418 = .ok (.iadd, 1) := by decide +kernel
theorem d_LA_law_419 : decode code 419 = .ok (.iaload, 1) := by decide +kernel
theorem d_LA_law_420 : decode code 420 = .ok (.aload_n 3, 1) := by decide +kernel
theorem d_LA_law_421 : decode code 421 = .ok (.invokestatic 84, 3) := by decide +kernel
theorem d_LA_law_424 : decode code 424 = .ok (.istore 5, 2) := by decide +kernel
theorem d_LA_law_426 : decode code 426 = .ok (.aload_n 2, 1) := by decide +kernel
theorem d_LA_law_427 : decode code 427 = .ok (.aload_n 0, 1) := by decide +kernel
theorem d_LA_law_428 : decode code 428 = .ok (.iload 4, 2) := by decide +kernel
theorem d_LA_law_430 : decode code 430 = .ok (.iconst 1, 1) := by decide +kernel
theorem d_LA_law_431 : decode code 431 = .ok (.iadd, 1) := by decide +kernel
theorem d_LA_law_432 : decode code 432 = .ok (.iaload, 1) := by decide +kernel
theorem d_LA_law_433 : decode code 433 = .ok (.aload_n 0, 1) := by decide +kernel
theorem d_LA_law_434 : decode code 434 = .ok (.iload 4, 2) := by decide +kernel
theorem d_LA_law_436 : decode code 436 = .ok (.iconst 2, 1) := by decide +kernel
theorem d_LA_law_437 : decode code 437 = .ok (.iadd, 1) := by decide +kernel
theorem d_LA_law_438 : decode code 438 = .ok (.iaload, 1) := by decide +kernel
theorem d_LA_law_439 : decode code 439 = .ok (.invokevirtual 86, 3) := by decide +kernel
theorem d_LA_law_442 : decode code 442 = .ok (.istore 6, 2) := by decide +kernel
theorem d_LA_law_444 : decode code 444 = .ok (.aload_n 2, 1) := by decide +kernel
theorem d_LA_law_445 : decode code 445 = .ok (.invokevirtual 69, 3) := by decide +kernel
theorem d_LA_law_448 : decode code 448 = .ok (.iload 5, 2) := by decide +kernel
theorem d_LA_law_450 : decode code 450 = .ok (.if_icmp .eq 5, 3) := by decide +kernel
theorem d_LA_law_453 : decode code 453 = .ok (.iconst 0, 1) := by decide +kernel
theorem d_LA_law_454 : decode code 454 = .ok (.ireturn, 1) := by decide +kernel
theorem d_LA_law_455 : decode code 455 = .ok (.iload 5, 2) := by decide +kernel
theorem d_LA_law_457 : decode code 457 = .ok (.ifCond .ne 15, 3) := by decide +kernel
theorem d_LA_law_460 : decode code 460 = .ok (.aload_n 3, 1) := by decide +kernel
theorem d_LA_law_461 : decode code 461 = .ok (.iconst 0, 1) := by decide +kernel
theorem d_LA_law_462 : decode code 462 = .ok (.laload, 1) := by decide +kernel
theorem d_LA_law_463 : decode code 463 = .ok (.iload 6, 2) := by decide +kernel
theorem d_LA_law_465 : decode code 465 = .ok (.i2l, 1) := by decide +kernel
theorem d_LA_law_466 : decode code 466 = .ok (.lcmp, 1) := by decide +kernel
theorem d_LA_law_467 : decode code 467 = .ok (.ifCond .eq 5, 3) := by decide +kernel
theorem d_LA_law_470 : decode code 470 = .ok (.iconst 0, 1) := by decide +kernel
theorem d_LA_law_471 : decode code 471 = .ok (.ireturn, 1) := by decide +kernel
theorem d_LA_law_472 : decode code 472 = .ok (.goto 373, 3) := by decide +kernel
theorem d_LA_law_475 : decode code 475 = .ok (.aload_n 1, 1) := by decide +kernel
theorem d_LA_law_476 : decode code 476 = .ok (.aload_n 0, 1) := by decide +kernel
theorem d_LA_law_477 : decode code 477 = .ok (.iload 4, 2) := by decide +kernel
theorem d_LA_law_479 : decode code 479 = .ok (.iconst 1, 1) := by decide +kernel
theorem d_LA_law_480 : decode code 480 = .ok (.iadd, 1) := by decide +kernel
theorem d_LA_law_481 : decode code 481 = .ok (.iaload, 1) := by decide +kernel
theorem d_LA_law_482 : decode code 482 = .ok (.aload_n 3, 1) := by decide +kernel
theorem d_LA_law_483 : decode code 483 = .ok (.invokestatic 87, 3) := by decide +kernel
theorem d_LA_law_486 : decode code 486 = .ok (.istore 5, 2) := by decide +kernel
theorem d_LA_law_488 : decode code 488 = .ok (.aload_n 2, 1) := by decide +kernel
theorem d_LA_law_489 : decode code 489 = .ok (.aload_n 0, 1) := by decide +kernel
theorem d_LA_law_490 : decode code 490 = .ok (.iload 4, 2) := by decide +kernel
theorem d_LA_law_492 : decode code 492 = .ok (.iconst 1, 1) := by decide +kernel
theorem d_LA_law_493 : decode code 493 = .ok (.iadd, 1) := by decide +kernel
theorem d_LA_law_494 : decode code 494 = .ok (.iaload, 1) := by decide +kernel
theorem d_LA_law_495 : decode code 495 = .ok (.invokevirtual 89, 3) := by decide +kernel
theorem d_LA_law_498 : decode code 498 = .ok (.istore 6, 2) := by decide +kernel
theorem d_LA_law_500 : decode code 500 = .ok (.aload_n 2, 1) := by decide +kernel
theorem d_LA_law_501 : decode code 501 = .ok (.invokevirtual 69, 3) := by decide +kernel
theorem d_LA_law_504 : decode code 504 = .ok (.iload 5, 2) := by decide +kernel
theorem d_LA_law_506 : decode code 506 = .ok (.if_icmp .eq 5, 3) := by decide +kernel
theorem d_LA_law_509 : decode code 509 = .ok (.iconst 0, 1) := by decide +kernel
theorem d_LA_law_510 : decode code 510 = .ok (.ireturn, 1) := by decide +kernel
theorem d_LA_law_511 : decode code 511 = .ok (.iload 5, 2) := by decide +kernel
theorem d_LA_law_513 : decode code 513 = .ok (.ifCond .ne 15, 3) := by decide +kernel
theorem d_LA_law_516 : decode code 516 = .ok (.aload_n 3, 1) := by decide +kernel
theorem d_LA_law_517 : decode code 517 = .ok (.iconst 0, 1) := by decide +kernel
theorem d_LA_law_518 : decode code 518 = .ok (.laload, 1) := by decide +kernel
theorem d_LA_law_519 : decode code 519 = .ok (.iload 6, 2) := by decide +kernel
theorem d_LA_law_521 : decode code 521 = .ok (.i2l, 1) := by decide +kernel
theorem d_LA_law_522 : decode code 522 = .ok (.lcmp, 1) := by decide +kernel
theorem d_LA_law_523 : decode code 523 = .ok (.ifCond .eq 5, 3) := by decide +kernel
theorem d_LA_law_526 : decode code 526 = .ok (.iconst 0, 1) := by decide +kernel
theorem d_LA_law_527 : decode code 527 = .ok (.ireturn, 1) := by decide +kernel
theorem d_LA_law_528 : decode code 528 = .ok (.goto 317, 3) := by decide +kernel
theorem d_LA_law_531 : decode code 531 = .ok (.aload_n 1, 1) := by decide +kernel
theorem d_LA_law_532 : decode code 532 = .ok (.aload_n 0, 1) := by decide +kernel
theorem d_LA_law_533 : decode code 533 = .ok (.iload 4, 2) := by decide +kernel
theorem d_LA_law_535 : decode code 535 = .ok (.iconst 1, 1) := by decide +kernel
theorem d_LA_law_536 : decode code 536 = .ok (.iadd, 1) := by decide +kernel
theorem d_LA_law_537 : decode code 537 = .ok (.iaload, 1) := by decide +kernel
theorem d_LA_law_538 : decode code 538 = .ok (.aload_n 0, 1) := by decide +kernel
theorem d_LA_law_539 : decode code 539 = .ok (.iload 4, 2) := by decide +kernel
theorem d_LA_law_541 : decode code 541 = .ok (.iconst 2, 1) := by decide +kernel
theorem d_LA_law_542 : decode code 542 = .ok (.iadd, 1) := by decide +kernel
theorem d_LA_law_543 : decode code 543 = .ok (.iaload, 1) := by decide +kernel
theorem d_LA_law_544 : decode code 544 = .ok (.aload_n 3, 1) := by decide +kernel
theorem d_LA_law_545 : decode code 545 = .ok (.invokestatic 90, 3) := by decide +kernel
theorem d_LA_law_548 : decode code 548 = .ok (.istore 5, 2) := by decide +kernel
theorem d_LA_law_550 : decode code 550 = .ok (.aload_n 2, 1) := by decide +kernel
theorem d_LA_law_551 : decode code 551 = .ok (.aload_n 0, 1) := by decide +kernel
theorem d_LA_law_552 : decode code 552 = .ok (.iload 4, 2) := by decide +kernel
theorem d_LA_law_554 : decode code 554 = .ok (.iconst 1, 1) := by decide +kernel
theorem d_LA_law_555 : decode code 555 = .ok (.iadd, 1) := by decide +kernel
theorem d_LA_law_556 : decode code 556 = .ok (.iaload, 1) := by decide +kernel
theorem d_LA_law_557 : decode code 557 = .ok (.aload_n 0, 1) := by decide +kernel
theorem d_LA_law_558 : decode code 558 = .ok (.iload 4, 2) := by decide +kernel
theorem d_LA_law_560 : decode code 560 = .ok (.iconst 2, 1) := by decide +kernel
theorem d_LA_law_561 : decode code 561 = .ok (.iadd, 1) := by decide +kernel
theorem d_LA_law_562 : decode code 562 = .ok (.iaload, 1) := by decide +kernel
theorem d_LA_law_563 : decode code 563 = .ok (.invokevirtual 92, 3) := by decide +kernel
theorem d_LA_law_566 : decode code 566 = .ok (.istore 6, 2) := by decide +kernel
theorem d_LA_law_568 : decode code 568 = .ok (.aload_n 2, 1) := by decide +kernel
theorem d_LA_law_569 : decode code 569 = .ok (.invokevirtual 69, 3) := by decide +kernel
theorem d_LA_law_572 : decode code 572 = .ok (.iload 5, 2) := by decide +kernel
theorem d_LA_law_574 : decode code 574 = .ok (.if_icmp .eq 5, 3) := by decide +kernel
theorem d_LA_law_577 : decode code 577 = .ok (.iconst 0, 1) := by decide +kernel
theorem d_LA_law_578 : decode code 578 = .ok (.ireturn, 1) := by decide +kernel
theorem d_LA_law_579 : decode code 579 = .ok (.iload 5, 2) := by decide +kernel
theorem d_LA_law_581 : decode code 581 = .ok (.ifCond .ne 15, 3) := by decide +kernel
theorem d_LA_law_584 : decode code 584 = .ok (.aload_n 3, 1) := by decide +kernel
theorem d_LA_law_585 : decode code 585 = .ok (.iconst 0, 1) := by decide +kernel
theorem d_LA_law_586 : decode code 586 = .ok (.laload, 1) := by decide +kernel
theorem d_LA_law_587 : decode code 587 = .ok (.iload 6, 2) := by decide +kernel
theorem d_LA_law_589 : decode code 589 = .ok (.i2l, 1) := by decide +kernel
theorem d_LA_law_590 : decode code 590 = .ok (.lcmp, 1) := by decide +kernel
theorem d_LA_law_591 : decode code 591 = .ok (.ifCond .eq 5, 3) := by decide +kernel
theorem d_LA_law_594 : decode code 594 = .ok (.iconst 0, 1) := by decide +kernel
theorem d_LA_law_595 : decode code 595 = .ok (.ireturn, 1) := by decide +kernel
theorem d_LA_law_596 : decode code 596 = .ok (.goto 249, 3) := by decide +kernel
theorem d_LA_law_599 : decode code 599 = .ok (.aload_n 1, 1) := by decide +kernel
theorem d_LA_law_600 : decode code 600 = .ok (.aload_n 0, 1) := by decide +kernel
theorem d_LA_law_601 : decode code 601 = .ok (.iload 4, 2) := by decide +kernel
theorem d_LA_law_603 : decode code 603 = .ok (.iconst 1, 1) := by decide +kernel
theorem d_LA_law_604 : decode code 604 = .ok (.iadd, 1) := by decide +kernel
theorem d_LA_law_605 : decode code 605 = .ok (.iaload, 1) := by decide +kernel
theorem d_LA_law_606 : decode code 606 = .ok (.i2l, 1) := by decide +kernel
theorem d_LA_law_607 : decode code 607 = .ok (.bipush 32, 2) := by decide +kernel
theorem d_LA_law_609 : decode code 609 = .ok (.lshl, 1) := by decide +kernel
theorem d_LA_law_610 : decode code 610 = .ok (.aload_n 0, 1) := by decide +kernel
theorem d_LA_law_611 : decode code 611 = .ok (.iload 4, 2) := by decide +kernel
theorem d_LA_law_613 : decode code 613 = .ok (.iconst 2, 1) := by decide +kernel
theorem d_LA_law_614 : decode code 614 = .ok (.iadd, 1) := by decide +kernel
theorem d_LA_law_615 : decode code 615 = .ok (.iaload, 1) := by decide +kernel
theorem d_LA_law_616 : decode code 616 = .ok (.i2l, 1) := by decide +kernel
theorem d_LA_law_617 : decode code 617 = .ok (.ldc2_w 63, 3) := by decide +kernel
theorem d_LA_law_620 : decode code 620 = .ok (.land, 1) := by decide +kernel
theorem d_LA_law_621 : decode code 621 = .ok (.lor, 1) := by decide +kernel
theorem d_LA_law_622 : decode code 622 = .ok (.invokevirtual 93, 3) := by decide +kernel
theorem d_LA_law_625 : decode code 625 = .ok (.aload_n 2, 1) := by decide +kernel
theorem d_LA_law_626 : decode code 626 = .ok (.aload_n 0, 1) := by decide +kernel
theorem d_LA_law_627 : decode code 627 = .ok (.iload 4, 2) := by decide +kernel
theorem d_LA_law_629 : decode code 629 = .ok (.iconst 1, 1) := by decide +kernel
theorem d_LA_law_630 : decode code 630 = .ok (.iadd, 1) := by decide +kernel
theorem d_LA_law_631 : decode code 631 = .ok (.iaload, 1) := by decide +kernel
theorem d_LA_law_632 : decode code 632 = .ok (.i2l, 1) := by decide +kernel
theorem d_LA_law_633 : decode code 633 = .ok (.bipush 32, 2) := by decide +kernel
theorem d_LA_law_635 : decode code 635 = .ok (.lshl, 1) := by decide +kernel
theorem d_LA_law_636 : decode code 636 = .ok (.aload_n 0, 1) := by decide +kernel
theorem d_LA_law_637 : decode code 637 = .ok (.iload 4, 2) := by decide +kernel
theorem d_LA_law_639 : decode code 639 = .ok (.iconst 2, 1) := by decide +kernel
theorem d_LA_law_640 : decode code 640 = .ok (.iadd, 1) := by decide +kernel
theorem d_LA_law_641 : decode code 641 = .ok (.iaload, 1) := by decide +kernel
theorem d_LA_law_642 : decode code 642 = .ok (.i2l, 1) := by decide +kernel
theorem d_LA_law_643 : decode code 643 = .ok (.ldc2_w 63, 3) := by decide +kernel
theorem d_LA_law_646 : decode code 646 = .ok (.land, 1) := by decide +kernel
theorem d_LA_law_647 : decode code 647 = .ok (.lor, 1) := by decide +kernel
theorem d_LA_law_648 : decode code 648 = .ok (.invokevirtual 97, 3) := by decide +kernel
theorem d_LA_law_651 : decode code 651 = .ok (.if_icmp .eq 194, 3) := by decide +kernel
theorem d_LA_law_654 : decode code 654 = .ok (.iconst 0, 1) := by decide +kernel
theorem d_LA_law_655 : decode code 655 = .ok (.ireturn, 1) := by decide +kernel
theorem d_LA_law_656 : decode code 656 = .ok (.aload_n 1, 1) := by decide +kernel
theorem d_LA_law_657 : decode code 657 = .ok (.aload_n 0, 1) := by decide +kernel
theorem d_LA_law_658 : decode code 658 = .ok (.iload 4, 2) := by decide +kernel
theorem d_LA_law_660 : decode code 660 = .ok (.iconst 1, 1) := by decide +kernel
theorem d_LA_law_661 : decode code 661 = .ok (.iadd, 1) := by decide +kernel
theorem d_LA_law_662 : decode code 662 = .ok (.iaload, 1) := by decide +kernel
theorem d_LA_law_663 : decode code 663 = .ok (.aload_n 0, 1) := by decide +kernel
theorem d_LA_law_664 : decode code 664 = .ok (.iload 4, 2) := by decide +kernel
theorem d_LA_law_666 : decode code 666 = .ok (.iconst 2, 1) := by decide +kernel
theorem d_LA_law_667 : decode code 667 = .ok (.iadd, 1) := by decide +kernel
theorem d_LA_law_668 : decode code 668 = .ok (.iaload, 1) := by decide +kernel
theorem d_LA_law_669 : decode code 669 = .ok (.aload_n 3, 1) := by decide +kernel
theorem d_LA_law_670 : decode code 670 = .ok (.invokestatic 98, 3) := by decide +kernel
theorem d_LA_law_673 : decode code 673 = .ok (.istore 5, 2) := by decide +kernel
theorem d_LA_law_675 : decode code 675 = .ok (.aload_n 2, 1) := by decide +kernel
theorem d_LA_law_676 : decode code 676 = .ok (.aload_n 0, 1) := by decide +kernel
theorem d_LA_law_677 : decode code 677 = .ok (.iload 4, 2) := by decide +kernel
theorem d_LA_law_679 : decode code 679 = .ok (.iconst 1, 1) := by decide +kernel
theorem d_LA_law_680 : decode code 680 = .ok (.iadd, 1) := by decide +kernel
theorem d_LA_law_681 : decode code 681 = .ok (.iaload, 1) := by decide +kernel
theorem d_LA_law_682 : decode code 682 = .ok (.aload_n 0, 1) := by decide +kernel
theorem d_LA_law_683 : decode code 683 = .ok (.iload 4, 2) := by decide +kernel
theorem d_LA_law_685 : decode code 685 = .ok (.iconst 2, 1) := by decide +kernel
theorem d_LA_law_686 : decode code 686 = .ok (.iadd, 1) := by decide +kernel
theorem d_LA_law_687 : decode code 687 = .ok (.iaload, 1) := by decide +kernel
theorem d_LA_law_688 : decode code 688 = .ok (.invokevirtual 100, 3) := by decide +kernel
theorem d_LA_law_691 : decode code 691 = .ok (.istore 6, 2) := by decide +kernel
theorem d_LA_law_693 : decode code 693 = .ok (.aload_n 2, 1) := by decide +kernel
theorem d_LA_law_694 : decode code 694 = .ok (.invokevirtual 69, 3) := by decide +kernel
theorem d_LA_law_697 : decode code 697 = .ok (.iload 5, 2) := by decide +kernel
theorem d_LA_law_699 : decode code 699 = .ok (.if_icmp .eq 5, 3) := by decide +kernel
theorem d_LA_law_702 : decode code 702 = .ok (.iconst 0, 1) := by decide +kernel
theorem d_LA_law_703 : decode code 703 = .ok (.ireturn, 1) := by decide +kernel
theorem d_LA_law_704 : decode code 704 = .ok (.iload 5, 2) := by decide +kernel
theorem d_LA_law_706 : decode code 706 = .ok (.ifCond .ne 15, 3) := by decide +kernel
theorem d_LA_law_709 : decode code 709 = .ok (.aload_n 3, 1) := by decide +kernel
theorem d_LA_law_710 : decode code 710 = .ok (.iconst 0, 1) := by decide +kernel
theorem d_LA_law_711 : decode code 711 = .ok (.laload, 1) := by decide +kernel
theorem d_LA_law_712 : decode code 712 = .ok (.iload 6, 2) := by decide +kernel
theorem d_LA_law_714 : decode code 714 = .ok (.i2l, 1) := by decide +kernel
theorem d_LA_law_715 : decode code 715 = .ok (.lcmp, 1) := by decide +kernel
theorem d_LA_law_716 : decode code 716 = .ok (.ifCond .eq 5, 3) := by decide +kernel
theorem d_LA_law_719 : decode code 719 = .ok (.iconst 0, 1) := by decide +kernel
theorem d_LA_law_720 : decode code 720 = .ok (.ireturn, 1) := by decide +kernel
theorem d_LA_law_721 : decode code 721 = .ok (.goto 124, 3) := by decide +kernel
theorem d_LA_law_724 : decode code 724 = .ok (.aload_n 1, 1) := by decide +kernel
theorem d_LA_law_725 : decode code 725 = .ok (.aload_n 0, 1) := by decide +kernel
theorem d_LA_law_726 : decode code 726 = .ok (.iload 4, 2) := by decide +kernel
theorem d_LA_law_728 : decode code 728 = .ok (.iconst 1, 1) := by decide +kernel
theorem d_LA_law_729 : decode code 729 = .ok (.iadd, 1) := by decide +kernel
theorem d_LA_law_730 : decode code 730 = .ok (.iaload, 1) := by decide +kernel
theorem d_LA_law_731 : decode code 731 = .ok (.aload_n 0, 1) := by decide +kernel
theorem d_LA_law_732 : decode code 732 = .ok (.iload 4, 2) := by decide +kernel
theorem d_LA_law_734 : decode code 734 = .ok (.iconst 2, 1) := by decide +kernel
theorem d_LA_law_735 : decode code 735 = .ok (.iadd, 1) := by decide +kernel
theorem d_LA_law_736 : decode code 736 = .ok (.iaload, 1) := by decide +kernel
theorem d_LA_law_737 : decode code 737 = .ok (.ifCond .eq 7, 3) := by decide +kernel
theorem d_LA_law_740 : decode code 740 = .ok (.iconst 1, 1) := by decide +kernel
theorem d_LA_law_741 : decode code 741 = .ok (.goto 4, 3) := by decide +kernel
theorem d_LA_law_744 : decode code 744 = .ok (.iconst 0, 1) := by decide +kernel
theorem d_LA_law_745 : decode code 745 = .ok (.aload_n 0, 1) := by decide +kernel
theorem d_LA_law_746 : decode code 746 = .ok (.iload 4, 2) := by decide +kernel
theorem d_LA_law_748 : decode code 748 = .ok (.iconst 3, 1) := by decide +kernel
theorem d_LA_law_749 : decode code 749 = .ok (.iadd, 1) := by decide +kernel
theorem d_LA_law_750 : decode code 750 = .ok (.iaload, 1) := by decide +kernel
theorem d_LA_law_751 : decode code 751 = .ok (.aload_n 3, 1) := by decide +kernel
theorem d_LA_law_752 : decode code 752 = .ok (.invokestatic 101, 3) := by decide +kernel
theorem d_LA_law_755 : decode code 755 = .ok (.istore 5, 2) := by decide +kernel
theorem d_LA_law_757 : decode code 757 = .ok (.aload_n 2, 1) := by decide +kernel
theorem d_LA_law_758 : decode code 758 = .ok (.aload_n 0, 1) := by decide +kernel
theorem d_LA_law_759 : decode code 759 = .ok (.iload 4, 2) := by decide +kernel
theorem d_LA_law_761 : decode code 761 = .ok (.iconst 1, 1) := by decide +kernel
theorem d_LA_law_762 : decode code 762 = .ok (.iadd, 1) := by decide +kernel
theorem d_LA_law_763 : decode code 763 = .ok (.iaload, 1) := by decide +kernel
theorem d_LA_law_764 : decode code 764 = .ok (.aload_n 0, 1) := by decide +kernel
theorem d_LA_law_765 : decode code 765 = .ok (.iload 4, 2) := by decide +kernel
theorem d_LA_law_767 : decode code 767 = .ok (.iconst 2, 1) := by decide +kernel
theorem d_LA_law_768 : decode code 768 = .ok (.iadd, 1) := by decide +kernel
theorem d_LA_law_769 : decode code 769 = .ok (.iaload, 1) := by decide +kernel
theorem d_LA_law_770 : decode code 770 = .ok (.ifCond .eq 7, 3) := by decide +kernel
theorem d_LA_law_773 : decode code 773 = .ok (.iconst 1, 1) := by decide +kernel
theorem d_LA_law_774 : decode code 774 = .ok (.goto 4, 3) := by decide +kernel
theorem d_LA_law_777 : decode code 777 = .ok (.iconst 0, 1) := by decide +kernel
theorem d_LA_law_778 : decode code 778 = .ok (.aload_n 0, 1) := by decide +kernel
theorem d_LA_law_779 : decode code 779 = .ok (.iload 4, 2) := by decide +kernel
theorem d_LA_law_781 : decode code 781 = .ok (.iconst 3, 1) := by decide +kernel
theorem d_LA_law_782 : decode code 782 = .ok (.iadd, 1) := by decide +kernel
theorem d_LA_law_783 : decode code 783 = .ok (.iaload, 1) := by decide +kernel
theorem d_LA_law_784 : decode code 784 = .ok (.invokevirtual 104, 3) := by decide +kernel
theorem d_LA_law_787 : decode code 787 = .ok (.istore 6, 2) := by decide +kernel
theorem d_LA_law_789 : decode code 789 = .ok (.aload_n 2, 1) := by decide +kernel
theorem d_LA_law_790 : decode code 790 = .ok (.invokevirtual 69, 3) := by decide +kernel
theorem d_LA_law_793 : decode code 793 = .ok (.iload 5, 2) := by decide +kernel
theorem d_LA_law_795 : decode code 795 = .ok (.if_icmp .eq 5, 3) := by decide +kernel
theorem d_LA_law_798 : decode code 798 = .ok (.iconst 0, 1) := by decide +kernel
theorem d_LA_law_799 : decode code 799 = .ok (.ireturn, 1) := by decide +kernel
theorem d_LA_law_800 : decode code 800 = .ok (.iload 5, 2) := by decide +kernel
theorem d_LA_law_802 : decode code 802 = .ok (.ifCond .ne 15, 3) := by decide +kernel
theorem d_LA_law_805 : decode code 805 = .ok (.aload_n 3, 1) := by decide +kernel
theorem d_LA_law_806 : decode code 806 = .ok (.iconst 0, 1) := by decide +kernel
theorem d_LA_law_807 : decode code 807 = .ok (.laload, 1) := by decide +kernel
theorem d_LA_law_808 : decode code 808 = .ok (.iload 6, 2) := by decide +kernel
theorem d_LA_law_810 : decode code 810 = .ok (.i2l, 1) := by decide +kernel
theorem d_LA_law_811 : decode code 811 = .ok (.lcmp, 1) := by decide +kernel
theorem d_LA_law_812 : decode code 812 = .ok (.ifCond .eq 5, 3) := by decide +kernel
theorem d_LA_law_815 : decode code 815 = .ok (.iconst 0, 1) := by decide +kernel
theorem d_LA_law_816 : decode code 816 = .ok (.ireturn, 1) := by decide +kernel
theorem d_LA_law_817 : decode code 817 = .ok (.goto 28, 3) := by decide +kernel
theorem d_LA_law_820 : decode code 820 = .ok (.aload_n 1, 1) := by decide +kernel
theorem d_LA_law_821 : decode code 821 = .ok (.aload_n 0, 1) := by decide +kernel
theorem d_LA_law_822 : decode code 822 = .ok (.iload 4, 2) := by decide +kernel
theorem d_LA_law_824 : decode code 824 = .ok (.iconst 1, 1) := by decide +kernel
theorem d_LA_law_825 : decode code 825 = .ok (.iadd, 1) := by decide +kernel
theorem d_LA_law_826 : decode code 826 = .ok (.iaload, 1) := by decide +kernel
theorem d_LA_law_827 : decode code 827 = .ok (.invokevirtual 105, 3) := by decide +kernel
theorem d_LA_law_830 : decode code 830 = .ok (.aload_n 2, 1) := by decide +kernel
theorem d_LA_law_831 : decode code 831 = .ok (.aload_n 0, 1) := by decide +kernel
theorem d_LA_law_832 : decode code 832 = .ok (.iload 4, 2) := by decide +kernel
theorem d_LA_law_834 : decode code 834 = .ok (.iconst 1, 1) := by decide +kernel
theorem d_LA_law_835 : decode code 835 = .ok (.iadd, 1) := by decide +kernel
theorem d_LA_law_836 : decode code 836 = .ok (.iaload, 1) := by decide +kernel
theorem d_LA_law_837 : decode code 837 = .ok (.invokevirtual 108, 3) := by decide +kernel
theorem d_LA_law_840 : decode code 840 = .ok (.if_icmp .eq 5, 3) := by decide +kernel
theorem d_LA_law_843 : decode code 843 = .ok (.iconst 0, 1) := by decide +kernel
theorem d_LA_law_844 : decode code 844 = .ok (.ireturn, 1) := by decide +kernel
theorem d_LA_law_845 : decode code 845 = .ok (.iinc 4 4, 3) := by decide +kernel
theorem d_LA_law_848 : decode code 848 = .ok (.goto (-815), 3) := by decide +kernel
theorem d_LA_law_851 : decode code 851 = .ok (.iconst 1, 1) := by decide +kernel
theorem d_LA_law_852 : decode code 852 = .ok (.ireturn, 1) := by decide +kernel
