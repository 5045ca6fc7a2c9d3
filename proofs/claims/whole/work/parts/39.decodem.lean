theorem d_MO_init_0 : decode b_MO_init 0 = .ok (.aload_n 0, 1) := by decide +kernel
theorem d_MO_init_1 : decode b_MO_init 1 = .ok (.invokespecial 1, 3) := by decide +kernel
theorem d_MO_init_4 : decode b_MO_init 4 = .ok (.aload_n 0, 1) := by decide +kernel
theorem d_MO_init_5 : decode b_MO_init 5 = .ok (.sipush 4096, 3) := by decide +kernel
theorem d_MO_init_8 : decode b_MO_init 8 = .ok (.newarray .int, 2) := by decide +kernel
theorem d_MO_init_10 : decode b_MO_init 10 = .ok (.putfield 7, 3) := by decide +kernel
theorem d_MO_init_13 : decode b_MO_init 13 = .ok (.aload_n 0, 1) := by decide +kernel
theorem d_MO_init_14 : decode b_MO_init 14 = .ok (.sipush 8192, 3) := by decide +kernel
theorem d_MO_init_17 : decode b_MO_init 17 = .ok (.newarray .long, 2) := by decide +kernel
theorem d_MO_init_19 : decode b_MO_init 19 = .ok (.putfield 13, 3) := by decide +kernel
theorem d_MO_init_22 : decode b_MO_init 22 = .ok (.aload_n 0, 1) := by decide +kernel
theorem d_MO_init_23 : decode b_MO_init 23 = .ok (.sipush 12800, 3) := by decide +kernel
theorem d_MO_init_26 : decode b_MO_init 26 = .ok (.newarray .int, 2) := by decide +kernel
theorem d_MO_init_28 : decode b_MO_init 28 = .ok (.putfield 17, 3) := by decide +kernel
theorem d_MO_init_31 : decode b_MO_init 31 = .ok (.aload_n 0, 1) := by decide +kernel
theorem d_MO_init_32 : decode b_MO_init 32 = .ok (.bipush 32, 2) := by decide +kernel
theorem d_MO_init_34 : decode b_MO_init 34 = .ok (.newarray .int, 2) := by decide +kernel
theorem d_MO_init_36 : decode b_MO_init 36 = .ok (.putfield 20, 3) := by decide +kernel
theorem d_MO_init_39 : decode b_MO_init 39 = .ok (.aload_n 0, 1) := by decide +kernel
theorem d_MO_init_40 : decode b_MO_init 40 = .ok (.bipush 32, 2) := by decide +kernel
theorem d_MO_init_42 : decode b_MO_init 42 = .ok (.newarray .boolean, 2) := by decide +kernel
theorem d_MO_init_44 : decode b_MO_init 44 = .ok (.putfield 23, 3) := by decide +kernel
theorem d_MO_init_47 : decode b_MO_init 47 = .ok (.aload_n 0, 1) := by decide +kernel
theorem d_MO_init_48 : decode b_MO_init 48 = .ok (.bipush 16, 2) := by decide +kernel
theorem d_MO_init_50 : decode b_MO_init 50 = .ok (.newarray .int, 2) := by decide +kernel
theorem d_MO_init_52 : decode b_MO_init 52 = .ok (.putfield 27, 3) := by decide +kernel
theorem d_MO_init_55 : decode b_MO_init 55 = .ok (.aload_n 0, 1) := by decide +kernel
theorem d_MO_init_56 : decode b_MO_init 56 = .ok (.sipush 1024, 3) := by decide +kernel
theorem d_MO_init_59 : decode b_MO_init 59 = .ok (.newarray .int, 2) := by decide +kernel
theorem d_MO_init_61 : decode b_MO_init 61 = .ok (.putfield 30, 3) := by decide +kernel
theorem d_MO_init_64 : decode b_MO_init 64 = .ok (.aload_n 0, 1) := by decide +kernel
theorem d_MO_init_65 : decode b_MO_init 65 = .ok (.iload_n 1, 1) := by decide +kernel
theorem d_MO_init_66 : decode b_MO_init 66 = .ok (.iconst 4, 1) := by decide +kernel
theorem d_MO_init_67 : decode b_MO_init 67 = .ok (.if_icmp .ge 7, 3) := by decide +kernel
theorem d_MO_init_70 : decode b_MO_init 70 = .ok (.iconst 4, 1) := by decide +kernel
theorem d_MO_init_71 : decode b_MO_init 71 = .ok (.goto 17, 3) := by decide +kernel
theorem d_MO_init_74 : decode b_MO_init 74 = .ok (.iload_n 1, 1) := by decide +kernel
theorem d_MO_init_75 : decode b_MO_init 75 = .ok (.sipush 1024, 3) := by decide +kernel
theorem d_MO_init_78 : decode b_MO_init 78 = .ok (.if_icmp .le 9, 3) := by decide +kernel
theorem d_MO_init_81 : decode b_MO_init 81 = .ok (.sipush 1024, 3) := by decide +kernel
theorem d_MO_init_84 : decode b_MO_init 84 = .ok (.goto 4, 3) := by decide +kernel
theorem d_MO_init_87 : decode b_MO_init 87 = .ok (.iload_n 1, 1) := by decide +kernel
theorem d_MO_init_88 : decode b_MO_init 88 = .ok (.putfield 33, 3) := by decide +kernel
theorem d_MO_init_91 : decode b_MO_init 91 = .ok (.return_, 1) := by decide +kernel
theorem d_MO_thrown_0 : decode b_MO_thrown 0 = .ok (.aload_n 0, 1) := by decide +kernel
theorem d_MO_thrown_1 : decode b_MO_thrown 1 = .ok (.getfield 37, 3) := by decide +kernel
theorem d_MO_thrown_4 : decode b_MO_thrown 4 = .ok (.ireturn, 1) := by decide +kernel
theorem d_MO_fail_0 : decode b_MO_fail 0 = .ok (.aload_n 0, 1) := by decide +kernel
theorem d_MO_fail_1 : decode b_MO_fail 1 = .ok (.iload_n 1, 1) := by decide +kernel
theorem d_MO_fail_2 : decode b_MO_fail 2 = .ok (.putfield 37, 3) := by decide +kernel
theorem d_MO_fail_5 : decode b_MO_fail 5 = .ok (.iconst 0, 1) := by decide +kernel
theorem d_MO_fail_6 : decode b_MO_fail 6 = .ok (.ireturn, 1) := by decide +kernel
theorem d_MO_within_0 : decode b_MO_within 0 = .ok (.iload_n 0, 1) := by decide +kernel
theorem d_MO_within_1 : decode b_MO_within 1 = .ok (.iload_n 1, 1) := by decide +kernel
theorem d_MO_within_2 : decode b_MO_within 2 = .ok (.if_icmp .lt 12, 3) := by decide +kernel
theorem d_MO_within_5 : decode b_MO_within 5 = .ok (.iload_n 0, 1) := by decide +kernel
theorem d_MO_within_6 : decode b_MO_within 6 = .ok (.iload_n 2, 1) := by decide +kernel
theorem d_MO_within_7 : decode b_MO_within 7 = .ok (.if_icmp .gt 7, 3) := by decide +kernel
theorem d_MO_within_10 : decode b_MO_within 10 = .ok (.iconst 1, 1) := by decide +kernel
theorem d_MO_within_11 : decode b_MO_within 11 = .ok (.goto 4, 3) := by decide +kernel
theorem d_MO_within_14 : decode b_MO_within 14 = .ok (.iconst 0, 1) := by decide +kernel
theorem d_MO_within_15 : decode b_MO_within 15 = .ok (.ireturn, 1) := by decide +kernel
theorem d_MO_noFile_0 : decode b_MO_noFile 0 = .ok (.iload_n 0, 1) := by decide +kernel
theorem d_MO_noFile_1 : decode b_MO_noFile 1 = .ok (.iconst 0, 1) := by decide +kernel
theorem d_MO_noFile_2 : decode b_MO_noFile 2 = .ok (.bipush 15, 2) := by decide +kernel
theorem d_MO_noFile_4 : decode b_MO_noFile 4 = .ok (.invokestatic 40, 3) := by decide +kernel
theorem d_MO_noFile_7 : decode b_MO_noFile 7 = .ok (.ifCond .ne 7, 3) := by decide +kernel
theorem d_MO_noFile_10 : decode b_MO_noFile 10 = .ok (.iconst 1, 1) := by decide +kernel
theorem d_MO_noFile_11 : decode b_MO_noFile 11 = .ok (.goto 4, 3) := by decide +kernel
theorem d_MO_noFile_14 : decode b_MO_noFile 14 = .ok (.iconst 0, 1) := by decide +kernel
theorem d_MO_noFile_15 : decode b_MO_noFile 15 = .ok (.ireturn, 1) := by decide +kernel
theorem d_MO_feed_0 : decode b_MO_feed 0 = .ok (.aload_n 0, 1) := by decide +kernel
theorem d_MO_feed_1 : decode b_MO_feed 1 = .ok (.iconst 0, 1) := by decide +kernel
theorem d_MO_feed_2 : decode b_MO_feed 2 = .ok (.putfield 37, 3) := by decide +kernel
theorem d_MO_feed_5 : decode b_MO_feed 5 = .ok (.iload_n 3, 1) := by decide +kernel
theorem d_MO_feed_6 : decode b_MO_feed 6 = .ok (.iconst 1, 1) := by decide +kernel
theorem d_MO_feed_7 : decode b_MO_feed 7 = .ok (.bipush 8, 2) := by decide +kernel
theorem d_MO_feed_9 : decode b_MO_feed 9 = .ok (.invokestatic 40, 3) := by decide +kernel
theorem d_MO_feed_12 : decode b_MO_feed 12 = .ok (.ifCond .ne 9, 3) := by decide +kernel
theorem d_MO_feed_15 : decode b_MO_feed 15 = .ok (.aload_n 0, 1) := by decide +kernel
theorem d_MO_feed_16 : decode b_MO_feed 16 = .ok (.iconst 1, 1) := by decide +kernel
theorem d_MO_feed_17 : decode b_MO_feed 17 = .ok (.invokevirtual 44, 3) := by decide +kernel
theorem d_MO_feed_20 : decode b_MO_feed 20 = .ok (.ireturn, 1) := by decide +kernel
theorem d_MO_feed_21 : decode b_MO_feed 21 = .ok (.aload_n 0, 1) := by decide +kernel
theorem d_MO_feed_22 : decode b_MO_feed 22 = .ok (.getfield 48, 3) := by decide +kernel
theorem d_MO_feed_25 : decode b_MO_feed 25 = .ok (.iload_n 3, 1) := by decide +kernel
theorem d_MO_feed_26 : decode b_MO_feed 26 = .ok (.iadd, 1) := by decide +kernel
theorem d_MO_feed_27 : decode b_MO_feed 27 = .ok (.sipush 4096, 3) := by decide +kernel
theorem d_MO_feed_30 : decode b_MO_feed 30 = .ok (.if_icmp .le 9, 3) := by decide +kernel
theorem d_MO_feed_33 : decode b_MO_feed 33 = .ok (.aload_n 0, 1) := by decide +kernel
theorem d_MO_feed_34 : decode b_MO_feed 34 = .ok (.iconst 2, 1) := by decide +kernel
theorem d_MO_feed_35 : decode b_MO_feed 35 = .ok (.invokevirtual 44, 3) := by decide +kernel
theorem d_MO_feed_38 : decode b_MO_feed 38 = .ok (.ireturn, 1) := by decide +kernel
theorem d_MO_feed_39 : decode b_MO_feed 39 = .ok (.iconst 0, 1) := by decide +kernel
theorem d_MO_feed_40 : decode b_MO_feed 40 = .ok (.istore 4, 2) := by decide +kernel
theorem d_MO_feed_42 : decode b_MO_feed 42 = .ok (.iload 4, 2) := by decide +kernel
theorem d_MO_feed_44 : decode b_MO_feed 44 = .ok (.iload_n 3, 1) := by decide +kernel
theorem d_MO_feed_45 : decode b_MO_feed 45 = .ok (.if_icmp .ge 33, 3) := by decide +kernel
theorem d_MO_feed_48 : decode b_MO_feed 48 = .ok (.aload_n 0, 1) := by decide +kernel
theorem d_MO_feed_49 : decode b_MO_feed 49 = .ok (.getfield 7, 3) := by decide +kernel
theorem d_MO_feed_52 : decode b_MO_feed 52 = .ok (.aload_n 0, 1) := by decide +kernel
theorem d_MO_feed_53 : decode b_MO_feed 53 = .ok (.getfield 48, 3) := by decide +kernel
theorem d_MO_feed_56 : decode b_MO_feed 56 = .ok (.iload 4, 2) := by decide +kernel
theorem d_MO_feed_58 : decode b_MO_feed 58 = .ok (.iadd, 1) := by decide +kernel
theorem d_MO_feed_59 : decode b_MO_feed 59 = .ok (.lload_n 1, 1) := by decide +kernel
theorem d_MO_feed_60 : decode b_MO_feed 60 = .ok (.bipush 8, 2) := by decide +kernel
theorem d_MO_feed_62 : decode b_MO_feed 62 = .ok (.iload 4, 2) := by decide +kernel
theorem d_MO_feed_64 : decode b_MO_feed 64 = .ok (.imul, 1) := by decide +kernel
theorem d_MO_feed_65 : decode b_MO_feed 65 = .ok (.lshr, 1) := by decide +kernel
theorem d_MO_feed_66 : decode b_MO_feed 66 = .ok (.ldc2_w 51, 3) := by decide +kernel
theorem d_MO_feed_69 : decode b_MO_feed 69 = .ok (.land, 1) := by decide +kernel
theorem d_MO_feed_70 : decode b_MO_feed 70 = .ok (.l2i, 1) := by decide +kernel
theorem d_MO_feed_71 : decode b_MO_feed 71 = .ok (.iastore, 1) := by decide +kernel
theorem d_MO_feed_72 : decode b_MO_feed 72 = .ok (.iinc 4 1, 3) := by decide +kernel
theorem d_MO_feed_75 : decode b_MO_feed 75 = .ok (.goto (-33), 3) := by decide +kernel
theorem d_MO_feed_78 : decode b_MO_feed 78 = .ok (.aload_n 0, 1) := by decide +kernel
theorem d_MO_feed_79 : decode b_MO_feed 79 = .ok (.dup, 1) := by decide +kernel
theorem d_MO_feed_80 : decode b_MO_feed 80 = .ok (.getfield 48, 3) := by decide +kernel
theorem d_MO_feed_83 : decode b_MO_feed 83 = .ok (.iload_n 3, 1) := by decide +kernel
theorem d_MO_feed_84 : decode b_MO_feed 84 = .ok (.iadd, 1) := by decide +kernel
theorem d_MO_feed_85 : decode b_MO_feed 85 = .ok (.putfield 48, 3) := by decide +kernel
theorem d_MO_feed_88 : decode b_MO_feed 88 = .ok (.aload_n 0, 1) := by decide +kernel
theorem d_MO_feed_89 : decode b_MO_feed 89 = .ok (.getfield 48, 3) := by decide +kernel
theorem d_MO_feed_92 : decode b_MO_feed 92 = .ok (.ireturn, 1) := by decide +kernel
theorem d_MO_needed_0 : decode b_MO_needed 0 = .ok (.iload_n 0, 1) := by decide +kernel
theorem d_MO_needed_1 : decode b_MO_needed 1 = .ok (.bipush 64, 2) := by decide +kernel
theorem d_MO_needed_3 : decode b_MO_needed 3 = .ok (.iadd, 1) := by decide +kernel
theorem d_MO_needed_4 : decode b_MO_needed 4 = .ok (.iconst 1, 1) := by decide +kernel
theorem d_MO_needed_5 : decode b_MO_needed 5 = .ok (.isub, 1) := by decide +kernel
theorem d_MO_needed_6 : decode b_MO_needed 6 = .ok (.bipush 64, 2) := by decide +kernel
theorem d_MO_needed_8 : decode b_MO_needed 8 = .ok (.idiv, 1) := by decide +kernel
theorem d_MO_needed_9 : decode b_MO_needed 9 = .ok (.ireturn, 1) := by decide +kernel
theorem d_MO_look_0 : decode b_MO_look 0 = .ok (.iconst 0, 1) := by decide +kernel
theorem d_MO_look_1 : decode b_MO_look 1 = .ok (.istore_n 1, 1) := by decide +kernel
theorem d_MO_look_2 : decode b_MO_look 2 = .ok (.iload_n 1, 1) := by decide +kernel
theorem d_MO_look_3 : decode b_MO_look 3 = .ok (.sipush 1024, 3) := by decide +kernel
theorem d_MO_look_6 : decode b_MO_look 6 = .ok (.if_icmp .ge 16, 3) := by decide +kernel
theorem d_MO_look_9 : decode b_MO_look 9 = .ok (.aload_n 0, 1) := by decide +kernel
theorem d_MO_look_10 : decode b_MO_look 10 = .ok (.getfield 30, 3) := by decide +kernel
theorem d_MO_look_13 : decode b_MO_look 13 = .ok (.iload_n 1, 1) := by decide +kernel
theorem d_MO_look_14 : decode b_MO_look 14 = .ok (.iconst 0, 1) := by decide +kernel
theorem d_MO_look_15 : decode b_MO_look 15 = .ok (.iastore, 1) := by decide +kernel
theorem d_MO_look_16 : decode b_MO_look 16 = .ok (.iinc 1 1, 3) := by decide +kernel
theorem d_MO_look_19 : decode b_MO_look 19 = .ok (.goto (-17), 3) := by decide +kernel
theorem d_MO_look_22 : decode b_MO_look 22 = .ok (.iconst 0, 1) := by decide +kernel
theorem d_MO_look_23 : decode b_MO_look 23 = .ok (.istore_n 1, 1) := by decide +kernel
theorem d_MO_look_24 : decode b_MO_look 24 = .ok (.iload_n 1, 1) := by decide +kernel
theorem d_MO_look_25 : decode b_MO_look 25 = .ok (.bipush 32, 2) := by decide +kernel
theorem d_MO_look_27 : decode b_MO_look 27 = .ok (.if_icmp .ge 51, 3) := by decide +kernel
theorem d_MO_look_30 : decode b_MO_look 30 = .ok (.iconst 0, 1) := by decide +kernel
theorem d_MO_look_31 : decode b_MO_look 31 = .ok (.istore_n 2, 1) := by decide +kernel
theorem d_MO_look_32 : decode b_MO_look 32 = .ok (.iload_n 2, 1) := by decide +kernel
theorem d_MO_look_33 : decode b_MO_look 33 = .ok (.aload_n 0, 1) := by decide +kernel
theorem d_MO_look_34 : decode b_MO_look 34 = .ok (.getfield 20, 3) := by decide +kernel
theorem d_MO_look_37 : decode b_MO_look 37 = .ok (.iload_n 1, 1) := by decide +kernel
theorem d_MO_look_38 : decode b_MO_look 38 = .ok (.iaload, 1) := by decide +kernel
theorem d_MO_look_39 : decode b_MO_look 39 = .ok (.invokestatic 53, 3) := by decide +kernel
theorem d_MO_look_42 : decode b_MO_look 42 = .ok (.if_icmp .ge 30, 3) := by decide +kernel
theorem d_MO_look_45 : decode b_MO_look 45 = .ok (.aload_n 0, 1) := by decide +kernel
theorem d_MO_look_46 : decode b_MO_look 46 = .ok (.getfield 30, 3) := by decide +kernel
theorem d_MO_look_49 : decode b_MO_look 49 = .ok (.aload_n 0, 1) := by decide +kernel
theorem d_MO_look_50 : decode b_MO_look 50 = .ok (.getfield 17, 3) := by decide +kernel
theorem d_MO_look_53 : decode b_MO_look 53 = .ok (.sipush 400, 3) := by decide +kernel
theorem d_MO_look_56 : decode b_MO_look 56 = .ok (.iload_n 1, 1) := by decide +kernel
theorem d_MO_look_57 : decode b_MO_look 57 = .ok (.imul, 1) := by decide +kernel
theorem d_MO_look_58 : decode b_MO_look 58 = .ok (.iload_n 2, 1) := by decide +kernel
theorem d_MO_look_59 : decode b_MO_look 59 = .ok (.iadd, 1) := by decide +kernel
theorem d_MO_look_60 : decode b_MO_look 60 = .ok (.iaload, 1) := by decide +kernel
theorem d_MO_look_61 : decode b_MO_look 61 = .ok (.dup2, 1) := by decide +kernel
theorem d_MO_look_62 : decode b_MO_look 62 = .ok (.iaload, 1) := by decide +kernel
theorem d_MO_look_63 : decode b_MO_look 63 = .ok (.iconst 1, 1) := by decide +kernel
theorem d_MO_look_64 : decode b_MO_look 64 = .ok (.iadd, 1) := by decide +kernel
theorem d_MO_look_65 : decode b_MO_look 65 = .ok (.iastore, 1) := by decide +kernel
theorem d_MO_look_66 : decode b_MO_look 66 = .ok (.iinc 2 1, 3) := by decide +kernel
theorem d_MO_look_69 : decode b_MO_look 69 = .ok (.goto (-37), 3) := by decide +kernel
theorem d_MO_look_72 : decode b_MO_look 72 = .ok (.iinc 1 1, 3) := by decide +kernel
theorem d_MO_look_75 : decode b_MO_look 75 = .ok (.goto (-51), 3) := by decide +kernel
theorem d_MO_look_78 : decode b_MO_look 78 = .ok (.iconst 0, 1) := by decide +kernel
theorem d_MO_look_79 : decode b_MO_look 79 = .ok (.istore_n 1, 1) := by decide +kernel
theorem d_MO_look_80 : decode b_MO_look 80 = .ok (.iconst 0, 1) := by decide +kernel
theorem d_MO_look_81 : decode b_MO_look 81 = .ok (.istore_n 2, 1) := by decide +kernel
theorem d_MO_look_82 : decode b_MO_look 82 = .ok (.iload_n 2, 1) := by decide +kernel
theorem d_MO_look_83 : decode b_MO_look 83 = .ok (.sipush 1024, 3) := by decide +kernel
theorem d_MO_look_86 : decode b_MO_look 86 = .ok (.if_icmp .ge 26, 3) := by decide +kernel
theorem d_MO_look_89 : decode b_MO_look 89 = .ok (.iload_n 1, 1) := by decide +kernel
theorem d_MO_look_90 : decode b_MO_look 90 = .ok (.aload_n 0, 1) := by decide +kernel
theorem d_MO_look_91 : decode b_MO_look 91 = .ok (.getfield 30, 3) := by decide +kernel
theorem d_MO_look_94 : decode b_MO_look 94 = .ok (.iload_n 2, 1) := by decide +kernel
theorem d_MO_look_95 : decode b_MO_look 95 = .ok (.iaload, 1) := by decide +kernel
theorem d_MO_look_96 : decode b_MO_look 96 = .ok (.ifCond .le 7, 3) := by decide +kernel
theorem d_MO_look_99 : decode b_MO_look 99 = .ok (.iconst 1, 1) := by decide +kernel
theorem d_MO_look_100 : decode b_MO_look 100 = .ok (.goto 4, 3) := by decide +kernel
theorem d_MO_look_103 : decode b_MO_look 103 = .ok (.iconst 0, 1) := by decide +kernel
theorem d_MO_look_104 : decode b_MO_look 104 = .ok (.iadd, 1) := by decide +kernel
theorem d_MO_look_105 : decode b_MO_look 105 = .ok (.istore_n 1, 1) := by decide +kernel
theorem d_MO_look_106 : decode b_MO_look 106 = .ok (.iinc 2 1, 3) := by decide +kernel
theorem d_MO_look_109 : decode b_MO_look 109 = .ok (.goto (-27), 3) := by decide +kernel
theorem d_MO_look_112 : decode b_MO_look 112 = .ok (.iload_n 1, 1) := by decide +kernel
theorem d_MO_look_113 : decode b_MO_look 113 = .ok (.ireturn, 1) := by decide +kernel
theorem d_MO_fresh_0 : decode b_MO_fresh 0 = .ok (.iconst 0, 1) := by decide +kernel
theorem d_MO_fresh_1 : decode b_MO_fresh 1 = .ok (.istore_n 1, 1) := by decide +kernel
theorem d_MO_fresh_2 : decode b_MO_fresh 2 = .ok (.aload_n 0, 1) := by decide +kernel
theorem d_MO_fresh_3 : decode b_MO_fresh 3 = .ok (.getfield 30, 3) := by decide +kernel
theorem d_MO_fresh_6 : decode b_MO_fresh 6 = .ok (.iload_n 1, 1) := by decide +kernel
theorem d_MO_fresh_7 : decode b_MO_fresh 7 = .ok (.iaload, 1) := by decide +kernel
theorem d_MO_fresh_8 : decode b_MO_fresh 8 = .ok (.ifCond .le 9, 3) := by decide +kernel
theorem d_MO_fresh_11 : decode b_MO_fresh 11 = .ok (.iinc 1 1, 3) := by decide +kernel
theorem d_MO_fresh_14 : decode b_MO_fresh 14 = .ok (.goto (-12), 3) := by decide +kernel
theorem d_MO_fresh_17 : decode b_MO_fresh 17 = .ok (.aload_n 0, 1) := by decide +kernel
theorem d_MO_fresh_18 : decode b_MO_fresh 18 = .ok (.getfield 30, 3) := by decide +kernel
theorem d_MO_fresh_21 : decode b_MO_fresh 21 = .ok (.iload_n 1, 1) := by decide +kernel
theorem d_MO_fresh_22 : decode b_MO_fresh 22 = .ok (.iconst 1, 1) := by decide +kernel
theorem d_MO_fresh_23 : decode b_MO_fresh 23 = .ok (.iastore, 1) := by decide +kernel
theorem d_MO_fresh_24 : decode b_MO_fresh 24 = .ok (.iload_n 1, 1) := by decide +kernel
theorem d_MO_fresh_25 : decode b_MO_fresh 25 = .ok (.ireturn, 1) := by decide +kernel
theorem d_MO_write_0 : decode b_MO_write 0 = .ok (.bipush 8, 2) := by decide +kernel
theorem d_MO_write_2 : decode b_MO_write 2 = .ok (.iload_n 1, 1) := by decide +kernel
theorem d_MO_write_3 : decode b_MO_write 3 = .ok (.imul, 1) := by decide +kernel
theorem d_MO_write_4 : decode b_MO_write 4 = .ok (.iload_n 2, 1) := by decide +kernel
theorem d_MO_write_5 : decode b_MO_write 5 = .ok (.bipush 8, 2) := by decide +kernel
theorem d_MO_write_7 : decode b_MO_write 7 = .ok (.idiv, 1) := by decide +kernel
theorem d_MO_write_8 : decode b_MO_write 8 = .ok (.iadd, 1) := by decide +kernel
theorem d_MO_write_9 : decode b_MO_write 9 = .ok (.istore 4, 2) := by decide +kernel
theorem d_MO_write_11 : decode b_MO_write 11 = .ok (.bipush 8, 2) := by decide +kernel
theorem d_MO_write_13 : decode b_MO_write 13 = .ok (.iload_n 2, 1) := by decide +kernel
theorem d_MO_write_14 : decode b_MO_write 14 = .ok (.bipush 8, 2) := by decide +kernel
theorem d_MO_write_16 : decode b_MO_write 16 = .ok (.irem, 1) := by decide +kernel
theorem d_MO_write_17 : decode b_MO_write 17 = .ok (.imul, 1) := by decide +kernel
theorem d_MO_write_18 : decode b_MO_write 18 = .ok (.istore 5, 2) := by decide +kernel
theorem d_MO_write_20 : decode b_MO_write 20 = .ok (.aload_n 0, 1) := by decide +kernel
theorem d_MO_write_21 : decode b_MO_write 21 = .ok (.getfield 13, 3) := by decide +kernel
theorem d_MO_write_24 : decode b_MO_write 24 = .ok (.iload 4, 2) := by decide +kernel
theorem d_MO_write_26 : decode b_MO_write 26 = .ok (.aload_n 0, 1) := by decide +kernel
theorem d_MO_write_27 : decode b_MO_write 27 = .ok (.getfield 13, 3) := by decide +kernel
theorem d_MO_write_30 : decode b_MO_write 30 = .ok (.iload 4, 2) := by decide +kernel
theorem d_MO_write_32 : decode b_MO_write 32 = .ok (.laload, 1) := by decide +kernel
theorem d_MO_write_33 : decode b_MO_write 33 = .ok (.ldc2_w 51, 3) := by decide +kernel
theorem d_MO_write_36 : decode b_MO_write 36 = .ok (.iload 5, 2) := by decide +kernel
theorem d_MO_write_38 : decode b_MO_write 38 = .ok (.lshl, 1) := by decide +kernel
theorem d_MO_write_39 : decode b_MO_write 39 = .ok (.ldc2_w 56, 3) := by decide +kernel
theorem d_MO_write_42 : decode b_MO_write 42 = .ok (.lxor, 1) := by decide +kernel
theorem d_MO_write_43 : decode b_MO_write 43 = .ok (.land, 1) := by decide +kernel
theorem d_MO_write_44 : decode b_MO_write 44 = .ok (.iload_n 3, 1) := by decide +kernel
theorem d_MO_write_45 : decode b_MO_write 45 = .ok (.i2l, 1) := by decide +kernel
theorem d_MO_write_46 : decode b_MO_write 46 = .ok (.iload 5, 2) := by decide +kernel
theorem d_MO_write_48 : decode b_MO_write 48 = .ok (.lshl, 1) := by decide +kernel
theorem d_MO_write_49 : decode b_MO_write 49 = .ok (.lor, 1) := by decide +kernel
theorem d_MO_write_50 : decode b_MO_write 50 = .ok (.lastore, 1) := by decide +kernel
theorem d_MO_write_51 : decode b_MO_write 51 = .ok (.return_, 1) := by decide +kernel
theorem d_MO_read_0 : decode b_MO_read 0 = .ok (.aload_n 0, 1) := by decide +kernel
theorem d_MO_read_1 : decode b_MO_read 1 = .ok (.getfield 13, 3) := by decide +kernel
theorem d_MO_read_4 : decode b_MO_read 4 = .ok (.bipush 8, 2) := by decide +kernel
theorem d_MO_read_6 : decode b_MO_read 6 = .ok (.aload_n 0, 1) := by decide +kernel
theorem d_MO_read_7 : decode b_MO_read 7 = .ok (.getfield 17, 3) := by decide +kernel
theorem d_MO_read_10 : decode b_MO_read 10 = .ok (.sipush 400, 3) := by decide +kernel
theorem d_MO_read_13 : decode b_MO_read 13 = .ok (.iload_n 1, 1) := by decide +kernel
theorem d_MO_read_14 : decode b_MO_read 14 = .ok (.imul, 1) := by decide +kernel
theorem d_MO_read_15 : decode b_MO_read 15 = .ok (.iload_n 2, 1) := by decide +kernel
theorem d_MO_read_16 : decode b_MO_read 16 = .ok (.bipush 64, 2) := by decide +kernel
theorem d_MO_read_18 : decode b_MO_read 18 = .ok (.idiv, 1) := by decide +kernel
theorem d_MO_read_19 : decode b_MO_read 19 = .ok (.iadd, 1) := by decide +kernel
theorem d_MO_read_20 : decode b_MO_read 20 = .ok (.iaload, 1) := by decide +kernel
theorem d_MO_read_21 : decode b_MO_read 21 = .ok (.imul, 1) := by decide +kernel
theorem d_MO_read_22 : decode b_MO_read 22 = .ok (.iload_n 2, 1) := by decide +kernel
theorem d_MO_read_23 : decode b_MO_read 23 = .ok (.bipush 64, 2) := by decide +kernel
theorem d_MO_read_25 : decode b_MO_read 25 = .ok (.irem, 1) := by decide +kernel
theorem d_MO_read_26 : decode b_MO_read 26 = .ok (.bipush 8, 2) := by decide +kernel
theorem d_MO_read_28 : decode b_MO_read 28 = .ok (.idiv, 1) := by decide +kernel
theorem d_MO_read_29 : decode b_MO_read 29 = .ok (.iadd, 1) := by decide +kernel
theorem d_MO_read_30 : decode b_MO_read 30 = .ok (.laload, 1) := by decide +kernel
theorem d_MO_read_31 : decode b_MO_read 31 = .ok (.bipush 8, 2) := by decide +kernel
theorem d_MO_read_33 : decode b_MO_read 33 = .ok (.iload_n 2, 1) := by decide +kernel
theorem d_MO_read_34 : decode b_MO_read 34 = .ok (.bipush 8, 2) := by decide +kernel
theorem d_MO_read_36 : decode b_MO_read 36 = .ok (.irem, 1) := by decide +kernel
theorem d_MO_read_37 : decode b_MO_read 37 = .ok (.imul, 1) := by decide +kernel
theorem d_MO_read_38 : decode b_MO_read 38 = .ok (.lshr, 1) := by decide +kernel
theorem d_MO_read_39 : decode b_MO_read 39 = .ok (.ldc2_w 51, 3) := by decide +kernel
theorem d_MO_read_42 : decode b_MO_read 42 = .ok (.land, 1) := by decide +kernel
theorem d_MO_read_43 : decode b_MO_read 43 = .ok (.l2i, 1) := by decide +kernel
theorem d_MO_read_44 : decode b_MO_read 44 = .ok (.ireturn, 1) := by decide +kernel
theorem d_MO_become_0 : decode b_MO_become 0 = .ok (.iconst 0, 1) := by decide +kernel
theorem d_MO_become_1 : decode b_MO_become 1 = .ok (.istore_n 3, 1) := by decide +kernel
theorem d_MO_become_2 : decode b_MO_become 2 = .ok (.iload_n 3, 1) := by decide +kernel
theorem d_MO_become_3 : decode b_MO_become 3 = .ok (.sipush 400, 3) := by decide +kernel
theorem d_MO_become_6 : decode b_MO_become 6 = .ok (.if_icmp .ge 33, 3) := by decide +kernel
theorem d_MO_become_9 : decode b_MO_become 9 = .ok (.aload_n 0, 1) := by decide +kernel
theorem d_MO_become_10 : decode b_MO_become 10 = .ok (.getfield 17, 3) := by decide +kernel
theorem d_MO_become_13 : decode b_MO_become 13 = .ok (.sipush 400, 3) := by decide +kernel
theorem d_MO_become_16 : decode b_MO_become 16 = .ok (.iload_n 1, 1) := by decide +kernel
theorem d_MO_become_17 : decode b_MO_become 17 = .ok (.imul, 1) := by decide +kernel
theorem d_MO_become_18 : decode b_MO_become 18 = .ok (.iload_n 3, 1) := by decide +kernel
theorem d_MO_become_19 : decode b_MO_become 19 = .ok (.iadd, 1) := by decide +kernel
theorem d_MO_become_20 : decode b_MO_become 20 = .ok (.aload_n 0, 1) := by decide +kernel
theorem d_MO_become_21 : decode b_MO_become 21 = .ok (.getfield 17, 3) := by decide +kernel
theorem d_MO_become_24 : decode b_MO_become 24 = .ok (.sipush 400, 3) := by decide +kernel
theorem d_MO_become_27 : decode b_MO_become 27 = .ok (.iload_n 2, 1) := by decide +kernel
theorem d_MO_become_28 : decode b_MO_become 28 = .ok (.imul, 1) := by decide +kernel
theorem d_MO_become_29 : decode b_MO_become 29 = .ok (.iload_n 3, 1) := by decide +kernel
theorem d_MO_become_30 : decode b_MO_become 30 = .ok (.iadd, 1) := by decide +kernel
theorem d_MO_become_31 : decode b_MO_become 31 = .ok (.iaload, 1) := by decide +kernel
theorem d_MO_become_32 : decode b_MO_become 32 = .ok (.iastore, 1) := by decide +kernel
theorem d_MO_become_33 : decode b_MO_become 33 = .ok (.iinc 3 1, 3) := by decide +kernel
theorem d_MO_become_36 : decode b_MO_become 36 = .ok (.goto (-34), 3) := by decide +kernel
theorem d_MO_become_39 : decode b_MO_become 39 = .ok (.aload_n 0, 1) := by decide +kernel
theorem d_MO_become_40 : decode b_MO_become 40 = .ok (.getfield 20, 3) := by decide +kernel
theorem d_MO_become_43 : decode b_MO_become 43 = .ok (.iload_n 1, 1) := by decide +kernel
theorem d_MO_become_44 : decode b_MO_become 44 = .ok (.aload_n 0, 1) := by decide +kernel
theorem d_MO_become_45 : decode b_MO_become 45 = .ok (.getfield 20, 3) := by decide +kernel
theorem d_MO_become_48 : decode b_MO_become 48 = .ok (.iload_n 2, 1) := by decide +kernel
theorem d_MO_become_49 : decode b_MO_become 49 = .ok (.iaload, 1) := by decide +kernel
theorem d_MO_become_50 : decode b_MO_become 50 = .ok (.iastore, 1) := by decide +kernel
theorem d_MO_become_51 : decode b_MO_become 51 = .ok (.aload_n 0, 1) := by decide +kernel
theorem d_MO_become_52 : decode b_MO_become 52 = .ok (.getfield 23, 3) := by decide +kernel
theorem d_MO_become_55 : decode b_MO_become 55 = .ok (.iload_n 1, 1) := by decide +kernel
theorem d_MO_become_56 : decode b_MO_become 56 = .ok (.aload_n 0, 1) := by decide +kernel
theorem d_MO_become_57 : decode b_MO_become 57 = .ok (.getfield 23, 3) := by decide +kernel
theorem d_MO_become_60 : decode b_MO_become 60 = .ok (.iload_n 2, 1) := by decide +kernel
theorem d_MO_become_61 : decode b_MO_become 61 = .ok (.baload, 1) := by decide +kernel
theorem d_MO_become_62 : decode b_MO_become 62 = .ok (.bastore, 1) := by decide +kernel
theorem d_MO_become_63 : decode b_MO_become 63 = .ok (.return_, 1) := by decide +kernel
theorem d_MO_append_0 : decode b_MO_append 0 = .ok (.aload_n 0, 1) := by decide +kernel
theorem d_MO_append_1 : decode b_MO_append 1 = .ok (.iconst 0, 1) := by decide +kernel
theorem d_MO_append_2 : decode b_MO_append 2 = .ok (.putfield 37, 3) := by decide +kernel
theorem d_MO_append_5 : decode b_MO_append 5 = .ok (.iload_n 1, 1) := by decide +kernel
theorem d_MO_append_6 : decode b_MO_append 6 = .ok (.invokestatic 58, 3) := by decide +kernel
theorem d_MO_append_9 : decode b_MO_append 9 = .ok (.ifCond .ne 13, 3) := by decide +kernel
theorem d_MO_append_12 : decode b_MO_append 12 = .ok (.iload_n 2, 1) := by decide +kernel
theorem d_MO_append_13 : decode b_MO_append 13 = .ok (.iconst 1, 1) := by decide +kernel
theorem d_MO_append_14 : decode b_MO_append 14 = .ok (.bipush 16, 2) := by decide +kernel
theorem d_MO_append_16 : decode b_MO_append 16 = .ok (.invokestatic 40, 3) := by decide +kernel
theorem d_MO_append_19 : decode b_MO_append 19 = .ok (.ifCond .ne 9, 3) := by decide +kernel
theorem d_MO_append_22 : decode b_MO_append 22 = .ok (.aload_n 0, 1) := by decide +kernel
theorem d_MO_append_23 : decode b_MO_append 23 = .ok (.iconst 1, 1) := by decide +kernel
theorem d_MO_append_24 : decode b_MO_append 24 = .ok (.invokevirtual 44, 3) := by decide +kernel
theorem d_MO_append_27 : decode b_MO_append 27 = .ok (.ireturn, 1) := by decide +kernel
theorem d_MO_append_28 : decode b_MO_append 28 = .ok (.aload_n 0, 1) := by decide +kernel
theorem d_MO_append_29 : decode b_MO_append 29 = .ok (.getfield 48, 3) := by decide +kernel
theorem d_MO_append_32 : decode b_MO_append 32 = .ok (.iload_n 2, 1) := by decide +kernel
theorem d_MO_append_33 : decode b_MO_append 33 = .ok (.imul, 1) := by decide +kernel
theorem d_MO_append_34 : decode b_MO_append 34 = .ok (.istore_n 3, 1) := by decide +kernel
theorem d_MO_append_35 : decode b_MO_append 35 = .ok (.aload_n 0, 1) := by decide +kernel
theorem d_MO_append_36 : decode b_MO_append 36 = .ok (.getfield 48, 3) := by decide +kernel
theorem d_MO_append_39 : decode b_MO_append 39 = .ok (.istore 4, 2) := by decide +kernel
theorem d_MO_append_41 : decode b_MO_append 41 = .ok (.aload_n 0, 1) := by decide +kernel
theorem d_MO_append_42 : decode b_MO_append 42 = .ok (.iconst 0, 1) := by decide +kernel
theorem d_MO_append_43 : decode b_MO_append 43 = .ok (.putfield 48, 3) := by decide +kernel
theorem d_MO_append_46 : decode b_MO_append 46 = .ok (.iconst 2, 1) := by decide +kernel
theorem d_MO_append_47 : decode b_MO_append 47 = .ok (.iload_n 1, 1) := by decide +kernel
theorem d_MO_append_48 : decode b_MO_append 48 = .ok (.imul, 1) := by decide +kernel
theorem d_MO_append_49 : decode b_MO_append 49 = .ok (.istore 5, 2) := by decide +kernel
theorem d_MO_append_51 : decode b_MO_append 51 = .ok (.aload_n 0, 1) := by decide +kernel
theorem d_MO_append_52 : decode b_MO_append 52 = .ok (.getfield 33, 3) := by decide +kernel
theorem d_MO_append_55 : decode b_MO_append 55 = .ok (.aload_n 0, 1) := by decide +kernel
theorem d_MO_append_56 : decode b_MO_append 56 = .ok (.invokevirtual 62, 3) := by decide +kernel
theorem d_MO_append_59 : decode b_MO_append 59 = .ok (.isub, 1) := by decide +kernel
theorem d_MO_append_60 : decode b_MO_append 60 = .ok (.istore 6, 2) := by decide +kernel
theorem d_MO_append_62 : decode b_MO_append 62 = .ok (.aload_n 0, 1) := by decide +kernel
theorem d_MO_append_63 : decode b_MO_append 63 = .ok (.getfield 20, 3) := by decide +kernel
theorem d_MO_append_66 : decode b_MO_append 66 = .ok (.iload 5, 2) := by decide +kernel
theorem d_MO_append_68 : decode b_MO_append 68 = .ok (.iaload, 1) := by decide +kernel
theorem d_MO_append_69 : decode b_MO_append 69 = .ok (.istore 7, 2) := by decide +kernel
theorem d_MO_append_71 : decode b_MO_append 71 = .ok (.iload 7, 2) := by decide +kernel
theorem d_MO_append_73 : decode b_MO_append 73 = .ok (.bipush 64, 2) := by decide +kernel
theorem d_MO_append_75 : decode b_MO_append 75 = .ok (.idiv, 1) := by decide +kernel
theorem d_MO_append_76 : decode b_MO_append 76 = .ok (.istore 8, 2) := by decide +kernel
theorem d_MO_append_78 : decode b_MO_append 78 = .ok (.iload_n 3, 1) := by decide +kernel
theorem d_MO_append_79 : decode b_MO_append 79 = .ok (.ifCond .le 38, 3) := by decide +kernel
theorem d_MO_append_82 : decode b_MO_append 82 = .ok (.iload 7, 2) := by decide +kernel
theorem d_MO_append_84 : decode b_MO_append 84 = .ok (.bipush 64, 2) := by decide +kernel
theorem d_MO_append_86 : decode b_MO_append 86 = .ok (.irem, 1) := by decide +kernel
theorem d_MO_append_87 : decode b_MO_append 87 = .ok (.ifCond .le 30, 3) := by decide +kernel
theorem d_MO_append_90 : decode b_MO_append 90 = .ok (.aload_n 0, 1) := by decide +kernel
theorem d_MO_append_91 : decode b_MO_append 91 = .ok (.getfield 30, 3) := by decide +kernel
theorem d_MO_append_94 : decode b_MO_append 94 = .ok (.aload_n 0, 1) := by decide +kernel
theorem d_MO_append_95 : decode b_MO_append 95 = .ok (.getfield 17, 3) := by decide +kernel
theorem d_MO_append_98 : decode b_MO_append 98 = .ok (.sipush 400, 3) := by decide +kernel
theorem d_MO_append_101 : decode b_MO_append 101 = .ok (.iload 5, 2) := by decide +kernel
theorem d_MO_append_103 : decode b_MO_append 103 = .ok (.imul, 1) := by decide +kernel
theorem d_MO_append_104 : decode b_MO_append 104 = .ok (.iload 8, 2) := by decide +kernel
theorem d_MO_append_106 : decode b_MO_append 106 = .ok (.iadd, 1) := by decide +kernel
theorem d_MO_append_107 : decode b_MO_append 107 = .ok (.iaload, 1) := by decide +kernel
theorem d_MO_append_108 : decode b_MO_append 108 = .ok (.iaload, 1) := by decide +kernel
theorem d_MO_append_109 : decode b_MO_append 109 = .ok (.iconst 1, 1) := by decide +kernel
theorem d_MO_append_110 : decode b_MO_append 110 = .ok (.if_icmp .le 7, 3) := by decide +kernel
theorem d_MO_append_113 : decode b_MO_append 113 = .ok (.iconst 1, 1) := by decide +kernel
theorem d_MO_append_114 : decode b_MO_append 114 = .ok (.goto 4, 3) := by decide +kernel
theorem d_MO_append_117 : decode b_MO_append 117 = .ok (.iconst 0, 1) := by decide +kernel
theorem d_MO_append_118 : decode b_MO_append 118 = .ok (.istore 9, 2) := by decide +kernel
theorem d_MO_append_120 : decode b_MO_append 120 = .ok (.iload 7, 2) := by decide +kernel
theorem d_MO_append_122 : decode b_MO_append 122 = .ok (.iload_n 3, 1) := by decide +kernel
theorem d_MO_append_123 : decode b_MO_append 123 = .ok (.iadd, 1) := by decide +kernel
theorem d_MO_append_124 : decode b_MO_append 124 = .ok (.invokestatic 53, 3) := by decide +kernel
theorem d_MO_append_127 : decode b_MO_append 127 = .ok (.iload 7, 2) := by decide +kernel
theorem d_MO_append_129 : decode b_MO_append 129 = .ok (.invokestatic 53, 3) := by decide +kernel
theorem d_MO_append_132 : decode b_MO_append 132 = .ok (.isub, 1) := by decide +kernel
theorem d_MO_append_133 : decode b_MO_append 133 = .ok (.iload 9, 2) := by decide +kernel
theorem d_MO_append_135 : decode b_MO_append 135 = .ok (.ifCond .eq 7, 3) := by decide +kernel
theorem d_MO_append_138 : decode b_MO_append 138 = .ok (.iconst 1, 1) := by decide +kernel
theorem d_MO_append_139 : decode b_MO_append 139 = .ok (.goto 4, 3) := by decide +kernel
theorem d_MO_append_142 : decode b_MO_append 142 = .ok (.iconst 0, 1) := by decide +kernel
theorem d_MO_append_143 : decode b_MO_append 143 = .ok (.iadd, 1) := by decide +kernel
theorem d_MO_append_144 : decode b_MO_append 144 = .ok (.istore 10, 2) := by decide +kernel
theorem d_MO_append_146 : decode b_MO_append 146 = .ok (.iload 10, 2) := by decide +kernel
theorem d_MO_append_148 : decode b_MO_append 148 = .ok (.iload 6, 2) := by decide +kernel
theorem d_MO_append_150 : decode b_MO_append 150 = .ok (.if_icmp .gt 16, 3) := by decide +kernel
theorem d_MO_append_153 : decode b_MO_append 153 = .ok (.iload 7, 2) := by decide +kernel
theorem d_MO_append_155 : decode b_MO_append 155 = .ok (.iload_n 3, 1) := by decide +kernel
theorem d_MO_append_156 : decode b_MO_append 156 = .ok (.iadd, 1) := by decide +kernel
theorem d_MO_append_157 : decode b_MO_append 157 = .ok (.invokestatic 53, 3) := by decide +kernel
theorem d_MO_append_160 : decode b_MO_append 160 = .ok (.sipush 400, 3) := by decide +kernel
theorem d_MO_append_163 : decode b_MO_append 163 = .ok (.if_icmp .le 9, 3) := by decide +kernel
theorem d_MO_append_166 : decode b_MO_append 166 = .ok (.aload_n 0, 1) := by decide +kernel
theorem d_MO_append_167 : decode b_MO_append 167 = .ok (.iconst 2, 1) := by decide +kernel
theorem d_MO_append_168 : decode b_MO_append 168 = .ok (.invokevirtual 44, 3) := by decide +kernel
theorem d_MO_append_171 : decode b_MO_append 171 = .ok (.ireturn, 1) := by decide +kernel
theorem d_MO_append_172 : decode b_MO_append 172 = .ok (.aload_n 0, 1) := by decide +kernel
theorem d_MO_append_173 : decode b_MO_append 173 = .ok (.getfield 23, 3) := by decide +kernel
theorem d_MO_append_176 : decode b_MO_append 176 = .ok (.iload 5, 2) := by decide +kernel
theorem d_MO_append_178 : decode b_MO_append 178 = .ok (.iconst 1, 1) := by decide +kernel
theorem d_MO_append_179 : decode b_MO_append 179 = .ok (.bastore, 1) := by decide +kernel
theorem d_MO_append_180 : decode b_MO_append 180 = .ok (.iload 9, 2) := by decide +kernel
theorem d_MO_append_182 : decode b_MO_append 182 = .ok (.ifCond .eq 89, 3) := by decide +kernel
theorem d_MO_append_185 : decode b_MO_append 185 = .ok (.aload_n 0, 1) := by decide +kernel
theorem d_MO_append_186 : decode b_MO_append 186 = .ok (.invokevirtual 66, 3) := by decide +kernel
theorem d_MO_append_189 : decode b_MO_append 189 = .ok (.istore 11, 2) := by decide +kernel
theorem d_MO_append_191 : decode b_MO_append 191 = .ok (.iconst 0, 1) := by decide +kernel
theorem d_MO_append_192 : decode b_MO_append 192 = .ok (.istore 12, 2) := by decide +kernel
theorem d_MO_append_194 : decode b_MO_append 194 = .ok (.iload 12, 2) := by decide +kernel
theorem d_MO_append_196 : decode b_MO_append 196 = .ok (.bipush 8, 2) := by decide +kernel
theorem d_MO_append_198 : decode b_MO_append 198 = .ok (.if_icmp .ge 47, 3) := by decide +kernel
theorem d_MO_append_201 : decode b_MO_append 201 = .ok (.aload_n 0, 1) := by decide +kernel
theorem d_MO_append_202 : decode b_MO_append 202 = .ok (.getfield 13, 3) := by decide +kernel
theorem d_MO_append_205 : decode b_MO_append 205 = .ok (.bipush 8, 2) := by decide +kernel
theorem d_MO_append_207 : decode b_MO_append 207 = .ok (.iload 11, 2) := by decide +kernel
theorem d_MO_append_209 : decode b_MO_append 209 = .ok (.imul, 1) := by decide +kernel
theorem d_MO_append_210 : decode b_MO_append 210 = .ok (.iload 12, 2) := by decide +kernel
theorem d_MO_append_212 : decode b_MO_append 212 = .ok (.iadd, 1) := by decide +kernel
theorem d_MO_append_213 : decode b_MO_append 213 = .ok (.aload_n 0, 1) := by decide +kernel
theorem d_MO_append_214 : decode b_MO_append 214 = .ok (.getfield 13, 3) := by decide +kernel
theorem d_MO_append_217 : decode b_MO_append 217 = .ok (.bipush 8, 2) := by decide +kernel
theorem d_MO_append_219 : decode b_MO_append 219 = .ok (.aload_n 0, 1) := by decide +kernel
theorem d_MO_append_220 : decode b_MO_append 220 = .ok (.getfield 17, 3) := by decide +kernel
theorem d_MO_append_223 : decode b_MO_append 223 = .ok (.sipush 400, 3) := by decide +kernel
theorem d_MO_append_226 : decode b_MO_append 226 = .ok (.iload 5, 2) := by decide +kernel
theorem d_MO_append_228 : decode b_MO_append 228 = .ok (.imul, 1) := by decide +kernel
theorem d_MO_append_229 : decode b_MO_append 229 = .ok (.iload 8, 2) := by decide +kernel
theorem d_MO_append_231 : decode b_MO_append 231 = .ok (.iadd, 1) := by decide +kernel
theorem d_MO_append_232 : decode b_MO_append 232 = .ok (.iaload, 1) := by decide +kernel
theorem d_MO_append_233 : decode b_MO_append 233 = .ok (.imul, 1) := by decide +kernel
theorem d_MO_append_234 : decode b_MO_append 234 = .ok (.iload 12, 2) := by decide +kernel
theorem d_MO_append_236 : decode b_MO_append 236 = .ok (.iadd, 1) := by decide +kernel
theorem d_MO_append_237 : decode b_MO_append 237 = .ok (.laload, 1) := by decide +kernel
theorem d_MO_append_238 : decode b_MO_append 238 = .ok (.lastore, 1) := by decide +kernel
theorem d_MO_append_239 : decode b_MO_append 239 = .ok (.iinc 12 1, 3) := by decide +kernel
theorem d_MO_append_242 : decode b_MO_append 242 = .ok (.goto (-48), 3) := by decide +kernel
theorem d_MO_append_245 : decode b_MO_append 245 = .ok (.aload_n 0, 1) := by decide +kernel
theorem d_MO_append_246 : decode b_MO_append 246 = .ok (.getfield 17, 3) := by decide +kernel
theorem d_MO_append_249 : decode b_MO_append 249 = .ok (.sipush 400, 3) := by decide +kernel
theorem d_MO_append_252 : decode b_MO_append 252 = .ok (.iload 5, 2) := by decide +kernel
theorem d_MO_append_254 : decode b_MO_append 254 = .ok (.imul, 1) := by decide +kernel
theorem d_MO_append_255 : decode b_MO_append 255 = .ok (.iload 8, 2) := by decide +kernel
theorem d_MO_append_257 : decode b_MO_append 257 = .ok (.iadd, 1) := by decide +kernel
theorem d_MO_append_258 : decode b_MO_append 258 = .ok (.iload 11, 2) := by decide +kernel
theorem d_MO_append_260 : decode b_MO_append 260 = .ok (.iastore, 1) := by decide +kernel
theorem d_MO_append_261 : decode b_MO_append 261 = .ok (.aload_n 0, 1) := by decide +kernel
theorem d_MO_append_262 : decode b_MO_append 262 = .ok (.dup, 1) := by decide +kernel
theorem d_MO_append_263 : decode b_MO_append 263 = .ok (.getfield 69, 3) := by decide +kernel
theorem d_MO_append_266 : decode b_MO_append 266 = .ok (.iconst 1, 1) := by decide +kernel
theorem d_MO_append_267 : decode b_MO_append 267 = .ok (.iadd, 1) := by decide +kernel
theorem d_MO_append_268 : decode b_MO_append 268 = .ok (.putfield 69, 3) := by decide +kernel
theorem d_MO_append_271 : decode b_MO_append 271 = .ok (.iconst 0, 1) := by decide +kernel
theorem d_MO_append_272 : decode b_MO_append 272 = .ok (.istore 11, 2) := by decide +kernel
theorem d_MO_append_274 : decode b_MO_append 274 = .ok (.iload 11, 2) := by decide +kernel
theorem d_MO_append_276 : decode b_MO_append 276 = .ok (.iload_n 3, 1) := by decide +kernel
theorem d_MO_append_277 : decode b_MO_append 277 = .ok (.if_icmp .ge 81, 3) := by decide +kernel
theorem d_MO_append_280 : decode b_MO_append 280 = .ok (.iload 7, 2) := by decide +kernel
theorem d_MO_append_282 : decode b_MO_append 282 = .ok (.iload 11, 2) := by decide +kernel
theorem d_MO_append_284 : decode b_MO_append 284 = .ok (.iadd, 1) := by decide +kernel
theorem d_MO_append_285 : decode b_MO_append 285 = .ok (.istore 12, 2) := by decide +kernel
theorem d_MO_append_287 : decode b_MO_append 287 = .ok (.iload 12, 2) := by decide +kernel
theorem d_MO_append_289 : decode b_MO_append 289 = .ok (.bipush 64, 2) := by decide +kernel
theorem d_MO_append_291 : decode b_MO_append 291 = .ok (.irem, 1) := by decide +kernel
theorem d_MO_append_292 : decode b_MO_append 292 = .ok (.ifCond .ne 24, 3) := by decide +kernel
theorem d_MO_append_295 : decode b_MO_append 295 = .ok (.aload_n 0, 1) := by decide +kernel
theorem d_MO_append_296 : decode b_MO_append 296 = .ok (.getfield 17, 3) := by decide +kernel
theorem d_MO_append_299 : decode b_MO_append 299 = .ok (.sipush 400, 3) := by decide +kernel
theorem d_MO_append_302 : decode b_MO_append 302 = .ok (.iload 5, 2) := by decide +kernel
theorem d_MO_append_304 : decode b_MO_append 304 = .ok (.imul, 1) := by decide +kernel
theorem d_MO_append_305 : decode b_MO_append 305 = .ok (.iload 12, 2) := by decide +kernel
theorem d_MO_append_307 : decode b_MO_append 307 = .ok (.bipush 64, 2) := by decide +kernel
theorem d_MO_append_309 : decode b_MO_append 309 = .ok (.idiv, 1) := by decide +kernel
theorem d_MO_append_310 : decode b_MO_append 310 = .ok (.iadd, 1) := by decide +kernel
theorem d_MO_append_311 : decode b_MO_append 311 = .ok (.aload_n 0, 1) := by decide +kernel
theorem d_MO_append_312 : decode b_MO_append 312 = .ok (.invokevirtual 66, 3) := by decide +kernel
theorem d_MO_append_315 : decode b_MO_append 315 = .ok (.iastore, 1) := by decide +kernel
theorem d_MO_append_316 : decode b_MO_append 316 = .ok (.aload_n 0, 1) := by decide +kernel
theorem d_MO_append_317 : decode b_MO_append 317 = .ok (.aload_n 0, 1) := by decide +kernel
theorem d_MO_append_318 : decode b_MO_append 318 = .ok (.getfield 17, 3) := by decide +kernel
theorem d_MO_append_321 : decode b_MO_append 321 = .ok (.sipush 400, 3) := by decide +kernel
theorem d_MO_append_324 : decode b_MO_append 324 = .ok (.iload 5, 2) := by decide +kernel
theorem d_MO_append_326 : decode b_MO_append 326 = .ok (.imul, 1) := by decide +kernel
theorem d_MO_append_327 : decode b_MO_append 327 = .ok (.iload 12, 2) := by decide +kernel
theorem d_MO_append_329 : decode b_MO_append 329 = .ok (.bipush 64, 2) := by decide +kernel
theorem d_MO_append_331 : decode b_MO_append 331 = .ok (.idiv, 1) := by decide +kernel
theorem d_MO_append_332 : decode b_MO_append 332 = .ok (.iadd, 1) := by decide +kernel
theorem d_MO_append_333 : decode b_MO_append 333 = .ok (.iaload, 1) := by decide +kernel
theorem d_MO_append_334 : decode b_MO_append 334 = .ok (.iload 12, 2) := by decide +kernel
theorem d_MO_append_336 : decode b_MO_append 336 = .ok (.bipush 64, 2) := by decide +kernel
theorem d_MO_append_338 : decode b_MO_append 338 = .ok (.irem, 1) := by decide +kernel
theorem d_MO_append_339 : decode b_MO_append 339 = .ok (.aload_n 0, 1) := by decide +kernel
theorem d_MO_append_340 : decode b_MO_append 340 = .ok (.getfield 7, 3) := by decide +kernel
theorem d_MO_append_343 : decode b_MO_append 343 = .ok (.iload 11, 2) := by decide +kernel
theorem d_MO_append_345 : decode b_MO_append 345 = .ok (.iload 4, 2) := by decide +kernel
theorem d_MO_append_347 : decode b_MO_append 347 = .ok (.irem, 1) := by decide +kernel
theorem d_MO_append_348 : decode b_MO_append 348 = .ok (.iaload, 1) := by decide +kernel
theorem d_MO_append_349 : decode b_MO_append 349 = .ok (.invokevirtual 72, 3) := by decide +kernel
theorem d_MO_append_352 : decode b_MO_append 352 = .ok (.iinc 11 1, 3) := by decide +kernel
theorem d_MO_append_355 : decode b_MO_append 355 = .ok (.goto (-81), 3) := by decide +kernel
theorem d_MO_append_358 : decode b_MO_append 358 = .ok (.aload_n 0, 1) := by decide +kernel
theorem d_MO_append_359 : decode b_MO_append 359 = .ok (.getfield 20, 3) := by decide +kernel
theorem d_MO_append_362 : decode b_MO_append 362 = .ok (.iload 5, 2) := by decide +kernel
theorem d_MO_append_364 : decode b_MO_append 364 = .ok (.iload 7, 2) := by decide +kernel
theorem d_MO_append_366 : decode b_MO_append 366 = .ok (.iload_n 3, 1) := by decide +kernel
theorem d_MO_append_367 : decode b_MO_append 367 = .ok (.iadd, 1) := by decide +kernel
theorem d_MO_append_368 : decode b_MO_append 368 = .ok (.iastore, 1) := by decide +kernel
theorem d_MO_append_369 : decode b_MO_append 369 = .ok (.aload_n 0, 1) := by decide +kernel
theorem d_MO_append_370 : decode b_MO_append 370 = .ok (.getfield 20, 3) := by decide +kernel
theorem d_MO_append_373 : decode b_MO_append 373 = .ok (.iload 5, 2) := by decide +kernel
theorem d_MO_append_375 : decode b_MO_append 375 = .ok (.iaload, 1) := by decide +kernel
theorem d_MO_append_376 : decode b_MO_append 376 = .ok (.ireturn, 1) := by decide +kernel
theorem d_MO_shorten_0 : decode b_MO_shorten 0 = .ok (.aload_n 0, 1) := by decide +kernel
theorem d_MO_shorten_1 : decode b_MO_shorten 1 = .ok (.getfield 20, 3) := by decide +kernel
theorem d_MO_shorten_4 : decode b_MO_shorten 4 = .ok (.iconst 2, 1) := by decide +kernel
theorem d_MO_shorten_5 : decode b_MO_shorten 5 = .ok (.iload_n 1, 1) := by decide +kernel
theorem d_MO_shorten_6 : decode b_MO_shorten 6 = .ok (.imul, 1) := by decide +kernel
theorem d_MO_shorten_7 : decode b_MO_shorten 7 = .ok (.iload_n 2, 1) := by decide +kernel
theorem d_MO_shorten_8 : decode b_MO_shorten 8 = .ok (.iastore, 1) := by decide +kernel
theorem d_MO_shorten_9 : decode b_MO_shorten 9 = .ok (.aload_n 0, 1) := by decide +kernel
theorem d_MO_shorten_10 : decode b_MO_shorten 10 = .ok (.getfield 27, 3) := by decide +kernel
theorem d_MO_shorten_13 : decode b_MO_shorten 13 = .ok (.iload_n 1, 1) := by decide +kernel
theorem d_MO_shorten_14 : decode b_MO_shorten 14 = .ok (.aload_n 0, 1) := by decide +kernel
theorem d_MO_shorten_15 : decode b_MO_shorten 15 = .ok (.getfield 27, 3) := by decide +kernel
theorem d_MO_shorten_18 : decode b_MO_shorten 18 = .ok (.iload_n 1, 1) := by decide +kernel
theorem d_MO_shorten_19 : decode b_MO_shorten 19 = .ok (.iaload, 1) := by decide +kernel
theorem d_MO_shorten_20 : decode b_MO_shorten 20 = .ok (.iload_n 2, 1) := by decide +kernel
theorem d_MO_shorten_21 : decode b_MO_shorten 21 = .ok (.if_icmp .le 7, 3) := by decide +kernel
theorem d_MO_shorten_24 : decode b_MO_shorten 24 = .ok (.iload_n 2, 1) := by decide +kernel
theorem d_MO_shorten_25 : decode b_MO_shorten 25 = .ok (.goto 9, 3) := by decide +kernel
theorem d_MO_shorten_28 : decode b_MO_shorten 28 = .ok (.aload_n 0, 1) := by decide +kernel
theorem d_MO_shorten_29 : decode b_MO_shorten 29 = .ok (.getfield 27, 3) := by decide +kernel
theorem d_MO_shorten_32 : decode b_MO_shorten 32 = .ok (.iload_n 1, 1) := by decide +kernel
theorem d_MO_shorten_33 : decode b_MO_shorten 33 = .ok (.iaload, 1) := by decide +kernel
theorem d_MO_shorten_34 : decode b_MO_shorten 34 = .ok (.iastore, 1) := by decide +kernel
theorem d_MO_shorten_35 : decode b_MO_shorten 35 = .ok (.return_, 1) := by decide +kernel
theorem d_MO_cut_0 : decode b_MO_cut 0 = .ok (.aload_n 0, 1) := by decide +kernel
theorem d_MO_cut_1 : decode b_MO_cut 1 = .ok (.iconst 0, 1) := by decide +kernel
theorem d_MO_cut_2 : decode b_MO_cut 2 = .ok (.putfield 37, 3) := by decide +kernel
theorem d_MO_cut_5 : decode b_MO_cut 5 = .ok (.iload_n 1, 1) := by decide +kernel
theorem d_MO_cut_6 : decode b_MO_cut 6 = .ok (.invokestatic 58, 3) := by decide +kernel
theorem d_MO_cut_9 : decode b_MO_cut 9 = .ok (.ifCond .eq 9, 3) := by decide +kernel
theorem d_MO_cut_12 : decode b_MO_cut 12 = .ok (.aload_n 0, 1) := by decide +kernel
theorem d_MO_cut_13 : decode b_MO_cut 13 = .ok (.iconst 1, 1) := by decide +kernel
theorem d_MO_cut_14 : decode b_MO_cut 14 = .ok (.invokevirtual 44, 3) := by decide +kernel
theorem d_MO_cut_17 : decode b_MO_cut 17 = .ok (.ireturn, 1) := by decide +kernel
theorem d_MO_cut_18 : decode b_MO_cut 18 = .ok (.aload_n 0, 1) := by decide +kernel
theorem d_MO_cut_19 : decode b_MO_cut 19 = .ok (.getfield 23, 3) := by decide +kernel
theorem d_MO_cut_22 : decode b_MO_cut 22 = .ok (.iconst 2, 1) := by decide +kernel
theorem d_MO_cut_23 : decode b_MO_cut 23 = .ok (.iload_n 1, 1) := by decide +kernel
theorem d_MO_cut_24 : decode b_MO_cut 24 = .ok (.imul, 1) := by decide +kernel
theorem d_MO_cut_25 : decode b_MO_cut 25 = .ok (.baload, 1) := by decide +kernel
theorem d_MO_cut_26 : decode b_MO_cut 26 = .ok (.ifCond .ne 9, 3) := by decide +kernel
theorem d_MO_cut_29 : decode b_MO_cut 29 = .ok (.aload_n 0, 1) := by decide +kernel
theorem d_MO_cut_30 : decode b_MO_cut 30 = .ok (.iconst 2, 1) := by decide +kernel
theorem d_MO_cut_31 : decode b_MO_cut 31 = .ok (.invokevirtual 44, 3) := by decide +kernel
theorem d_MO_cut_34 : decode b_MO_cut 34 = .ok (.ireturn, 1) := by decide +kernel
theorem d_MO_cut_35 : decode b_MO_cut 35 = .ok (.aload_n 0, 1) := by decide +kernel
theorem d_MO_cut_36 : decode b_MO_cut 36 = .ok (.getfield 20, 3) := by decide +kernel
theorem d_MO_cut_39 : decode b_MO_cut 39 = .ok (.iconst 2, 1) := by decide +kernel
theorem d_MO_cut_40 : decode b_MO_cut 40 = .ok (.iload_n 1, 1) := by decide +kernel
theorem d_MO_cut_41 : decode b_MO_cut 41 = .ok (.imul, 1) := by decide +kernel
theorem d_MO_cut_42 : decode b_MO_cut 42 = .ok (.iaload, 1) := by decide +kernel
theorem d_MO_cut_43 : decode b_MO_cut 43 = .ok (.istore_n 3, 1) := by decide +kernel
theorem d_MO_cut_44 : decode b_MO_cut 44 = .ok (.iload_n 2, 1) := by decide +kernel
theorem d_MO_cut_45 : decode b_MO_cut 45 = .ok (.iconst 0, 1) := by decide +kernel
theorem d_MO_cut_46 : decode b_MO_cut 46 = .ok (.iload_n 3, 1) := by decide +kernel
theorem d_MO_cut_47 : decode b_MO_cut 47 = .ok (.invokestatic 40, 3) := by decide +kernel
theorem d_MO_cut_50 : decode b_MO_cut 50 = .ok (.ifCond .ne 9, 3) := by decide +kernel
theorem d_MO_cut_53 : decode b_MO_cut 53 = .ok (.aload_n 0, 1) := by decide +kernel
theorem d_MO_cut_54 : decode b_MO_cut 54 = .ok (.iconst 3, 1) := by decide +kernel
theorem d_MO_cut_55 : decode b_MO_cut 55 = .ok (.invokevirtual 44, 3) := by decide +kernel
theorem d_MO_cut_58 : decode b_MO_cut 58 = .ok (.ireturn, 1) := by decide +kernel
theorem d_MO_cut_59 : decode b_MO_cut 59 = .ok (.aload_n 0, 1) := by decide +kernel
theorem d_MO_cut_60 : decode b_MO_cut 60 = .ok (.iload_n 1, 1) := by decide +kernel
theorem d_MO_cut_61 : decode b_MO_cut 61 = .ok (.iload_n 2, 1) := by decide +kernel
theorem d_MO_cut_62 : decode b_MO_cut 62 = .ok (.invokevirtual 76, 3) := by decide +kernel
theorem d_MO_cut_65 : decode b_MO_cut 65 = .ok (.iload_n 3, 1) := by decide +kernel
theorem d_MO_cut_66 : decode b_MO_cut 66 = .ok (.ireturn, 1) := by decide +kernel
theorem d_MO_remove_0 : decode b_MO_remove 0 = .ok (.aload_n 0, 1) := by decide +kernel
theorem d_MO_remove_1 : decode b_MO_remove 1 = .ok (.iconst 0, 1) := by decide +kernel
theorem d_MO_remove_2 : decode b_MO_remove 2 = .ok (.putfield 37, 3) := by decide +kernel
theorem d_MO_remove_5 : decode b_MO_remove 5 = .ok (.iload_n 1, 1) := by decide +kernel
theorem d_MO_remove_6 : decode b_MO_remove 6 = .ok (.invokestatic 58, 3) := by decide +kernel
theorem d_MO_remove_9 : decode b_MO_remove 9 = .ok (.ifCond .eq 17, 3) := by decide +kernel
theorem d_MO_remove_12 : decode b_MO_remove 12 = .ok (.aload_n 0, 1) := by decide +kernel
theorem d_MO_remove_13 : decode b_MO_remove 13 = .ok (.iconst 1, 1) := by decide +kernel
theorem d_MO_remove_14 : decode b_MO_remove 14 = .ok (.invokevirtual 44, 3) := by decide +kernel
theorem d_MO_remove_17 : decode b_MO_remove 17 = .ok (.ifCond .le 7, 3) := by decide +kernel
theorem d_MO_remove_20 : decode b_MO_remove 20 = .ok (.iconst 1, 1) := by decide +kernel
theorem d_MO_remove_21 : decode b_MO_remove 21 = .ok (.goto 4, 3) := by decide +kernel
theorem d_MO_remove_24 : decode b_MO_remove 24 = .ok (.iconst 0, 1) := by decide +kernel
theorem d_MO_remove_25 : decode b_MO_remove 25 = .ok (.ireturn, 1) := by decide +kernel
theorem d_MO_remove_26 : decode b_MO_remove 26 = .ok (.aload_n 0, 1) := by decide +kernel
theorem d_MO_remove_27 : decode b_MO_remove 27 = .ok (.getfield 23, 3) := by decide +kernel
theorem d_MO_remove_30 : decode b_MO_remove 30 = .ok (.iconst 2, 1) := by decide +kernel
theorem d_MO_remove_31 : decode b_MO_remove 31 = .ok (.iload_n 1, 1) := by decide +kernel
theorem d_MO_remove_32 : decode b_MO_remove 32 = .ok (.imul, 1) := by decide +kernel
theorem d_MO_remove_33 : decode b_MO_remove 33 = .ok (.baload, 1) := by decide +kernel
theorem d_MO_remove_34 : decode b_MO_remove 34 = .ok (.istore_n 2, 1) := by decide +kernel
theorem d_MO_remove_35 : decode b_MO_remove 35 = .ok (.aload_n 0, 1) := by decide +kernel
theorem d_MO_remove_36 : decode b_MO_remove 36 = .ok (.iload_n 1, 1) := by decide +kernel
theorem d_MO_remove_37 : decode b_MO_remove 37 = .ok (.iconst 0, 1) := by decide +kernel
theorem d_MO_remove_38 : decode b_MO_remove 38 = .ok (.invokevirtual 76, 3) := by decide +kernel
theorem d_MO_remove_41 : decode b_MO_remove 41 = .ok (.aload_n 0, 1) := by decide +kernel
theorem d_MO_remove_42 : decode b_MO_remove 42 = .ok (.getfield 23, 3) := by decide +kernel
theorem d_MO_remove_45 : decode b_MO_remove 45 = .ok (.iconst 2, 1) := by decide +kernel
theorem d_MO_remove_46 : decode b_MO_remove 46 = .ok (.iload_n 1, 1) := by decide +kernel
theorem d_MO_remove_47 : decode b_MO_remove 47 = .ok (.imul, 1) := by decide +kernel
theorem d_MO_remove_48 : decode b_MO_remove 48 = .ok (.iconst 0, 1) := by decide +kernel
theorem d_MO_remove_49 : decode b_MO_remove 49 = .ok (.bastore, 1) := by decide +kernel
theorem d_MO_remove_50 : decode b_MO_remove 50 = .ok (.iload_n 2, 1) := by decide +kernel
theorem d_MO_remove_51 : decode b_MO_remove 51 = .ok (.ireturn, 1) := by decide +kernel
theorem d_MO_twin_0 : decode b_MO_twin 0 = .ok (.aload_n 0, 1) := by decide +kernel
theorem d_MO_twin_1 : decode b_MO_twin 1 = .ok (.iconst 0, 1) := by decide +kernel
theorem d_MO_twin_2 : decode b_MO_twin 2 = .ok (.putfield 37, 3) := by decide +kernel
theorem d_MO_twin_5 : decode b_MO_twin 5 = .ok (.iload_n 1, 1) := by decide +kernel
theorem d_MO_twin_6 : decode b_MO_twin 6 = .ok (.invokestatic 58, 3) := by decide +kernel
theorem d_MO_twin_9 : decode b_MO_twin 9 = .ok (.ifCond .ne 10, 3) := by decide +kernel
theorem d_MO_twin_12 : decode b_MO_twin 12 = .ok (.iload_n 2, 1) := by decide +kernel
theorem d_MO_twin_13 : decode b_MO_twin 13 = .ok (.invokestatic 58, 3) := by decide +kernel
theorem d_MO_twin_16 : decode b_MO_twin 16 = .ok (.ifCond .eq 9, 3) := by decide +kernel
theorem d_MO_twin_19 : decode b_MO_twin 19 = .ok (.aload_n 0, 1) := by decide +kernel
theorem d_MO_twin_20 : decode b_MO_twin 20 = .ok (.iconst 1, 1) := by decide +kernel
theorem d_MO_twin_21 : decode b_MO_twin 21 = .ok (.invokevirtual 44, 3) := by decide +kernel
theorem d_MO_twin_24 : decode b_MO_twin 24 = .ok (.ireturn, 1) := by decide +kernel
theorem d_MO_twin_25 : decode b_MO_twin 25 = .ok (.aload_n 0, 1) := by decide +kernel
theorem d_MO_twin_26 : decode b_MO_twin 26 = .ok (.getfield 23, 3) := by decide +kernel
theorem d_MO_twin_29 : decode b_MO_twin 29 = .ok (.iconst 2, 1) := by decide +kernel
theorem d_MO_twin_30 : decode b_MO_twin 30 = .ok (.iload_n 1, 1) := by decide +kernel
theorem d_MO_twin_31 : decode b_MO_twin 31 = .ok (.imul, 1) := by decide +kernel
theorem d_MO_twin_32 : decode b_MO_twin 32 = .ok (.baload, 1) := by decide +kernel
theorem d_MO_twin_33 : decode b_MO_twin 33 = .ok (.ifCond .ne 9, 3) := by decide +kernel
theorem d_MO_twin_36 : decode b_MO_twin 36 = .ok (.aload_n 0, 1) := by decide +kernel
theorem d_MO_twin_37 : decode b_MO_twin 37 = .ok (.iconst 2, 1) := by decide +kernel
theorem d_MO_twin_38 : decode b_MO_twin 38 = .ok (.invokevirtual 44, 3) := by decide +kernel
theorem d_MO_twin_41 : decode b_MO_twin 41 = .ok (.ireturn, 1) := by decide +kernel
theorem d_MO_twin_42 : decode b_MO_twin 42 = .ok (.iload_n 1, 1) := by decide +kernel
theorem d_MO_twin_43 : decode b_MO_twin 43 = .ok (.iload_n 2, 1) := by decide +kernel
theorem d_MO_twin_44 : decode b_MO_twin 44 = .ok (.if_icmp .eq 13, 3) := by decide +kernel
theorem d_MO_twin_47 : decode b_MO_twin 47 = .ok (.aload_n 0, 1) := by decide +kernel
theorem d_MO_twin_48 : decode b_MO_twin 48 = .ok (.iconst 2, 1) := by decide +kernel
theorem d_MO_twin_49 : decode b_MO_twin 49 = .ok (.iload_n 2, 1) := by decide +kernel
theorem d_MO_twin_50 : decode b_MO_twin 50 = .ok (.imul, 1) := by decide +kernel
theorem d_MO_twin_51 : decode b_MO_twin 51 = .ok (.iconst 2, 1) := by decide +kernel
theorem d_MO_twin_52 : decode b_MO_twin 52 = .ok (.iload_n 1, 1) := by decide +kernel
theorem d_MO_twin_53 : decode b_MO_twin 53 = .ok (.imul, 1) := by decide +kernel
theorem d_MO_twin_54 : decode b_MO_twin 54 = .ok (.invokevirtual 80, 3) := by decide +kernel
theorem d_MO_twin_57 : decode b_MO_twin 57 = .ok (.aload_n 0, 1) := by decide +kernel
theorem d_MO_twin_58 : decode b_MO_twin 58 = .ok (.getfield 27, 3) := by decide +kernel
theorem d_MO_twin_61 : decode b_MO_twin 61 = .ok (.iload_n 2, 1) := by decide +kernel
theorem d_MO_twin_62 : decode b_MO_twin 62 = .ok (.iconst 0, 1) := by decide +kernel
theorem d_MO_twin_63 : decode b_MO_twin 63 = .ok (.iastore, 1) := by decide +kernel
theorem d_MO_twin_64 : decode b_MO_twin 64 = .ok (.aload_n 0, 1) := by decide +kernel
theorem d_MO_twin_65 : decode b_MO_twin 65 = .ok (.getfield 20, 3) := by decide +kernel
theorem d_MO_twin_68 : decode b_MO_twin 68 = .ok (.iconst 2, 1) := by decide +kernel
theorem d_MO_twin_69 : decode b_MO_twin 69 = .ok (.iload_n 2, 1) := by decide +kernel
theorem d_MO_twin_70 : decode b_MO_twin 70 = .ok (.imul, 1) := by decide +kernel
theorem d_MO_twin_71 : decode b_MO_twin 71 = .ok (.iaload, 1) := by decide +kernel
theorem d_MO_twin_72 : decode b_MO_twin 72 = .ok (.ireturn, 1) := by decide +kernel
theorem d_MO_isIn_0 : decode b_MO_isIn 0 = .ok (.iconst 0, 1) := by decide +kernel
theorem d_MO_isIn_1 : decode b_MO_isIn 1 = .ok (.istore_n 3, 1) := by decide +kernel
theorem d_MO_isIn_2 : decode b_MO_isIn 2 = .ok (.iconst 0, 1) := by decide +kernel
theorem d_MO_isIn_3 : decode b_MO_isIn 3 = .ok (.istore 4, 2) := by decide +kernel
theorem d_MO_isIn_5 : decode b_MO_isIn 5 = .ok (.iload 4, 2) := by decide +kernel
theorem d_MO_isIn_7 : decode b_MO_isIn 7 = .ok (.aload_n 0, 1) := by decide +kernel
theorem d_MO_isIn_8 : decode b_MO_isIn 8 = .ok (.getfield 20, 3) := by decide +kernel
theorem d_MO_isIn_11 : decode b_MO_isIn 11 = .ok (.iload_n 1, 1) := by decide +kernel
theorem d_MO_isIn_12 : decode b_MO_isIn 12 = .ok (.iaload, 1) := by decide +kernel
theorem d_MO_isIn_13 : decode b_MO_isIn 13 = .ok (.invokestatic 53, 3) := by decide +kernel
theorem d_MO_isIn_16 : decode b_MO_isIn 16 = .ok (.if_icmp .ge 36, 3) := by decide +kernel
theorem d_MO_isIn_19 : decode b_MO_isIn 19 = .ok (.iload_n 3, 1) := by decide +kernel
theorem d_MO_isIn_20 : decode b_MO_isIn 20 = .ok (.ifCond .ne 20, 3) := by decide +kernel
theorem d_MO_isIn_23 : decode b_MO_isIn 23 = .ok (.aload_n 0, 1) := by decide +kernel
theorem d_MO_isIn_24 : decode b_MO_isIn 24 = .ok (.getfield 17, 3) := by decide +kernel
theorem d_MO_isIn_27 : decode b_MO_isIn 27 = .ok (.sipush 400, 3) := by decide +kernel
theorem d_MO_isIn_30 : decode b_MO_isIn 30 = .ok (.iload_n 1, 1) := by decide +kernel
theorem d_MO_isIn_31 : decode b_MO_isIn 31 = .ok (.imul, 1) := by decide +kernel
theorem d_MO_isIn_32 : decode b_MO_isIn 32 = .ok (.iload 4, 2) := by decide +kernel
theorem d_MO_isIn_34 : decode b_MO_isIn 34 = .ok (.iadd, 1) := by decide +kernel
theorem d_MO_isIn_35 : decode b_MO_isIn 35 = .ok (.iaload, 1) := by decide +kernel
theorem d_MO_isIn_36 : decode b_MO_isIn 36 = .ok (.iload_n 2, 1) := by decide +kernel
theorem d_MO_isIn_37 : decode b_MO_isIn 37 = .ok (.if_icmp .ne 7, 3) := by decide +kernel
theorem d_MO_isIn_40 : decode b_MO_isIn 40 = .ok (.iconst 1, 1) := by decide +kernel
theorem d_MO_isIn_41 : decode b_MO_isIn 41 = .ok (.goto 4, 3) := by decide +kernel
theorem d_MO_isIn_44 : decode b_MO_isIn 44 = .ok (.iconst 0, 1) := by decide +kernel
theorem d_MO_isIn_45 : decode b_MO_isIn 45 = .ok (.istore_n 3, 1) := by decide +kernel
theorem d_MO_isIn_46 : decode b_MO_isIn 46 = .ok (.iinc 4 1, 3) := by decide +kernel
theorem d_MO_isIn_49 : decode b_MO_isIn 49 = .ok (.goto (-44), 3) := by decide +kernel
theorem d_MO_isIn_52 : decode b_MO_isIn 52 = .ok (.iload_n 3, 1) := by decide +kernel
theorem d_MO_isIn_53 : decode b_MO_isIn 53 = .ok (.ireturn, 1) := by decide +kernel
theorem d_MO_settle_0 : decode b_MO_settle 0 = .ok (.aload_n 0, 1) := by decide +kernel
theorem d_MO_settle_1 : decode b_MO_settle 1 = .ok (.iconst 2, 1) := by decide +kernel
theorem d_MO_settle_2 : decode b_MO_settle 2 = .ok (.iload_n 1, 1) := by decide +kernel
theorem d_MO_settle_3 : decode b_MO_settle 3 = .ok (.imul, 1) := by decide +kernel
theorem d_MO_settle_4 : decode b_MO_settle 4 = .ok (.iconst 1, 1) := by decide +kernel
theorem d_MO_settle_5 : decode b_MO_settle 5 = .ok (.iadd, 1) := by decide +kernel
theorem d_MO_settle_6 : decode b_MO_settle 6 = .ok (.iconst 2, 1) := by decide +kernel
theorem d_MO_settle_7 : decode b_MO_settle 7 = .ok (.iload_n 1, 1) := by decide +kernel
theorem d_MO_settle_8 : decode b_MO_settle 8 = .ok (.imul, 1) := by decide +kernel
theorem d_MO_settle_9 : decode b_MO_settle 9 = .ok (.invokevirtual 80, 3) := by decide +kernel
theorem d_MO_settle_12 : decode b_MO_settle 12 = .ok (.aload_n 0, 1) := by decide +kernel
theorem d_MO_settle_13 : decode b_MO_settle 13 = .ok (.getfield 27, 3) := by decide +kernel
theorem d_MO_settle_16 : decode b_MO_settle 16 = .ok (.iload_n 1, 1) := by decide +kernel
theorem d_MO_settle_17 : decode b_MO_settle 17 = .ok (.aload_n 0, 1) := by decide +kernel
theorem d_MO_settle_18 : decode b_MO_settle 18 = .ok (.getfield 20, 3) := by decide +kernel
theorem d_MO_settle_21 : decode b_MO_settle 21 = .ok (.iconst 2, 1) := by decide +kernel
theorem d_MO_settle_22 : decode b_MO_settle 22 = .ok (.iload_n 1, 1) := by decide +kernel
theorem d_MO_settle_23 : decode b_MO_settle 23 = .ok (.imul, 1) := by decide +kernel
theorem d_MO_settle_24 : decode b_MO_settle 24 = .ok (.iaload, 1) := by decide +kernel
theorem d_MO_settle_25 : decode b_MO_settle 25 = .ok (.iastore, 1) := by decide +kernel
theorem d_MO_settle_26 : decode b_MO_settle 26 = .ok (.return_, 1) := by decide +kernel
theorem d_MO_sync_0 : decode b_MO_sync 0 = .ok (.aload_n 0, 1) := by decide +kernel
theorem d_MO_sync_1 : decode b_MO_sync 1 = .ok (.iconst 0, 1) := by decide +kernel
theorem d_MO_sync_2 : decode b_MO_sync 2 = .ok (.putfield 37, 3) := by decide +kernel
theorem d_MO_sync_5 : decode b_MO_sync 5 = .ok (.iload_n 1, 1) := by decide +kernel
theorem d_MO_sync_6 : decode b_MO_sync 6 = .ok (.invokestatic 58, 3) := by decide +kernel
theorem d_MO_sync_9 : decode b_MO_sync 9 = .ok (.ifCond .eq 9, 3) := by decide +kernel
theorem d_MO_sync_12 : decode b_MO_sync 12 = .ok (.aload_n 0, 1) := by decide +kernel
theorem d_MO_sync_13 : decode b_MO_sync 13 = .ok (.iconst 1, 1) := by decide +kernel
theorem d_MO_sync_14 : decode b_MO_sync 14 = .ok (.invokevirtual 44, 3) := by decide +kernel
theorem d_MO_sync_17 : decode b_MO_sync 17 = .ok (.ireturn, 1) := by decide +kernel
theorem d_MO_sync_18 : decode b_MO_sync 18 = .ok (.iconst 0, 1) := by decide +kernel
theorem d_MO_sync_19 : decode b_MO_sync 19 = .ok (.istore_n 2, 1) := by decide +kernel
theorem d_MO_sync_20 : decode b_MO_sync 20 = .ok (.iconst 0, 1) := by decide +kernel
theorem d_MO_sync_21 : decode b_MO_sync 21 = .ok (.istore_n 3, 1) := by decide +kernel
theorem d_MO_sync_22 : decode b_MO_sync 22 = .ok (.iload_n 3, 1) := by decide +kernel
theorem d_MO_sync_23 : decode b_MO_sync 23 = .ok (.aload_n 0, 1) := by decide +kernel
theorem d_MO_sync_24 : decode b_MO_sync 24 = .ok (.getfield 20, 3) := by decide +kernel
theorem d_MO_sync_27 : decode b_MO_sync 27 = .ok (.iconst 2, 1) := by decide +kernel
theorem d_MO_sync_28 : decode b_MO_sync 28 = .ok (.iload_n 1, 1) := by decide +kernel
theorem d_MO_sync_29 : decode b_MO_sync 29 = .ok (.imul, 1) := by decide +kernel
theorem d_MO_sync_30 : decode b_MO_sync 30 = .ok (.iaload, 1) := by decide +kernel
theorem d_MO_sync_31 : decode b_MO_sync 31 = .ok (.invokestatic 53, 3) := by decide +kernel
theorem d_MO_sync_34 : decode b_MO_sync 34 = .ok (.if_icmp .ge 41, 3) := by decide +kernel
theorem d_MO_sync_37 : decode b_MO_sync 37 = .ok (.iload_n 2, 1) := by decide +kernel
theorem d_MO_sync_38 : decode b_MO_sync 38 = .ok (.aload_n 0, 1) := by decide +kernel
theorem d_MO_sync_39 : decode b_MO_sync 39 = .ok (.iconst 2, 1) := by decide +kernel
theorem d_MO_sync_40 : decode b_MO_sync 40 = .ok (.iload_n 1, 1) := by decide +kernel
theorem d_MO_sync_41 : decode b_MO_sync 41 = .ok (.imul, 1) := by decide +kernel
theorem d_MO_sync_42 : decode b_MO_sync 42 = .ok (.iconst 1, 1) := by decide +kernel
theorem d_MO_sync_43 : decode b_MO_sync 43 = .ok (.iadd, 1) := by decide +kernel
theorem d_MO_sync_44 : decode b_MO_sync 44 = .ok (.aload_n 0, 1) := by decide +kernel
theorem d_MO_sync_45 : decode b_MO_sync 45 = .ok (.getfield 17, 3) := by decide +kernel
theorem d_MO_sync_48 : decode b_MO_sync 48 = .ok (.sipush 800, 3) := by decide +kernel
theorem d_MO_sync_51 : decode b_MO_sync 51 = .ok (.iload_n 1, 1) := by decide +kernel
theorem d_MO_sync_52 : decode b_MO_sync 52 = .ok (.imul, 1) := by decide +kernel
theorem d_MO_sync_53 : decode b_MO_sync 53 = .ok (.iload_n 3, 1) := by decide +kernel
theorem d_MO_sync_54 : decode b_MO_sync 54 = .ok (.iadd, 1) := by decide +kernel
theorem d_MO_sync_55 : decode b_MO_sync 55 = .ok (.iaload, 1) := by decide +kernel
theorem d_MO_sync_56 : decode b_MO_sync 56 = .ok (.invokevirtual 83, 3) := by decide +kernel
theorem d_MO_sync_59 : decode b_MO_sync 59 = .ok (.ifCond .eq 7, 3) := by decide +kernel
theorem d_MO_sync_62 : decode b_MO_sync 62 = .ok (.iconst 0, 1) := by decide +kernel
theorem d_MO_sync_63 : decode b_MO_sync 63 = .ok (.goto 4, 3) := by decide +kernel
theorem d_MO_sync_66 : decode b_MO_sync 66 = .ok (.iconst 1, 1) := by decide +kernel
theorem d_MO_sync_67 : decode b_MO_sync 67 = .ok (.iadd, 1) := by decide +kernel
theorem d_MO_sync_68 : decode b_MO_sync 68 = .ok (.istore_n 2, 1) := by decide +kernel
theorem d_MO_sync_69 : decode b_MO_sync 69 = .ok (.iinc 3 1, 3) := by decide +kernel
theorem d_MO_sync_72 : decode b_MO_sync 72 = .ok (.goto (-50), 3) := by decide +kernel
theorem d_MO_sync_75 : decode b_MO_sync 75 = .ok (.aload_n 0, 1) := by decide +kernel
theorem d_MO_sync_76 : decode b_MO_sync 76 = .ok (.iload_n 1, 1) := by decide +kernel
theorem d_MO_sync_77 : decode b_MO_sync 77 = .ok (.invokevirtual 87, 3) := by decide +kernel
theorem d_MO_sync_80 : decode b_MO_sync 80 = .ok (.iload_n 2, 1) := by decide +kernel
theorem d_MO_sync_81 : decode b_MO_sync 81 = .ok (.ireturn, 1) := by decide +kernel
theorem d_MO_breaks_0 : decode b_MO_breaks 0 = .ok (.iload_n 2, 1) := by decide +kernel
theorem d_MO_breaks_1 : decode b_MO_breaks 1 = .ok (.ifCond .ne 18, 3) := by decide +kernel
theorem d_MO_breaks_4 : decode b_MO_breaks 4 = .ok (.aload_n 0, 1) := by decide +kernel
theorem d_MO_breaks_5 : decode b_MO_breaks 5 = .ok (.iconst 2, 1) := by decide +kernel
theorem d_MO_breaks_6 : decode b_MO_breaks 6 = .ok (.iload_n 1, 1) := by decide +kernel
theorem d_MO_breaks_7 : decode b_MO_breaks 7 = .ok (.imul, 1) := by decide +kernel
theorem d_MO_breaks_8 : decode b_MO_breaks 8 = .ok (.iconst 2, 1) := by decide +kernel
theorem d_MO_breaks_9 : decode b_MO_breaks 9 = .ok (.iload_n 1, 1) := by decide +kernel
theorem d_MO_breaks_10 : decode b_MO_breaks 10 = .ok (.imul, 1) := by decide +kernel
theorem d_MO_breaks_11 : decode b_MO_breaks 11 = .ok (.iconst 1, 1) := by decide +kernel
theorem d_MO_breaks_12 : decode b_MO_breaks 12 = .ok (.iadd, 1) := by decide +kernel
theorem d_MO_breaks_13 : decode b_MO_breaks 13 = .ok (.invokevirtual 80, 3) := by decide +kernel
theorem d_MO_breaks_16 : decode b_MO_breaks 16 = .ok (.goto 46, 3) := by decide +kernel
theorem d_MO_breaks_19 : decode b_MO_breaks 19 = .ok (.aload_n 0, 1) := by decide +kernel
theorem d_MO_breaks_20 : decode b_MO_breaks 20 = .ok (.getfield 20, 3) := by decide +kernel
theorem d_MO_breaks_23 : decode b_MO_breaks 23 = .ok (.iconst 2, 1) := by decide +kernel
theorem d_MO_breaks_24 : decode b_MO_breaks 24 = .ok (.iload_n 1, 1) := by decide +kernel
theorem d_MO_breaks_25 : decode b_MO_breaks 25 = .ok (.imul, 1) := by decide +kernel
theorem d_MO_breaks_26 : decode b_MO_breaks 26 = .ok (.iaload, 1) := by decide +kernel
theorem d_MO_breaks_27 : decode b_MO_breaks 27 = .ok (.i2l, 1) := by decide +kernel
theorem d_MO_breaks_28 : decode b_MO_breaks 28 = .ok (.aload_n 0, 1) := by decide +kernel
theorem d_MO_breaks_29 : decode b_MO_breaks 29 = .ok (.getfield 27, 3) := by decide +kernel
theorem d_MO_breaks_32 : decode b_MO_breaks 32 = .ok (.iload_n 1, 1) := by decide +kernel
theorem d_MO_breaks_33 : decode b_MO_breaks 33 = .ok (.iaload, 1) := by decide +kernel
theorem d_MO_breaks_34 : decode b_MO_breaks 34 = .ok (.i2l, 1) := by decide +kernel
theorem d_MO_breaks_35 : decode b_MO_breaks 35 = .ok (.iload_n 2, 1) := by decide +kernel
theorem d_MO_breaks_36 : decode b_MO_breaks 36 = .ok (.i2l, 1) := by decide +kernel
theorem d_MO_breaks_37 : decode b_MO_breaks 37 = .ok (.lconst 1, 1) := by decide +kernel
theorem d_MO_breaks_38 : decode b_MO_breaks 38 = .ok (.lsub, 1) := by decide +kernel
theorem d_MO_breaks_39 : decode b_MO_breaks 39 = .ok (.ladd, 1) := by decide +kernel
theorem d_MO_breaks_40 : decode b_MO_breaks 40 = .ok (.lcmp, 1) := by decide +kernel
theorem d_MO_breaks_41 : decode b_MO_breaks 41 = .ok (.ifCond .le 21, 3) := by decide +kernel
theorem d_MO_breaks_44 : decode b_MO_breaks 44 = .ok (.aload_n 0, 1) := by decide +kernel
theorem d_MO_breaks_45 : decode b_MO_breaks 45 = .ok (.getfield 20, 3) := by decide +kernel
theorem d_MO_breaks_48 : decode b_MO_breaks 48 = .ok (.iconst 2, 1) := by decide +kernel
theorem d_MO_breaks_49 : decode b_MO_breaks 49 = .ok (.iload_n 1, 1) := by decide +kernel
theorem d_MO_breaks_50 : decode b_MO_breaks 50 = .ok (.imul, 1) := by decide +kernel
theorem d_MO_breaks_51 : decode b_MO_breaks 51 = .ok (.aload_n 0, 1) := by decide +kernel
theorem d_MO_breaks_52 : decode b_MO_breaks 52 = .ok (.getfield 27, 3) := by decide +kernel
theorem d_MO_breaks_55 : decode b_MO_breaks 55 = .ok (.iload_n 1, 1) := by decide +kernel
theorem d_MO_breaks_56 : decode b_MO_breaks 56 = .ok (.iaload, 1) := by decide +kernel
theorem d_MO_breaks_57 : decode b_MO_breaks 57 = .ok (.iload_n 2, 1) := by decide +kernel
theorem d_MO_breaks_58 : decode b_MO_breaks 58 = .ok (.iadd, 1) := by decide +kernel
theorem d_MO_breaks_59 : decode b_MO_breaks 59 = .ok (.iconst 1, 1) := by decide +kernel
theorem d_MO_breaks_60 : decode b_MO_breaks 60 = .ok (.isub, 1) := by decide +kernel
theorem d_MO_breaks_61 : decode b_MO_breaks 61 = .ok (.iastore, 1) := by decide +kernel
theorem d_MO_breaks_62 : decode b_MO_breaks 62 = .ok (.aload_n 0, 1) := by decide +kernel
theorem d_MO_breaks_63 : decode b_MO_breaks 63 = .ok (.iload_n 1, 1) := by decide +kernel
theorem d_MO_breaks_64 : decode b_MO_breaks 64 = .ok (.invokevirtual 87, 3) := by decide +kernel
theorem d_MO_breaks_67 : decode b_MO_breaks 67 = .ok (.return_, 1) := by decide +kernel
theorem d_MO_crash_0 : decode b_MO_crash 0 = .ok (.aload_n 0, 1) := by decide +kernel
theorem d_MO_crash_1 : decode b_MO_crash 1 = .ok (.iconst 0, 1) := by decide +kernel
theorem d_MO_crash_2 : decode b_MO_crash 2 = .ok (.putfield 37, 3) := by decide +kernel
theorem d_MO_crash_5 : decode b_MO_crash 5 = .ok (.iload_n 1, 1) := by decide +kernel
theorem d_MO_crash_6 : decode b_MO_crash 6 = .ok (.invokestatic 58, 3) := by decide +kernel
theorem d_MO_crash_9 : decode b_MO_crash 9 = .ok (.ifCond .eq 9, 3) := by decide +kernel
theorem d_MO_crash_12 : decode b_MO_crash 12 = .ok (.aload_n 0, 1) := by decide +kernel
theorem d_MO_crash_13 : decode b_MO_crash 13 = .ok (.iconst 1, 1) := by decide +kernel
theorem d_MO_crash_14 : decode b_MO_crash 14 = .ok (.invokevirtual 44, 3) := by decide +kernel
theorem d_MO_crash_17 : decode b_MO_crash 17 = .ok (.ireturn, 1) := by decide +kernel
theorem d_MO_crash_18 : decode b_MO_crash 18 = .ok (.iload_n 2, 1) := by decide +kernel
theorem d_MO_crash_19 : decode b_MO_crash 19 = .ok (.ifCond .ge 9, 3) := by decide +kernel
theorem d_MO_crash_22 : decode b_MO_crash 22 = .ok (.aload_n 0, 1) := by decide +kernel
theorem d_MO_crash_23 : decode b_MO_crash 23 = .ok (.iconst 2, 1) := by decide +kernel
theorem d_MO_crash_24 : decode b_MO_crash 24 = .ok (.invokevirtual 44, 3) := by decide +kernel
theorem d_MO_crash_27 : decode b_MO_crash 27 = .ok (.ireturn, 1) := by decide +kernel
theorem d_MO_crash_28 : decode b_MO_crash 28 = .ok (.aload_n 0, 1) := by decide +kernel
theorem d_MO_crash_29 : decode b_MO_crash 29 = .ok (.iload_n 1, 1) := by decide +kernel
theorem d_MO_crash_30 : decode b_MO_crash 30 = .ok (.iload_n 2, 1) := by decide +kernel
theorem d_MO_crash_31 : decode b_MO_crash 31 = .ok (.invokevirtual 91, 3) := by decide +kernel
theorem d_MO_crash_34 : decode b_MO_crash 34 = .ok (.aload_n 0, 1) := by decide +kernel
theorem d_MO_crash_35 : decode b_MO_crash 35 = .ok (.getfield 20, 3) := by decide +kernel
theorem d_MO_crash_38 : decode b_MO_crash 38 = .ok (.iconst 2, 1) := by decide +kernel
theorem d_MO_crash_39 : decode b_MO_crash 39 = .ok (.iload_n 1, 1) := by decide +kernel
theorem d_MO_crash_40 : decode b_MO_crash 40 = .ok (.imul, 1) := by decide +kernel
theorem d_MO_crash_41 : decode b_MO_crash 41 = .ok (.iaload, 1) := by decide +kernel
theorem d_MO_crash_42 : decode b_MO_crash 42 = .ok (.ireturn, 1) := by decide +kernel
theorem d_MO_present_0 : decode b_MO_present 0 = .ok (.iconst 0, 1) := by decide +kernel
theorem d_MO_present_1 : decode b_MO_present 1 = .ok (.istore_n 1, 1) := by decide +kernel
theorem d_MO_present_2 : decode b_MO_present 2 = .ok (.iconst 0, 1) := by decide +kernel
theorem d_MO_present_3 : decode b_MO_present 3 = .ok (.istore_n 2, 1) := by decide +kernel
theorem d_MO_present_4 : decode b_MO_present 4 = .ok (.iload_n 2, 1) := by decide +kernel
theorem d_MO_present_5 : decode b_MO_present 5 = .ok (.bipush 16, 2) := by decide +kernel
theorem d_MO_present_7 : decode b_MO_present 7 = .ok (.if_icmp .ge 28, 3) := by decide +kernel
theorem d_MO_present_10 : decode b_MO_present 10 = .ok (.iload_n 1, 1) := by decide +kernel
theorem d_MO_present_11 : decode b_MO_present 11 = .ok (.aload_n 0, 1) := by decide +kernel
theorem d_MO_present_12 : decode b_MO_present 12 = .ok (.getfield 23, 3) := by decide +kernel
theorem d_MO_present_15 : decode b_MO_present 15 = .ok (.iconst 2, 1) := by decide +kernel
theorem d_MO_present_16 : decode b_MO_present 16 = .ok (.iload_n 2, 1) := by decide +kernel
theorem d_MO_present_17 : decode b_MO_present 17 = .ok (.imul, 1) := by decide +kernel
theorem d_MO_present_18 : decode b_MO_present 18 = .ok (.baload, 1) := by decide +kernel
theorem d_MO_present_19 : decode b_MO_present 19 = .ok (.ifCond .eq 7, 3) := by decide +kernel
theorem d_MO_present_22 : decode b_MO_present 22 = .ok (.iconst 1, 1) := by decide +kernel
theorem d_MO_present_23 : decode b_MO_present 23 = .ok (.goto 4, 3) := by decide +kernel
theorem d_MO_present_26 : decode b_MO_present 26 = .ok (.iconst 0, 1) := by decide +kernel
theorem d_MO_present_27 : decode b_MO_present 27 = .ok (.iadd, 1) := by decide +kernel
theorem d_MO_present_28 : decode b_MO_present 28 = .ok (.istore_n 1, 1) := by decide +kernel
theorem d_MO_present_29 : decode b_MO_present 29 = .ok (.iinc 2 1, 3) := by decide +kernel
theorem d_MO_present_32 : decode b_MO_present 32 = .ok (.goto (-28), 3) := by decide +kernel
theorem d_MO_present_35 : decode b_MO_present 35 = .ok (.iload_n 1, 1) := by decide +kernel
theorem d_MO_present_36 : decode b_MO_present 36 = .ok (.ireturn, 1) := by decide +kernel
theorem d_MO_crashAll_0 : decode b_MO_crashAll 0 = .ok (.aload_n 0, 1) := by decide +kernel
theorem d_MO_crashAll_1 : decode b_MO_crashAll 1 = .ok (.iconst 0, 1) := by decide +kernel
theorem d_MO_crashAll_2 : decode b_MO_crashAll 2 = .ok (.putfield 37, 3) := by decide +kernel
theorem d_MO_crashAll_5 : decode b_MO_crashAll 5 = .ok (.lload_n 1, 1) := by decide +kernel
theorem d_MO_crashAll_6 : decode b_MO_crashAll 6 = .ok (.lstore_n 3, 1) := by decide +kernel
theorem d_MO_crashAll_7 : decode b_MO_crashAll 7 = .ok (.iconst 0, 1) := by decide +kernel
theorem d_MO_crashAll_8 : decode b_MO_crashAll 8 = .ok (.istore 5, 2) := by decide +kernel
theorem d_MO_crashAll_10 : decode b_MO_crashAll 10 = .ok (.iload 5, 2) := by decide +kernel
theorem d_MO_crashAll_12 : decode b_MO_crashAll 12 = .ok (.bipush 16, 2) := by decide +kernel
theorem d_MO_crashAll_14 : decode b_MO_crashAll 14 = .ok (.if_icmp .ge 82, 3) := by decide +kernel
theorem d_MO_crashAll_17 : decode b_MO_crashAll 17 = .ok (.lload_n 3, 1) := by decide +kernel
theorem d_MO_crashAll_18 : decode b_MO_crashAll 18 = .ok (.ldc2_w 94, 3) := by decide +kernel
theorem d_MO_crashAll_21 : decode b_MO_crashAll 21 = .ok (.lmul, 1) := by decide +kernel
theorem d_MO_crashAll_22 : decode b_MO_crashAll 22 = .ok (.ldc2_w 96, 3) := by decide +kernel
theorem d_MO_crashAll_25 : decode b_MO_crashAll 25 = .ok (.ladd, 1) := by decide +kernel
theorem d_MO_crashAll_26 : decode b_MO_crashAll 26 = .ok (.lstore_n 3, 1) := by decide +kernel
theorem d_MO_crashAll_27 : decode b_MO_crashAll 27 = .ok (.lload_n 3, 1) := by decide +kernel
theorem d_MO_crashAll_28 : decode b_MO_crashAll 28 = .ok (.bipush 33, 2) := by decide +kernel
theorem d_MO_crashAll_30 : decode b_MO_crashAll 30 = .ok (.lushr, 1) := by decide +kernel
theorem d_MO_crashAll_31 : decode b_MO_crashAll 31 = .ok (.ldc2_w 98, 3) := by decide +kernel
theorem d_MO_crashAll_34 : decode b_MO_crashAll 34 = .ok (.lrem, 1) := by decide +kernel
theorem d_MO_crashAll_35 : decode b_MO_crashAll 35 = .ok (.lstore 6, 2) := by decide +kernel
theorem d_MO_crashAll_37 : decode b_MO_crashAll 37 = .ok (.ldc2_w 100, 3) := by decide +kernel
theorem d_MO_crashAll_40 : decode b_MO_crashAll 40 = .ok (.aload_n 0, 1) := by decide +kernel
theorem d_MO_crashAll_41 : decode b_MO_crashAll 41 = .ok (.getfield 20, 3) := by decide +kernel
theorem d_MO_crashAll_44 : decode b_MO_crashAll 44 = .ok (.iconst 2, 1) := by decide +kernel
theorem d_MO_crashAll_45 : decode b_MO_crashAll 45 = .ok (.iload 5, 2) := by decide +kernel
theorem d_MO_crashAll_47 : decode b_MO_crashAll 47 = .ok (.imul, 1) := by decide +kernel
theorem d_MO_crashAll_48 : decode b_MO_crashAll 48 = .ok (.iaload, 1) := by decide +kernel
theorem d_MO_crashAll_49 : decode b_MO_crashAll 49 = .ok (.aload_n 0, 1) := by decide +kernel
theorem d_MO_crashAll_50 : decode b_MO_crashAll 50 = .ok (.getfield 27, 3) := by decide +kernel
theorem d_MO_crashAll_53 : decode b_MO_crashAll 53 = .ok (.iload 5, 2) := by decide +kernel
theorem d_MO_crashAll_55 : decode b_MO_crashAll 55 = .ok (.iaload, 1) := by decide +kernel
theorem d_MO_crashAll_56 : decode b_MO_crashAll 56 = .ok (.isub, 1) := by decide +kernel
theorem d_MO_crashAll_57 : decode b_MO_crashAll 57 = .ok (.i2l, 1) := by decide +kernel
theorem d_MO_crashAll_58 : decode b_MO_crashAll 58 = .ok (.lmul, 1) := by decide +kernel
theorem d_MO_crashAll_59 : decode b_MO_crashAll 59 = .ok (.lconst 1, 1) := by decide +kernel
theorem d_MO_crashAll_60 : decode b_MO_crashAll 60 = .ok (.ladd, 1) := by decide +kernel
theorem d_MO_crashAll_61 : decode b_MO_crashAll 61 = .ok (.lstore 8, 2) := by decide +kernel
theorem d_MO_crashAll_63 : decode b_MO_crashAll 63 = .ok (.aload_n 0, 1) := by decide +kernel
theorem d_MO_crashAll_64 : decode b_MO_crashAll 64 = .ok (.iload 5, 2) := by decide +kernel
theorem d_MO_crashAll_66 : decode b_MO_crashAll 66 = .ok (.lload_n 3, 1) := by decide +kernel
theorem d_MO_crashAll_67 : decode b_MO_crashAll 67 = .ok (.bipush 61, 2) := by decide +kernel
theorem d_MO_crashAll_69 : decode b_MO_crashAll 69 = .ok (.lushr, 1) := by decide +kernel
theorem d_MO_crashAll_70 : decode b_MO_crashAll 70 = .ok (.lconst 0, 1) := by decide +kernel
theorem d_MO_crashAll_71 : decode b_MO_crashAll 71 = .ok (.lcmp, 1) := by decide +kernel
theorem d_MO_crashAll_72 : decode b_MO_crashAll 72 = .ok (.ifCond .ne 7, 3) := by decide +kernel
theorem d_MO_crashAll_75 : decode b_MO_crashAll 75 = .ok (.iconst 0, 1) := by decide +kernel
theorem d_MO_crashAll_76 : decode b_MO_crashAll 76 = .ok (.goto 11, 3) := by decide +kernel
theorem d_MO_crashAll_79 : decode b_MO_crashAll 79 = .ok (.iconst 1, 1) := by decide +kernel
theorem d_MO_crashAll_80 : decode b_MO_crashAll 80 = .ok (.lload 6, 2) := by decide +kernel
theorem d_MO_crashAll_82 : decode b_MO_crashAll 82 = .ok (.lload 8, 2) := by decide +kernel
theorem d_MO_crashAll_84 : decode b_MO_crashAll 84 = .ok (.lrem, 1) := by decide +kernel
theorem d_MO_crashAll_85 : decode b_MO_crashAll 85 = .ok (.l2i, 1) := by decide +kernel
theorem d_MO_crashAll_86 : decode b_MO_crashAll 86 = .ok (.iadd, 1) := by decide +kernel
theorem d_MO_crashAll_87 : decode b_MO_crashAll 87 = .ok (.invokevirtual 91, 3) := by decide +kernel
theorem d_MO_crashAll_90 : decode b_MO_crashAll 90 = .ok (.iinc 5 1, 3) := by decide +kernel
theorem d_MO_crashAll_93 : decode b_MO_crashAll 93 = .ok (.goto (-83), 3) := by decide +kernel
theorem d_MO_crashAll_96 : decode b_MO_crashAll 96 = .ok (.aload_n 0, 1) := by decide +kernel
theorem d_MO_crashAll_97 : decode b_MO_crashAll 97 = .ok (.invokevirtual 102, 3) := by decide +kernel
theorem d_MO_crashAll_100 : decode b_MO_crashAll 100 = .ok (.ireturn, 1) := by decide +kernel
theorem d_MO_sharedPages_0 : decode b_MO_sharedPages 0 = .ok (.aload_n 0, 1) := by decide +kernel
theorem d_MO_sharedPages_1 : decode b_MO_sharedPages 1 = .ok (.invokevirtual 62, 3) := by decide +kernel
theorem d_MO_sharedPages_4 : decode b_MO_sharedPages 4 = .ok (.pop, 1) := by decide +kernel
theorem d_MO_sharedPages_5 : decode b_MO_sharedPages 5 = .ok (.iconst 0, 1) := by decide +kernel
theorem d_MO_sharedPages_6 : decode b_MO_sharedPages 6 = .ok (.istore_n 2, 1) := by decide +kernel
theorem d_MO_sharedPages_7 : decode b_MO_sharedPages 7 = .ok (.iconst 0, 1) := by decide +kernel
theorem d_MO_sharedPages_8 : decode b_MO_sharedPages 8 = .ok (.istore_n 3, 1) := by decide +kernel
theorem d_MO_sharedPages_9 : decode b_MO_sharedPages 9 = .ok (.iload_n 3, 1) := by decide +kernel
theorem d_MO_sharedPages_10 : decode b_MO_sharedPages 10 = .ok (.aload_n 0, 1) := by decide +kernel
theorem d_MO_sharedPages_11 : decode b_MO_sharedPages 11 = .ok (.getfield 20, 3) := by decide +kernel
theorem d_MO_sharedPages_14 : decode b_MO_sharedPages 14 = .ok (.iconst 2, 1) := by decide +kernel
theorem d_MO_sharedPages_15 : decode b_MO_sharedPages 15 = .ok (.iload_n 1, 1) := by decide +kernel
theorem d_MO_sharedPages_16 : decode b_MO_sharedPages 16 = .ok (.imul, 1) := by decide +kernel
theorem d_MO_sharedPages_17 : decode b_MO_sharedPages 17 = .ok (.iaload, 1) := by decide +kernel
theorem d_MO_sharedPages_18 : decode b_MO_sharedPages 18 = .ok (.invokestatic 53, 3) := by decide +kernel
theorem d_MO_sharedPages_21 : decode b_MO_sharedPages 21 = .ok (.if_icmp .ge 38, 3) := by decide +kernel
theorem d_MO_sharedPages_24 : decode b_MO_sharedPages 24 = .ok (.iload_n 2, 1) := by decide +kernel
theorem d_MO_sharedPages_25 : decode b_MO_sharedPages 25 = .ok (.aload_n 0, 1) := by decide +kernel
theorem d_MO_sharedPages_26 : decode b_MO_sharedPages 26 = .ok (.getfield 30, 3) := by decide +kernel
theorem d_MO_sharedPages_29 : decode b_MO_sharedPages 29 = .ok (.aload_n 0, 1) := by decide +kernel
theorem d_MO_sharedPages_30 : decode b_MO_sharedPages 30 = .ok (.getfield 17, 3) := by decide +kernel
theorem d_MO_sharedPages_33 : decode b_MO_sharedPages 33 = .ok (.sipush 800, 3) := by decide +kernel
theorem d_MO_sharedPages_36 : decode b_MO_sharedPages 36 = .ok (.iload_n 1, 1) := by decide +kernel
theorem d_MO_sharedPages_37 : decode b_MO_sharedPages 37 = .ok (.imul, 1) := by decide +kernel
theorem d_MO_sharedPages_38 : decode b_MO_sharedPages 38 = .ok (.iload_n 3, 1) := by decide +kernel
theorem d_MO_sharedPages_39 : decode b_MO_sharedPages 39 = .ok (.iadd, 1) := by decide +kernel
theorem d_MO_sharedPages_40 : decode b_MO_sharedPages 40 = .ok (.iaload, 1) := by decide +kernel
theorem d_MO_sharedPages_41 : decode b_MO_sharedPages 41 = .ok (.iaload, 1) := by decide +kernel
theorem d_MO_sharedPages_42 : decode b_MO_sharedPages 42 = .ok (.iconst 1, 1) := by decide +kernel
theorem d_MO_sharedPages_43 : decode b_MO_sharedPages 43 = .ok (.if_icmp .le 7, 3) := by decide +kernel
theorem d_MO_sharedPages_46 : decode b_MO_sharedPages 46 = .ok (.iconst 1, 1) := by decide +kernel
theorem d_MO_sharedPages_47 : decode b_MO_sharedPages 47 = .ok (.goto 4, 3) := by decide +kernel
theorem d_MO_sharedPages_50 : decode b_MO_sharedPages 50 = .ok (.iconst 0, 1) := by decide +kernel
theorem d_MO_sharedPages_51 : decode b_MO_sharedPages 51 = .ok (.iadd, 1) := by decide +kernel
theorem d_MO_sharedPages_52 : decode b_MO_sharedPages 52 = .ok (.istore_n 2, 1) := by decide +kernel
theorem d_MO_sharedPages_53 : decode b_MO_sharedPages 53 = .ok (.iinc 3 1, 3) := by decide +kernel
theorem d_MO_sharedPages_56 : decode b_MO_sharedPages 56 = .ok (.goto (-47), 3) := by decide +kernel
theorem d_MO_sharedPages_59 : decode b_MO_sharedPages 59 = .ok (.iload_n 2, 1) := by decide +kernel
theorem d_MO_sharedPages_60 : decode b_MO_sharedPages 60 = .ok (.ireturn, 1) := by decide +kernel
theorem d_MO_file_0 : decode b_MO_file 0 = .ok (.aload_n 0, 1) := by decide +kernel
theorem d_MO_file_1 : decode b_MO_file 1 = .ok (.iconst 0, 1) := by decide +kernel
theorem d_MO_file_2 : decode b_MO_file 2 = .ok (.putfield 37, 3) := by decide +kernel
theorem d_MO_file_5 : decode b_MO_file 5 = .ok (.iload_n 1, 1) := by decide +kernel
theorem d_MO_file_6 : decode b_MO_file 6 = .ok (.invokestatic 58, 3) := by decide +kernel
theorem d_MO_file_9 : decode b_MO_file 9 = .ok (.ifCond .ne 13, 3) := by decide +kernel
theorem d_MO_file_12 : decode b_MO_file 12 = .ok (.iload_n 2, 1) := by decide +kernel
theorem d_MO_file_13 : decode b_MO_file 13 = .ok (.iconst 0, 1) := by decide +kernel
theorem d_MO_file_14 : decode b_MO_file 14 = .ok (.bipush 7, 2) := by decide +kernel
theorem d_MO_file_16 : decode b_MO_file 16 = .ok (.invokestatic 40, 3) := by decide +kernel
theorem d_MO_file_19 : decode b_MO_file 19 = .ok (.ifCond .ne 9, 3) := by decide +kernel
theorem d_MO_file_22 : decode b_MO_file 22 = .ok (.aload_n 0, 1) := by decide +kernel
theorem d_MO_file_23 : decode b_MO_file 23 = .ok (.iconst 1, 1) := by decide +kernel
theorem d_MO_file_24 : decode b_MO_file 24 = .ok (.invokevirtual 44, 3) := by decide +kernel
theorem d_MO_file_27 : decode b_MO_file 27 = .ok (.ireturn, 1) := by decide +kernel
theorem d_MO_file_28 : decode b_MO_file 28 = .ok (.iload_n 2, 1) := by decide +kernel
theorem d_MO_file_29 : decode b_MO_file 29 = .ok (.iconst 2, 1) := by decide +kernel
theorem d_MO_file_30 : decode b_MO_file 30 = .ok (.if_icmp .ge 14, 3) := by decide +kernel
theorem d_MO_file_33 : decode b_MO_file 33 = .ok (.aload_n 0, 1) := by decide +kernel
theorem d_MO_file_34 : decode b_MO_file 34 = .ok (.getfield 20, 3) := by decide +kernel
theorem d_MO_file_37 : decode b_MO_file 37 = .ok (.iconst 2, 1) := by decide +kernel
theorem d_MO_file_38 : decode b_MO_file 38 = .ok (.iload_n 1, 1) := by decide +kernel
theorem d_MO_file_39 : decode b_MO_file 39 = .ok (.imul, 1) := by decide +kernel
theorem d_MO_file_40 : decode b_MO_file 40 = .ok (.iload_n 2, 1) := by decide +kernel
theorem d_MO_file_41 : decode b_MO_file 41 = .ok (.iadd, 1) := by decide +kernel
theorem d_MO_file_42 : decode b_MO_file 42 = .ok (.iaload, 1) := by decide +kernel
theorem d_MO_file_43 : decode b_MO_file 43 = .ok (.ireturn, 1) := by decide +kernel
theorem d_MO_file_44 : decode b_MO_file 44 = .ok (.iload_n 2, 1) := by decide +kernel
theorem d_MO_file_45 : decode b_MO_file 45 = .ok (.iconst 2, 1) := by decide +kernel
theorem d_MO_file_46 : decode b_MO_file 46 = .ok (.if_icmp .ne 10, 3) := by decide +kernel
theorem d_MO_file_49 : decode b_MO_file 49 = .ok (.aload_n 0, 1) := by decide +kernel
theorem d_MO_file_50 : decode b_MO_file 50 = .ok (.getfield 27, 3) := by decide +kernel
theorem d_MO_file_53 : decode b_MO_file 53 = .ok (.iload_n 1, 1) := by decide +kernel
theorem d_MO_file_54 : decode b_MO_file 54 = .ok (.iaload, 1) := by decide +kernel
theorem d_MO_file_55 : decode b_MO_file 55 = .ok (.ireturn, 1) := by decide +kernel
theorem d_MO_file_56 : decode b_MO_file 56 = .ok (.iload_n 2, 1) := by decide +kernel
theorem d_MO_file_57 : decode b_MO_file 57 = .ok (.iconst 5, 1) := by decide +kernel
theorem d_MO_file_58 : decode b_MO_file 58 = .ok (.if_icmp .ge 24, 3) := by decide +kernel
theorem d_MO_file_61 : decode b_MO_file 61 = .ok (.aload_n 0, 1) := by decide +kernel
theorem d_MO_file_62 : decode b_MO_file 62 = .ok (.getfield 23, 3) := by decide +kernel
theorem d_MO_file_65 : decode b_MO_file 65 = .ok (.iconst 2, 1) := by decide +kernel
theorem d_MO_file_66 : decode b_MO_file 66 = .ok (.iload_n 1, 1) := by decide +kernel
theorem d_MO_file_67 : decode b_MO_file 67 = .ok (.imul, 1) := by decide +kernel
theorem d_MO_file_68 : decode b_MO_file 68 = .ok (.iload_n 2, 1) := by decide +kernel
theorem d_MO_file_69 : decode b_MO_file 69 = .ok (.iadd, 1) := by decide +kernel
theorem d_MO_file_70 : decode b_MO_file 70 = .ok (.iconst 3, 1) := by decide +kernel
theorem d_MO_file_71 : decode b_MO_file 71 = .ok (.isub, 1) := by decide +kernel
theorem d_MO_file_72 : decode b_MO_file 72 = .ok (.baload, 1) := by decide +kernel
theorem d_MO_file_73 : decode b_MO_file 73 = .ok (.ifCond .eq 7, 3) := by decide +kernel
theorem d_MO_file_76 : decode b_MO_file 76 = .ok (.iconst 1, 1) := by decide +kernel
theorem d_MO_file_77 : decode b_MO_file 77 = .ok (.goto 4, 3) := by decide +kernel
theorem d_MO_file_80 : decode b_MO_file 80 = .ok (.iconst 0, 1) := by decide +kernel
theorem d_MO_file_81 : decode b_MO_file 81 = .ok (.ireturn, 1) := by decide +kernel
theorem d_MO_file_82 : decode b_MO_file 82 = .ok (.iload_n 2, 1) := by decide +kernel
theorem d_MO_file_83 : decode b_MO_file 83 = .ok (.bipush 7, 2) := by decide +kernel
theorem d_MO_file_85 : decode b_MO_file 85 = .ok (.if_icmp .ge 21, 3) := by decide +kernel
theorem d_MO_file_88 : decode b_MO_file 88 = .ok (.aload_n 0, 1) := by decide +kernel
theorem d_MO_file_89 : decode b_MO_file 89 = .ok (.getfield 20, 3) := by decide +kernel
theorem d_MO_file_92 : decode b_MO_file 92 = .ok (.iconst 2, 1) := by decide +kernel
theorem d_MO_file_93 : decode b_MO_file 93 = .ok (.iload_n 1, 1) := by decide +kernel
theorem d_MO_file_94 : decode b_MO_file 94 = .ok (.imul, 1) := by decide +kernel
theorem d_MO_file_95 : decode b_MO_file 95 = .ok (.iload_n 2, 1) := by decide +kernel
theorem d_MO_file_96 : decode b_MO_file 96 = .ok (.iadd, 1) := by decide +kernel
theorem d_MO_file_97 : decode b_MO_file 97 = .ok (.iconst 5, 1) := by decide +kernel
theorem d_MO_file_98 : decode b_MO_file 98 = .ok (.isub, 1) := by decide +kernel
theorem d_MO_file_99 : decode b_MO_file 99 = .ok (.iaload, 1) := by decide +kernel
theorem d_MO_file_100 : decode b_MO_file 100 = .ok (.invokestatic 53, 3) := by decide +kernel
theorem d_MO_file_103 : decode b_MO_file 103 = .ok (.goto 8, 3) := by decide +kernel
theorem d_MO_file_106 : decode b_MO_file 106 = .ok (.aload_n 0, 1) := by decide +kernel
theorem d_MO_file_107 : decode b_MO_file 107 = .ok (.iload_n 1, 1) := by decide +kernel
theorem d_MO_file_108 : decode b_MO_file 108 = .ok (.invokevirtual 105, 3) := by decide +kernel
theorem d_MO_file_111 : decode b_MO_file 111 = .ok (.ireturn, 1) := by decide +kernel
theorem d_MO_byteAt_0 : decode b_MO_byteAt 0 = .ok (.aload_n 0, 1) := by decide +kernel
theorem d_MO_byteAt_1 : decode b_MO_byteAt 1 = .ok (.iconst 0, 1) := by decide +kernel
theorem d_MO_byteAt_2 : decode b_MO_byteAt 2 = .ok (.putfield 37, 3) := by decide +kernel
theorem d_MO_byteAt_5 : decode b_MO_byteAt 5 = .ok (.iconst 2, 1) := by decide +kernel
theorem d_MO_byteAt_6 : decode b_MO_byteAt 6 = .ok (.iload_n 1, 1) := by decide +kernel
theorem d_MO_byteAt_7 : decode b_MO_byteAt 7 = .ok (.imul, 1) := by decide +kernel
theorem d_MO_byteAt_8 : decode b_MO_byteAt 8 = .ok (.iload_n 2, 1) := by decide +kernel
theorem d_MO_byteAt_9 : decode b_MO_byteAt 9 = .ok (.ifCond .eq 7, 3) := by decide +kernel
theorem d_MO_byteAt_12 : decode b_MO_byteAt 12 = .ok (.iconst 1, 1) := by decide +kernel
theorem d_MO_byteAt_13 : decode b_MO_byteAt 13 = .ok (.goto 4, 3) := by decide +kernel
theorem d_MO_byteAt_16 : decode b_MO_byteAt 16 = .ok (.iconst 0, 1) := by decide +kernel
theorem d_MO_byteAt_17 : decode b_MO_byteAt 17 = .ok (.iadd, 1) := by decide +kernel
theorem d_MO_byteAt_18 : decode b_MO_byteAt 18 = .ok (.istore 4, 2) := by decide +kernel
theorem d_MO_byteAt_20 : decode b_MO_byteAt 20 = .ok (.iload_n 1, 1) := by decide +kernel
theorem d_MO_byteAt_21 : decode b_MO_byteAt 21 = .ok (.invokestatic 58, 3) := by decide +kernel
theorem d_MO_byteAt_24 : decode b_MO_byteAt 24 = .ok (.ifCond .ne 20, 3) := by decide +kernel
theorem d_MO_byteAt_27 : decode b_MO_byteAt 27 = .ok (.iload_n 3, 1) := by decide +kernel
theorem d_MO_byteAt_28 : decode b_MO_byteAt 28 = .ok (.iconst 0, 1) := by decide +kernel
theorem d_MO_byteAt_29 : decode b_MO_byteAt 29 = .ok (.aload_n 0, 1) := by decide +kernel
theorem d_MO_byteAt_30 : decode b_MO_byteAt 30 = .ok (.getfield 20, 3) := by decide +kernel
theorem d_MO_byteAt_33 : decode b_MO_byteAt 33 = .ok (.iload 4, 2) := by decide +kernel
theorem d_MO_byteAt_35 : decode b_MO_byteAt 35 = .ok (.iaload, 1) := by decide +kernel
theorem d_MO_byteAt_36 : decode b_MO_byteAt 36 = .ok (.iconst 1, 1) := by decide +kernel
theorem d_MO_byteAt_37 : decode b_MO_byteAt 37 = .ok (.isub, 1) := by decide +kernel
theorem d_MO_byteAt_38 : decode b_MO_byteAt 38 = .ok (.invokestatic 40, 3) := by decide +kernel
theorem d_MO_byteAt_41 : decode b_MO_byteAt 41 = .ok (.ifCond .ne 11, 3) := by decide +kernel
theorem d_MO_byteAt_44 : decode b_MO_byteAt 44 = .ok (.aload_n 0, 1) := by decide +kernel
theorem d_MO_byteAt_45 : decode b_MO_byteAt 45 = .ok (.iconst 1, 1) := by decide +kernel
theorem d_MO_byteAt_46 : decode b_MO_byteAt 46 = .ok (.invokevirtual 44, 3) := by decide +kernel
theorem d_MO_byteAt_49 : decode b_MO_byteAt 49 = .ok (.goto 10, 3) := by decide +kernel
theorem d_MO_byteAt_52 : decode b_MO_byteAt 52 = .ok (.aload_n 0, 1) := by decide +kernel
theorem d_MO_byteAt_53 : decode b_MO_byteAt 53 = .ok (.iload 4, 2) := by decide +kernel
theorem d_MO_byteAt_55 : decode b_MO_byteAt 55 = .ok (.iload_n 3, 1) := by decide +kernel
theorem d_MO_byteAt_56 : decode b_MO_byteAt 56 = .ok (.invokevirtual 108, 3) := by decide +kernel
theorem d_MO_byteAt_59 : decode b_MO_byteAt 59 = .ok (.ireturn, 1) := by decide +kernel
theorem d_MO_count_0 : decode b_MO_count 0 = .ok (.aload_n 0, 1) := by decide +kernel
theorem d_MO_count_1 : decode b_MO_count 1 = .ok (.iconst 0, 1) := by decide +kernel
theorem d_MO_count_2 : decode b_MO_count 2 = .ok (.putfield 37, 3) := by decide +kernel
theorem d_MO_count_5 : decode b_MO_count 5 = .ok (.iload_n 1, 1) := by decide +kernel
theorem d_MO_count_6 : decode b_MO_count 6 = .ok (.ifCond .lt 8, 3) := by decide +kernel
theorem d_MO_count_9 : decode b_MO_count 9 = .ok (.iload_n 1, 1) := by decide +kernel
theorem d_MO_count_10 : decode b_MO_count 10 = .ok (.iconst 4, 1) := by decide +kernel
theorem d_MO_count_11 : decode b_MO_count 11 = .ok (.if_icmp .le 5, 3) := by decide +kernel
theorem d_MO_count_14 : decode b_MO_count 14 = .ok (.iconst (-1), 1) := by decide +kernel
theorem d_MO_count_15 : decode b_MO_count 15 = .ok (.ireturn, 1) := by decide +kernel
theorem d_MO_count_16 : decode b_MO_count 16 = .ok (.iload_n 1, 1) := by decide +kernel
theorem d_MO_count_17 : decode b_MO_count 17 = .ok (.iconst 2, 1) := by decide +kernel
theorem d_MO_count_18 : decode b_MO_count 18 = .ok (.if_icmp .ge 19, 3) := by decide +kernel
theorem d_MO_count_21 : decode b_MO_count 21 = .ok (.iload_n 1, 1) := by decide +kernel
theorem d_MO_count_22 : decode b_MO_count 22 = .ok (.ifCond .ne 10, 3) := by decide +kernel
theorem d_MO_count_25 : decode b_MO_count 25 = .ok (.aload_n 0, 1) := by decide +kernel
theorem d_MO_count_26 : decode b_MO_count 26 = .ok (.invokevirtual 62, 3) := by decide +kernel
theorem d_MO_count_29 : decode b_MO_count 29 = .ok (.goto 7, 3) := by decide +kernel
theorem d_MO_count_32 : decode b_MO_count 32 = .ok (.aload_n 0, 1) := by decide +kernel
theorem d_MO_count_33 : decode b_MO_count 33 = .ok (.getfield 33, 3) := by decide +kernel
theorem d_MO_count_36 : decode b_MO_count 36 = .ok (.ireturn, 1) := by decide +kernel
theorem d_MO_count_37 : decode b_MO_count 37 = .ok (.iload_n 1, 1) := by decide +kernel
theorem d_MO_count_38 : decode b_MO_count 38 = .ok (.iconst 2, 1) := by decide +kernel
theorem d_MO_count_39 : decode b_MO_count 39 = .ok (.if_icmp .ne 10, 3) := by decide +kernel
theorem d_MO_count_42 : decode b_MO_count 42 = .ok (.aload_n 0, 1) := by decide +kernel
theorem d_MO_count_43 : decode b_MO_count 43 = .ok (.getfield 69, 3) := by decide +kernel
theorem d_MO_count_46 : decode b_MO_count 46 = .ok (.goto 19, 3) := by decide +kernel
theorem d_MO_count_49 : decode b_MO_count 49 = .ok (.iload_n 1, 1) := by decide +kernel
theorem d_MO_count_50 : decode b_MO_count 50 = .ok (.iconst 3, 1) := by decide +kernel
theorem d_MO_count_51 : decode b_MO_count 51 = .ok (.if_icmp .ne 10, 3) := by decide +kernel
theorem d_MO_count_54 : decode b_MO_count 54 = .ok (.aload_n 0, 1) := by decide +kernel
theorem d_MO_count_55 : decode b_MO_count 55 = .ok (.getfield 48, 3) := by decide +kernel
theorem d_MO_count_58 : decode b_MO_count 58 = .ok (.goto 7, 3) := by decide +kernel
theorem d_MO_count_61 : decode b_MO_count 61 = .ok (.aload_n 0, 1) := by decide +kernel
theorem d_MO_count_62 : decode b_MO_count 62 = .ok (.invokevirtual 102, 3) := by decide +kernel
theorem d_MO_count_65 : decode b_MO_count 65 = .ok (.ireturn, 1) := by decide +kernel
