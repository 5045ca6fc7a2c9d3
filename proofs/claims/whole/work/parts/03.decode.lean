theorem d_PD_init_0 : decode b_PD_init 0 = .ok (.aload_n 0, 1) := by decide +kernel
theorem d_PD_init_1 : decode b_PD_init 1 = .ok (.invokespecial 1, 3) := by decide +kernel
theorem d_PD_init_4 : decode b_PD_init 4 = .ok (.aload_n 0, 1) := by decide +kernel
theorem d_PD_init_5 : decode b_PD_init 5 = .ok (.new 7, 3) := by decide +kernel
theorem d_PD_init_8 : decode b_PD_init 8 = .ok (.dup, 1) := by decide +kernel
theorem d_PD_init_9 : decode b_PD_init 9 = .ok (.iconst 4, 1) := by decide +kernel
theorem d_PD_init_10 : decode b_PD_init 10 = .ok (.sipush 1024, 3) := by decide +kernel
theorem d_PD_init_13 : decode b_PD_init 13 = .ok (.iload_n 1, 1) := by decide +kernel
theorem d_PD_init_14 : decode b_PD_init 14 = .ok (.invokestatic 11, 3) := by decide +kernel
theorem d_PD_init_17 : decode b_PD_init 17 = .ok (.invokestatic 17, 3) := by decide +kernel
theorem d_PD_init_20 : decode b_PD_init 20 = .ok (.invokespecial 20, 3) := by decide +kernel
theorem d_PD_init_23 : decode b_PD_init 23 = .ok (.putfield 23, 3) := by decide +kernel
theorem d_PD_init_26 : decode b_PD_init 26 = .ok (.aload_n 0, 1) := by decide +kernel
theorem d_PD_init_27 : decode b_PD_init 27 = .ok (.bipush 16, 2) := by decide +kernel
theorem d_PD_init_29 : decode b_PD_init 29 = .ok (.anewarray 27, 3) := by decide +kernel
theorem d_PD_init_32 : decode b_PD_init 32 = .ok (.putfield 29, 3) := by decide +kernel
theorem d_PD_init_35 : decode b_PD_init 35 = .ok (.iconst 0, 1) := by decide +kernel
theorem d_PD_init_36 : decode b_PD_init 36 = .ok (.istore_n 2, 1) := by decide +kernel
theorem d_PD_init_37 : decode b_PD_init 37 = .ok (.iload_n 2, 1) := by decide +kernel
theorem d_PD_init_38 : decode b_PD_init 38 = .ok (.bipush 16, 2) := by decide +kernel
theorem d_PD_init_40 : decode b_PD_init 40 = .ok (.if_icmp .ge 22, 3) := by decide +kernel
theorem d_PD_init_43 : decode b_PD_init 43 = .ok (.aload_n 0, 1) := by decide +kernel
theorem d_PD_init_44 : decode b_PD_init 44 = .ok (.getfield 29, 3) := by decide +kernel
theorem d_PD_init_47 : decode b_PD_init 47 = .ok (.iload_n 2, 1) := by decide +kernel
theorem d_PD_init_48 : decode b_PD_init 48 = .ok (.new 27, 3) := by decide +kernel
theorem d_PD_init_51 : decode b_PD_init 51 = .ok (.dup, 1) := by decide +kernel
theorem d_PD_init_52 : decode b_PD_init 52 = .ok (.invokespecial 33, 3) := by decide +kernel
theorem d_PD_init_55 : decode b_PD_init 55 = .ok (.aastore, 1) := by decide +kernel
theorem d_PD_init_56 : decode b_PD_init 56 = .ok (.iinc 2 1, 3) := by decide +kernel
theorem d_PD_init_59 : decode b_PD_init 59 = .ok (.goto (-22), 3) := by decide +kernel
theorem d_PD_init_62 : decode b_PD_init 62 = .ok (.aload_n 0, 1) := by decide +kernel
theorem d_PD_init_63 : decode b_PD_init 63 = .ok (.sipush 4096, 3) := by decide +kernel
theorem d_PD_init_66 : decode b_PD_init 66 = .ok (.newarray .byte, 2) := by decide +kernel
theorem d_PD_init_68 : decode b_PD_init 68 = .ok (.putfield 34, 3) := by decide +kernel
theorem d_PD_init_71 : decode b_PD_init 71 = .ok (.aload_n 0, 1) := by decide +kernel
theorem d_PD_init_72 : decode b_PD_init 72 = .ok (.iconst 0, 1) := by decide +kernel
theorem d_PD_init_73 : decode b_PD_init 73 = .ok (.putfield 38, 3) := by decide +kernel
theorem d_PD_init_76 : decode b_PD_init 76 = .ok (.return_, 1) := by decide +kernel
theorem d_PD_feed_0 : decode b_PD_feed 0 = .ok (.iload_n 3, 1) := by decide +kernel
theorem d_PD_feed_1 : decode b_PD_feed 1 = .ok (.iconst 1, 1) := by decide +kernel
theorem d_PD_feed_2 : decode b_PD_feed 2 = .ok (.if_icmp .lt 9, 3) := by decide +kernel
theorem d_PD_feed_5 : decode b_PD_feed 5 = .ok (.iload_n 3, 1) := by decide +kernel
theorem d_PD_feed_6 : decode b_PD_feed 6 = .ok (.bipush 8, 2) := by decide +kernel
theorem d_PD_feed_8 : decode b_PD_feed 8 = .ok (.if_icmp .le 13, 3) := by decide +kernel
theorem d_PD_feed_11 : decode b_PD_feed 11 = .ok (.new 42, 3) := by decide +kernel
theorem d_PD_feed_14 : decode b_PD_feed 14 = .ok (.dup, 1) := by decide +kernel
theorem d_PD_feed_15 : decode b_PD_feed 15 = .ok (.ldc 44, 2) := by decide +kernel
theorem d_PD_feed_17 : decode b_PD_feed 17 = .ok (.invokespecial 46, 3) := by decide +kernel
theorem d_PD_feed_20 : decode b_PD_feed 20 = .ok (.athrow, 1) := by decide +kernel
theorem d_PD_feed_21 : decode b_PD_feed 21 = .ok (.aload_n 0, 1) := by decide +kernel
theorem d_PD_feed_22 : decode b_PD_feed 22 = .ok (.getfield 38, 3) := by decide +kernel
theorem d_PD_feed_25 : decode b_PD_feed 25 = .ok (.iload_n 3, 1) := by decide +kernel
theorem d_PD_feed_26 : decode b_PD_feed 26 = .ok (.iadd, 1) := by decide +kernel
theorem d_PD_feed_27 : decode b_PD_feed 27 = .ok (.sipush 4096, 3) := by decide +kernel
theorem d_PD_feed_30 : decode b_PD_feed 30 = .ok (.if_icmp .le 13, 3) := by decide +kernel
theorem d_PD_feed_33 : decode b_PD_feed 33 = .ok (.new 49, 3) := by decide +kernel
theorem d_PD_feed_36 : decode b_PD_feed 36 = .ok (.dup, 1) := by decide +kernel
theorem d_PD_feed_37 : decode b_PD_feed 37 = .ok (.ldc 51, 2) := by decide +kernel
theorem d_PD_feed_39 : decode b_PD_feed 39 = .ok (.invokespecial 53, 3) := by decide +kernel
theorem d_PD_feed_42 : decode b_PD_feed 42 = .ok (.athrow, 1) := by decide +kernel
theorem d_PD_feed_43 : decode b_PD_feed 43 = .ok (.iconst 0, 1) := by decide +kernel
theorem d_PD_feed_44 : decode b_PD_feed 44 = .ok (.istore 4, 2) := by decide +kernel
theorem d_PD_feed_46 : decode b_PD_feed 46 = .ok (.iload 4, 2) := by decide +kernel
theorem d_PD_feed_48 : decode b_PD_feed 48 = .ok (.iload_n 3, 1) := by decide +kernel
theorem d_PD_feed_49 : decode b_PD_feed 49 = .ok (.if_icmp .ge 30, 3) := by decide +kernel
theorem d_PD_feed_52 : decode b_PD_feed 52 = .ok (.aload_n 0, 1) := by decide +kernel
theorem d_PD_feed_53 : decode b_PD_feed 53 = .ok (.getfield 34, 3) := by decide +kernel
theorem d_PD_feed_56 : decode b_PD_feed 56 = .ok (.aload_n 0, 1) := by decide +kernel
theorem d_PD_feed_57 : decode b_PD_feed 57 = .ok (.getfield 38, 3) := by decide +kernel
theorem d_PD_feed_60 : decode b_PD_feed 60 = .ok (.iload 4, 2) := by decide +kernel
theorem d_PD_feed_62 : decode b_PD_feed 62 = .ok (.iadd, 1) := by decide +kernel
theorem d_PD_feed_63 : decode b_PD_feed 63 = .ok (.lload_n 1, 1) := by decide +kernel
theorem d_PD_feed_64 : decode b_PD_feed 64 = .ok (.bipush 8, 2) := by decide +kernel
theorem d_PD_feed_66 : decode b_PD_feed 66 = .ok (.iload 4, 2) := by decide +kernel
theorem d_PD_feed_68 : decode b_PD_feed 68 = .ok (.imul, 1) := by decide +kernel
theorem d_PD_feed_69 : decode b_PD_feed 69 = .ok (.lushr, 1) := by decide +kernel
theorem d_PD_feed_70 : decode b_PD_feed 70 = .ok (.l2i, 1) := by decide +kernel
theorem d_PD_feed_71 : decode b_PD_feed 71 = .ok (.i2b, 1) := by decide +kernel
theorem d_PD_feed_72 : decode b_PD_feed 72 = .ok (.bastore, 1) := by decide +kernel
theorem d_PD_feed_73 : decode b_PD_feed 73 = .ok (.iinc 4 1, 3) := by decide +kernel
theorem d_PD_feed_76 : decode b_PD_feed 76 = .ok (.goto (-30), 3) := by decide +kernel
theorem d_PD_feed_79 : decode b_PD_feed 79 = .ok (.aload_n 0, 1) := by decide +kernel
theorem d_PD_feed_80 : decode b_PD_feed 80 = .ok (.dup, 1) := by decide +kernel
theorem d_PD_feed_81 : decode b_PD_feed 81 = .ok (.getfield 38, 3) := by decide +kernel
theorem d_PD_feed_84 : decode b_PD_feed 84 = .ok (.iload_n 3, 1) := by decide +kernel
theorem d_PD_feed_85 : decode b_PD_feed 85 = .ok (.iadd, 1) := by decide +kernel
theorem d_PD_feed_86 : decode b_PD_feed 86 = .ok (.putfield 38, 3) := by decide +kernel
theorem d_PD_feed_89 : decode b_PD_feed 89 = .ok (.aload_n 0, 1) := by decide +kernel
theorem d_PD_feed_90 : decode b_PD_feed 90 = .ok (.getfield 38, 3) := by decide +kernel
theorem d_PD_feed_93 : decode b_PD_feed 93 = .ok (.ireturn, 1) := by decide +kernel
theorem d_PD_append_0 : decode b_PD_append 0 = .ok (.iload_n 1, 1) := by decide +kernel
theorem d_PD_append_1 : decode b_PD_append 1 = .ok (.invokestatic 54, 3) := by decide +kernel
theorem d_PD_append_4 : decode b_PD_append 4 = .ok (.ifCond .eq 14, 3) := by decide +kernel
theorem d_PD_append_7 : decode b_PD_append 7 = .ok (.iload_n 2, 1) := by decide +kernel
theorem d_PD_append_8 : decode b_PD_append 8 = .ok (.iconst 1, 1) := by decide +kernel
theorem d_PD_append_9 : decode b_PD_append 9 = .ok (.if_icmp .lt 9, 3) := by decide +kernel
theorem d_PD_append_12 : decode b_PD_append 12 = .ok (.iload_n 2, 1) := by decide +kernel
theorem d_PD_append_13 : decode b_PD_append 13 = .ok (.bipush 16, 2) := by decide +kernel
theorem d_PD_append_15 : decode b_PD_append 15 = .ok (.if_icmp .le 13, 3) := by decide +kernel
theorem d_PD_append_18 : decode b_PD_append 18 = .ok (.new 58, 3) := by decide +kernel
theorem d_PD_append_21 : decode b_PD_append 21 = .ok (.dup, 1) := by decide +kernel
theorem d_PD_append_22 : decode b_PD_append 22 = .ok (.ldc 60, 2) := by decide +kernel
theorem d_PD_append_24 : decode b_PD_append 24 = .ok (.invokespecial 62, 3) := by decide +kernel
theorem d_PD_append_27 : decode b_PD_append 27 = .ok (.athrow, 1) := by decide +kernel
theorem d_PD_append_28 : decode b_PD_append 28 = .ok (.aload_n 0, 1) := by decide +kernel
theorem d_PD_append_29 : decode b_PD_append 29 = .ok (.getfield 38, 3) := by decide +kernel
theorem d_PD_append_32 : decode b_PD_append 32 = .ok (.istore_n 3, 1) := by decide +kernel
theorem d_PD_append_33 : decode b_PD_append 33 = .ok (.aload_n 0, 1) := by decide +kernel
theorem d_PD_append_34 : decode b_PD_append 34 = .ok (.iconst 0, 1) := by decide +kernel
theorem d_PD_append_35 : decode b_PD_append 35 = .ok (.putfield 38, 3) := by decide +kernel
theorem d_PD_append_38 : decode b_PD_append 38 = .ok (.aload_n 0, 1) := by decide +kernel
theorem d_PD_append_39 : decode b_PD_append 39 = .ok (.getfield 29, 3) := by decide +kernel
theorem d_PD_append_42 : decode b_PD_append 42 = .ok (.iload_n 1, 1) := by decide +kernel
theorem d_PD_append_43 : decode b_PD_append 43 = .ok (.aaload, 1) := by decide +kernel
theorem d_PD_append_44 : decode b_PD_append 44 = .ok (.getfield 63, 3) := by decide +kernel
theorem d_PD_append_47 : decode b_PD_append 47 = .ok (.astore 4, 2) := by decide +kernel
theorem d_PD_append_49 : decode b_PD_append 49 = .ok (.aload 4, 2) := by decide +kernel
theorem d_PD_append_51 : decode b_PD_append 51 = .ok (.getfield 67, 3) := by decide +kernel
theorem d_PD_append_54 : decode b_PD_append 54 = .ok (.istore 5, 2) := by decide +kernel
theorem d_PD_append_56 : decode b_PD_append 56 = .ok (.iload 5, 2) := by decide +kernel
theorem d_PD_append_58 : decode b_PD_append 58 = .ok (.iload_n 3, 1) := by decide +kernel
theorem d_PD_append_59 : decode b_PD_append 59 = .ok (.iload_n 2, 1) := by decide +kernel
theorem d_PD_append_60 : decode b_PD_append 60 = .ok (.imul, 1) := by decide +kernel
theorem d_PD_append_61 : decode b_PD_append 61 = .ok (.iadd, 1) := by decide +kernel
theorem d_PD_append_62 : decode b_PD_append 62 = .ok (.istore 6, 2) := by decide +kernel
theorem d_PD_append_64 : decode b_PD_append 64 = .ok (.aload_n 0, 1) := by decide +kernel
theorem d_PD_append_65 : decode b_PD_append 65 = .ok (.aload 4, 2) := by decide +kernel
theorem d_PD_append_67 : decode b_PD_append 67 = .ok (.iload 6, 2) := by decide +kernel
theorem d_PD_append_69 : decode b_PD_append 69 = .ok (.invokevirtual 72, 3) := by decide +kernel
theorem d_PD_append_72 : decode b_PD_append 72 = .ok (.ifCond .ne 13, 3) := by decide +kernel
theorem d_PD_append_75 : decode b_PD_append 75 = .ok (.new 76, 3) := by decide +kernel
theorem d_PD_append_78 : decode b_PD_append 78 = .ok (.dup, 1) := by decide +kernel
theorem d_PD_append_79 : decode b_PD_append 79 = .ok (.ldc 78, 2) := by decide +kernel
theorem d_PD_append_81 : decode b_PD_append 81 = .ok (.invokespecial 80, 3) := by decide +kernel
theorem d_PD_append_84 : decode b_PD_append 84 = .ok (.athrow, 1) := by decide +kernel
theorem d_PD_append_85 : decode b_PD_append 85 = .ok (.aload_n 0, 1) := by decide +kernel
theorem d_PD_append_86 : decode b_PD_append 86 = .ok (.aload 4, 2) := by decide +kernel
theorem d_PD_append_88 : decode b_PD_append 88 = .ok (.iload 6, 2) := by decide +kernel
theorem d_PD_append_90 : decode b_PD_append 90 = .ok (.invokevirtual 81, 3) := by decide +kernel
theorem d_PD_append_93 : decode b_PD_append 93 = .ok (.aload_n 0, 1) := by decide +kernel
theorem d_PD_append_94 : decode b_PD_append 94 = .ok (.aload 4, 2) := by decide +kernel
theorem d_PD_append_96 : decode b_PD_append 96 = .ok (.iload 5, 2) := by decide +kernel
theorem d_PD_append_98 : decode b_PD_append 98 = .ok (.iload_n 3, 1) := by decide +kernel
theorem d_PD_append_99 : decode b_PD_append 99 = .ok (.iload_n 2, 1) := by decide +kernel
theorem d_PD_append_100 : decode b_PD_append 100 = .ok (.invokevirtual 85, 3) := by decide +kernel
theorem d_PD_append_103 : decode b_PD_append 103 = .ok (.iload 6, 2) := by decide +kernel
theorem d_PD_append_105 : decode b_PD_append 105 = .ok (.ireturn, 1) := by decide +kernel
theorem d_PD_cut_0 : decode b_PD_cut 0 = .ok (.iload_n 1, 1) := by decide +kernel
theorem d_PD_cut_1 : decode b_PD_cut 1 = .ok (.invokestatic 54, 3) := by decide +kernel
theorem d_PD_cut_4 : decode b_PD_cut 4 = .ok (.ifCond .ne 13, 3) := by decide +kernel
theorem d_PD_cut_7 : decode b_PD_cut 7 = .ok (.new 58, 3) := by decide +kernel
theorem d_PD_cut_10 : decode b_PD_cut 10 = .ok (.dup, 1) := by decide +kernel
theorem d_PD_cut_11 : decode b_PD_cut 11 = .ok (.ldc 89, 2) := by decide +kernel
theorem d_PD_cut_13 : decode b_PD_cut 13 = .ok (.invokespecial 62, 3) := by decide +kernel
theorem d_PD_cut_16 : decode b_PD_cut 16 = .ok (.athrow, 1) := by decide +kernel
theorem d_PD_cut_17 : decode b_PD_cut 17 = .ok (.aload_n 0, 1) := by decide +kernel
theorem d_PD_cut_18 : decode b_PD_cut 18 = .ok (.getfield 29, 3) := by decide +kernel
theorem d_PD_cut_21 : decode b_PD_cut 21 = .ok (.iload_n 1, 1) := by decide +kernel
theorem d_PD_cut_22 : decode b_PD_cut 22 = .ok (.aaload, 1) := by decide +kernel
theorem d_PD_cut_23 : decode b_PD_cut 23 = .ok (.astore_n 3, 1) := by decide +kernel
theorem d_PD_cut_24 : decode b_PD_cut 24 = .ok (.aload_n 3, 1) := by decide +kernel
theorem d_PD_cut_25 : decode b_PD_cut 25 = .ok (.getfield 63, 3) := by decide +kernel
theorem d_PD_cut_28 : decode b_PD_cut 28 = .ok (.getfield 91, 3) := by decide +kernel
theorem d_PD_cut_31 : decode b_PD_cut 31 = .ok (.ifCond .ne 13, 3) := by decide +kernel
theorem d_PD_cut_34 : decode b_PD_cut 34 = .ok (.new 95, 3) := by decide +kernel
theorem d_PD_cut_37 : decode b_PD_cut 37 = .ok (.dup, 1) := by decide +kernel
theorem d_PD_cut_38 : decode b_PD_cut 38 = .ok (.ldc 97, 2) := by decide +kernel
theorem d_PD_cut_40 : decode b_PD_cut 40 = .ok (.invokespecial 99, 3) := by decide +kernel
theorem d_PD_cut_43 : decode b_PD_cut 43 = .ok (.athrow, 1) := by decide +kernel
theorem d_PD_cut_44 : decode b_PD_cut 44 = .ok (.aload_n 3, 1) := by decide +kernel
theorem d_PD_cut_45 : decode b_PD_cut 45 = .ok (.getfield 63, 3) := by decide +kernel
theorem d_PD_cut_48 : decode b_PD_cut 48 = .ok (.getfield 67, 3) := by decide +kernel
theorem d_PD_cut_51 : decode b_PD_cut 51 = .ok (.istore 4, 2) := by decide +kernel
theorem d_PD_cut_53 : decode b_PD_cut 53 = .ok (.iload_n 2, 1) := by decide +kernel
theorem d_PD_cut_54 : decode b_PD_cut 54 = .ok (.ifCond .lt 9, 3) := by decide +kernel
theorem d_PD_cut_57 : decode b_PD_cut 57 = .ok (.iload_n 2, 1) := by decide +kernel
theorem d_PD_cut_58 : decode b_PD_cut 58 = .ok (.iload 4, 2) := by decide +kernel
theorem d_PD_cut_60 : decode b_PD_cut 60 = .ok (.if_icmp .le 13, 3) := by decide +kernel
theorem d_PD_cut_63 : decode b_PD_cut 63 = .ok (.new 42, 3) := by decide +kernel
theorem d_PD_cut_66 : decode b_PD_cut 66 = .ok (.dup, 1) := by decide +kernel
theorem d_PD_cut_67 : decode b_PD_cut 67 = .ok (.ldc 100, 2) := by decide +kernel
theorem d_PD_cut_69 : decode b_PD_cut 69 = .ok (.invokespecial 46, 3) := by decide +kernel
theorem d_PD_cut_72 : decode b_PD_cut 72 = .ok (.athrow, 1) := by decide +kernel
theorem d_PD_cut_73 : decode b_PD_cut 73 = .ok (.aload_n 0, 1) := by decide +kernel
theorem d_PD_cut_74 : decode b_PD_cut 74 = .ok (.aload_n 3, 1) := by decide +kernel
theorem d_PD_cut_75 : decode b_PD_cut 75 = .ok (.getfield 63, 3) := by decide +kernel
theorem d_PD_cut_78 : decode b_PD_cut 78 = .ok (.iload_n 2, 1) := by decide +kernel
theorem d_PD_cut_79 : decode b_PD_cut 79 = .ok (.invokevirtual 102, 3) := by decide +kernel
theorem d_PD_cut_82 : decode b_PD_cut 82 = .ok (.aload_n 3, 1) := by decide +kernel
theorem d_PD_cut_83 : decode b_PD_cut 83 = .ok (.aload_n 3, 1) := by decide +kernel
theorem d_PD_cut_84 : decode b_PD_cut 84 = .ok (.getfield 105, 3) := by decide +kernel
theorem d_PD_cut_87 : decode b_PD_cut 87 = .ok (.iload_n 2, 1) := by decide +kernel
theorem d_PD_cut_88 : decode b_PD_cut 88 = .ok (.invokestatic 11, 3) := by decide +kernel
theorem d_PD_cut_91 : decode b_PD_cut 91 = .ok (.putfield 105, 3) := by decide +kernel
theorem d_PD_cut_94 : decode b_PD_cut 94 = .ok (.iload 4, 2) := by decide +kernel
theorem d_PD_cut_96 : decode b_PD_cut 96 = .ok (.ireturn, 1) := by decide +kernel
theorem d_PD_remove_0 : decode b_PD_remove 0 = .ok (.iload_n 1, 1) := by decide +kernel
theorem d_PD_remove_1 : decode b_PD_remove 1 = .ok (.invokestatic 54, 3) := by decide +kernel
theorem d_PD_remove_4 : decode b_PD_remove 4 = .ok (.ifCond .ne 13, 3) := by decide +kernel
theorem d_PD_remove_7 : decode b_PD_remove 7 = .ok (.new 58, 3) := by decide +kernel
theorem d_PD_remove_10 : decode b_PD_remove 10 = .ok (.dup, 1) := by decide +kernel
theorem d_PD_remove_11 : decode b_PD_remove 11 = .ok (.ldc 89, 2) := by decide +kernel
theorem d_PD_remove_13 : decode b_PD_remove 13 = .ok (.invokespecial 62, 3) := by decide +kernel
theorem d_PD_remove_16 : decode b_PD_remove 16 = .ok (.athrow, 1) := by decide +kernel
theorem d_PD_remove_17 : decode b_PD_remove 17 = .ok (.aload_n 0, 1) := by decide +kernel
theorem d_PD_remove_18 : decode b_PD_remove 18 = .ok (.getfield 29, 3) := by decide +kernel
theorem d_PD_remove_21 : decode b_PD_remove 21 = .ok (.iload_n 1, 1) := by decide +kernel
theorem d_PD_remove_22 : decode b_PD_remove 22 = .ok (.aaload, 1) := by decide +kernel
theorem d_PD_remove_23 : decode b_PD_remove 23 = .ok (.astore_n 2, 1) := by decide +kernel
theorem d_PD_remove_24 : decode b_PD_remove 24 = .ok (.aload_n 2, 1) := by decide +kernel
theorem d_PD_remove_25 : decode b_PD_remove 25 = .ok (.getfield 63, 3) := by decide +kernel
theorem d_PD_remove_28 : decode b_PD_remove 28 = .ok (.getfield 91, 3) := by decide +kernel
theorem d_PD_remove_31 : decode b_PD_remove 31 = .ok (.istore_n 3, 1) := by decide +kernel
theorem d_PD_remove_32 : decode b_PD_remove 32 = .ok (.aload_n 0, 1) := by decide +kernel
theorem d_PD_remove_33 : decode b_PD_remove 33 = .ok (.aload_n 2, 1) := by decide +kernel
theorem d_PD_remove_34 : decode b_PD_remove 34 = .ok (.getfield 63, 3) := by decide +kernel
theorem d_PD_remove_37 : decode b_PD_remove 37 = .ok (.iconst 0, 1) := by decide +kernel
theorem d_PD_remove_38 : decode b_PD_remove 38 = .ok (.invokevirtual 102, 3) := by decide +kernel
theorem d_PD_remove_41 : decode b_PD_remove 41 = .ok (.aload_n 2, 1) := by decide +kernel
theorem d_PD_remove_42 : decode b_PD_remove 42 = .ok (.getfield 63, 3) := by decide +kernel
theorem d_PD_remove_45 : decode b_PD_remove 45 = .ok (.iconst 0, 1) := by decide +kernel
theorem d_PD_remove_46 : decode b_PD_remove 46 = .ok (.putfield 91, 3) := by decide +kernel
theorem d_PD_remove_49 : decode b_PD_remove 49 = .ok (.aload_n 2, 1) := by decide +kernel
theorem d_PD_remove_50 : decode b_PD_remove 50 = .ok (.iconst 0, 1) := by decide +kernel
theorem d_PD_remove_51 : decode b_PD_remove 51 = .ok (.putfield 105, 3) := by decide +kernel
theorem d_PD_remove_54 : decode b_PD_remove 54 = .ok (.iload_n 3, 1) := by decide +kernel
theorem d_PD_remove_55 : decode b_PD_remove 55 = .ok (.ireturn, 1) := by decide +kernel
theorem d_PD_twin_0 : decode b_PD_twin 0 = .ok (.iload_n 1, 1) := by decide +kernel
theorem d_PD_twin_1 : decode b_PD_twin 1 = .ok (.invokestatic 54, 3) := by decide +kernel
theorem d_PD_twin_4 : decode b_PD_twin 4 = .ok (.ifCond .eq 10, 3) := by decide +kernel
theorem d_PD_twin_7 : decode b_PD_twin 7 = .ok (.iload_n 2, 1) := by decide +kernel
theorem d_PD_twin_8 : decode b_PD_twin 8 = .ok (.invokestatic 54, 3) := by decide +kernel
theorem d_PD_twin_11 : decode b_PD_twin 11 = .ok (.ifCond .ne 13, 3) := by decide +kernel
theorem d_PD_twin_14 : decode b_PD_twin 14 = .ok (.new 58, 3) := by decide +kernel
theorem d_PD_twin_17 : decode b_PD_twin 17 = .ok (.dup, 1) := by decide +kernel
theorem d_PD_twin_18 : decode b_PD_twin 18 = .ok (.ldc 89, 2) := by decide +kernel
theorem d_PD_twin_20 : decode b_PD_twin 20 = .ok (.invokespecial 62, 3) := by decide +kernel
theorem d_PD_twin_23 : decode b_PD_twin 23 = .ok (.athrow, 1) := by decide +kernel
theorem d_PD_twin_24 : decode b_PD_twin 24 = .ok (.aload_n 0, 1) := by decide +kernel
theorem d_PD_twin_25 : decode b_PD_twin 25 = .ok (.getfield 29, 3) := by decide +kernel
theorem d_PD_twin_28 : decode b_PD_twin 28 = .ok (.iload_n 1, 1) := by decide +kernel
theorem d_PD_twin_29 : decode b_PD_twin 29 = .ok (.aaload, 1) := by decide +kernel
theorem d_PD_twin_30 : decode b_PD_twin 30 = .ok (.getfield 63, 3) := by decide +kernel
theorem d_PD_twin_33 : decode b_PD_twin 33 = .ok (.getfield 91, 3) := by decide +kernel
theorem d_PD_twin_36 : decode b_PD_twin 36 = .ok (.ifCond .ne 13, 3) := by decide +kernel
theorem d_PD_twin_39 : decode b_PD_twin 39 = .ok (.new 95, 3) := by decide +kernel
theorem d_PD_twin_42 : decode b_PD_twin 42 = .ok (.dup, 1) := by decide +kernel
theorem d_PD_twin_43 : decode b_PD_twin 43 = .ok (.ldc 97, 2) := by decide +kernel
theorem d_PD_twin_45 : decode b_PD_twin 45 = .ok (.invokespecial 99, 3) := by decide +kernel
theorem d_PD_twin_48 : decode b_PD_twin 48 = .ok (.athrow, 1) := by decide +kernel
theorem d_PD_twin_49 : decode b_PD_twin 49 = .ok (.aload_n 0, 1) := by decide +kernel
theorem d_PD_twin_50 : decode b_PD_twin 50 = .ok (.getfield 29, 3) := by decide +kernel
theorem d_PD_twin_53 : decode b_PD_twin 53 = .ok (.iload_n 2, 1) := by decide +kernel
theorem d_PD_twin_54 : decode b_PD_twin 54 = .ok (.aaload, 1) := by decide +kernel
theorem d_PD_twin_55 : decode b_PD_twin 55 = .ok (.astore_n 3, 1) := by decide +kernel
theorem d_PD_twin_56 : decode b_PD_twin 56 = .ok (.aload_n 0, 1) := by decide +kernel
theorem d_PD_twin_57 : decode b_PD_twin 57 = .ok (.aload_n 3, 1) := by decide +kernel
theorem d_PD_twin_58 : decode b_PD_twin 58 = .ok (.getfield 63, 3) := by decide +kernel
theorem d_PD_twin_61 : decode b_PD_twin 61 = .ok (.aload_n 0, 1) := by decide +kernel
theorem d_PD_twin_62 : decode b_PD_twin 62 = .ok (.getfield 29, 3) := by decide +kernel
theorem d_PD_twin_65 : decode b_PD_twin 65 = .ok (.iload_n 1, 1) := by decide +kernel
theorem d_PD_twin_66 : decode b_PD_twin 66 = .ok (.aaload, 1) := by decide +kernel
theorem d_PD_twin_67 : decode b_PD_twin 67 = .ok (.getfield 63, 3) := by decide +kernel
theorem d_PD_twin_70 : decode b_PD_twin 70 = .ok (.invokevirtual 108, 3) := by decide +kernel
theorem d_PD_twin_73 : decode b_PD_twin 73 = .ok (.aload_n 3, 1) := by decide +kernel
theorem d_PD_twin_74 : decode b_PD_twin 74 = .ok (.iconst 0, 1) := by decide +kernel
theorem d_PD_twin_75 : decode b_PD_twin 75 = .ok (.putfield 105, 3) := by decide +kernel
theorem d_PD_twin_78 : decode b_PD_twin 78 = .ok (.aload_n 3, 1) := by decide +kernel
theorem d_PD_twin_79 : decode b_PD_twin 79 = .ok (.getfield 63, 3) := by decide +kernel
theorem d_PD_twin_82 : decode b_PD_twin 82 = .ok (.getfield 67, 3) := by decide +kernel
theorem d_PD_twin_85 : decode b_PD_twin 85 = .ok (.ireturn, 1) := by decide +kernel
theorem d_PD_sync_0 : decode b_PD_sync 0 = .ok (.iload_n 1, 1) := by decide +kernel
theorem d_PD_sync_1 : decode b_PD_sync 1 = .ok (.invokestatic 54, 3) := by decide +kernel
theorem d_PD_sync_4 : decode b_PD_sync 4 = .ok (.ifCond .ne 13, 3) := by decide +kernel
theorem d_PD_sync_7 : decode b_PD_sync 7 = .ok (.new 58, 3) := by decide +kernel
theorem d_PD_sync_10 : decode b_PD_sync 10 = .ok (.dup, 1) := by decide +kernel
theorem d_PD_sync_11 : decode b_PD_sync 11 = .ok (.ldc 89, 2) := by decide +kernel
theorem d_PD_sync_13 : decode b_PD_sync 13 = .ok (.invokespecial 62, 3) := by decide +kernel
theorem d_PD_sync_16 : decode b_PD_sync 16 = .ok (.athrow, 1) := by decide +kernel
theorem d_PD_sync_17 : decode b_PD_sync 17 = .ok (.aload_n 0, 1) := by decide +kernel
theorem d_PD_sync_18 : decode b_PD_sync 18 = .ok (.getfield 29, 3) := by decide +kernel
theorem d_PD_sync_21 : decode b_PD_sync 21 = .ok (.iload_n 1, 1) := by decide +kernel
theorem d_PD_sync_22 : decode b_PD_sync 22 = .ok (.aaload, 1) := by decide +kernel
theorem d_PD_sync_23 : decode b_PD_sync 23 = .ok (.astore_n 2, 1) := by decide +kernel
theorem d_PD_sync_24 : decode b_PD_sync 24 = .ok (.aload_n 2, 1) := by decide +kernel
theorem d_PD_sync_25 : decode b_PD_sync 25 = .ok (.getfield 112, 3) := by decide +kernel
theorem d_PD_sync_28 : decode b_PD_sync 28 = .ok (.aload_n 2, 1) := by decide +kernel
theorem d_PD_sync_29 : decode b_PD_sync 29 = .ok (.getfield 63, 3) := by decide +kernel
theorem d_PD_sync_32 : decode b_PD_sync 32 = .ok (.invokestatic 115, 3) := by decide +kernel
theorem d_PD_sync_35 : decode b_PD_sync 35 = .ok (.istore_n 3, 1) := by decide +kernel
theorem d_PD_sync_36 : decode b_PD_sync 36 = .ok (.aload_n 0, 1) := by decide +kernel
theorem d_PD_sync_37 : decode b_PD_sync 37 = .ok (.aload_n 2, 1) := by decide +kernel
theorem d_PD_sync_38 : decode b_PD_sync 38 = .ok (.invokevirtual 119, 3) := by decide +kernel
theorem d_PD_sync_41 : decode b_PD_sync 41 = .ok (.iload_n 3, 1) := by decide +kernel
theorem d_PD_sync_42 : decode b_PD_sync 42 = .ok (.ireturn, 1) := by decide +kernel
theorem d_PD_crash_0 : decode b_PD_crash 0 = .ok (.iload_n 1, 1) := by decide +kernel
theorem d_PD_crash_1 : decode b_PD_crash 1 = .ok (.invokestatic 54, 3) := by decide +kernel
theorem d_PD_crash_4 : decode b_PD_crash 4 = .ok (.ifCond .ne 13, 3) := by decide +kernel
theorem d_PD_crash_7 : decode b_PD_crash 7 = .ok (.new 58, 3) := by decide +kernel
theorem d_PD_crash_10 : decode b_PD_crash 10 = .ok (.dup, 1) := by decide +kernel
theorem d_PD_crash_11 : decode b_PD_crash 11 = .ok (.ldc 89, 2) := by decide +kernel
theorem d_PD_crash_13 : decode b_PD_crash 13 = .ok (.invokespecial 62, 3) := by decide +kernel
theorem d_PD_crash_16 : decode b_PD_crash 16 = .ok (.athrow, 1) := by decide +kernel
theorem d_PD_crash_17 : decode b_PD_crash 17 = .ok (.iload_n 2, 1) := by decide +kernel
theorem d_PD_crash_18 : decode b_PD_crash 18 = .ok (.ifCond .ge 13, 3) := by decide +kernel
theorem d_PD_crash_21 : decode b_PD_crash 21 = .ok (.new 42, 3) := by decide +kernel
theorem d_PD_crash_24 : decode b_PD_crash 24 = .ok (.dup, 1) := by decide +kernel
theorem d_PD_crash_25 : decode b_PD_crash 25 = .ok (.ldc 123, 2) := by decide +kernel
theorem d_PD_crash_27 : decode b_PD_crash 27 = .ok (.invokespecial 46, 3) := by decide +kernel
theorem d_PD_crash_30 : decode b_PD_crash 30 = .ok (.athrow, 1) := by decide +kernel
theorem d_PD_crash_31 : decode b_PD_crash 31 = .ok (.aload_n 0, 1) := by decide +kernel
theorem d_PD_crash_32 : decode b_PD_crash 32 = .ok (.aload_n 0, 1) := by decide +kernel
theorem d_PD_crash_33 : decode b_PD_crash 33 = .ok (.getfield 29, 3) := by decide +kernel
theorem d_PD_crash_36 : decode b_PD_crash 36 = .ok (.iload_n 1, 1) := by decide +kernel
theorem d_PD_crash_37 : decode b_PD_crash 37 = .ok (.aaload, 1) := by decide +kernel
theorem d_PD_crash_38 : decode b_PD_crash 38 = .ok (.iload_n 2, 1) := by decide +kernel
theorem d_PD_crash_39 : decode b_PD_crash 39 = .ok (.invokevirtual 125, 3) := by decide +kernel
theorem d_PD_crash_42 : decode b_PD_crash 42 = .ok (.aload_n 0, 1) := by decide +kernel
theorem d_PD_crash_43 : decode b_PD_crash 43 = .ok (.getfield 29, 3) := by decide +kernel
theorem d_PD_crash_46 : decode b_PD_crash 46 = .ok (.iload_n 1, 1) := by decide +kernel
theorem d_PD_crash_47 : decode b_PD_crash 47 = .ok (.aaload, 1) := by decide +kernel
theorem d_PD_crash_48 : decode b_PD_crash 48 = .ok (.getfield 63, 3) := by decide +kernel
theorem d_PD_crash_51 : decode b_PD_crash 51 = .ok (.getfield 67, 3) := by decide +kernel
theorem d_PD_crash_54 : decode b_PD_crash 54 = .ok (.ireturn, 1) := by decide +kernel
theorem d_PD_crashAll_0 : decode b_PD_crashAll 0 = .ok (.lload_n 1, 1) := by decide +kernel
theorem d_PD_crashAll_1 : decode b_PD_crashAll 1 = .ok (.lstore_n 3, 1) := by decide +kernel
theorem d_PD_crashAll_2 : decode b_PD_crashAll 2 = .ok (.iconst 0, 1) := by decide +kernel
theorem d_PD_crashAll_3 : decode b_PD_crashAll 3 = .ok (.istore 5, 2) := by decide +kernel
theorem d_PD_crashAll_5 : decode b_PD_crashAll 5 = .ok (.iload 5, 2) := by decide +kernel
theorem d_PD_crashAll_7 : decode b_PD_crashAll 7 = .ok (.bipush 16, 2) := by decide +kernel
theorem d_PD_crashAll_9 : decode b_PD_crashAll 9 = .ok (.if_icmp .ge 41, 3) := by decide +kernel
theorem d_PD_crashAll_12 : decode b_PD_crashAll 12 = .ok (.lload_n 3, 1) := by decide +kernel
theorem d_PD_crashAll_13 : decode b_PD_crashAll 13 = .ok (.ldc2_w 129, 3) := by decide +kernel
theorem d_PD_crashAll_16 : decode b_PD_crashAll 16 = .ok (.lmul, 1) := by decide +kernel
theorem d_PD_crashAll_17 : decode b_PD_crashAll 17 = .ok (.ldc2_w 131, 3) := by decide +kernel
theorem d_PD_crashAll_20 : decode b_PD_crashAll 20 = .ok (.ladd, 1) := by decide +kernel
theorem d_PD_crashAll_21 : decode b_PD_crashAll 21 = .ok (.lstore_n 3, 1) := by decide +kernel
theorem d_PD_crashAll_22 : decode b_PD_crashAll 22 = .ok (.aload_n 0, 1) := by decide +kernel
theorem d_PD_crashAll_23 : decode b_PD_crashAll 23 = .ok (.aload_n 0, 1) := by decide +kernel
theorem d_PD_crashAll_24 : decode b_PD_crashAll 24 = .ok (.getfield 29, 3) := by decide +kernel
theorem d_PD_crashAll_27 : decode b_PD_crashAll 27 = .ok (.iload 5, 2) := by decide +kernel
theorem d_PD_crashAll_29 : decode b_PD_crashAll 29 = .ok (.aaload, 1) := by decide +kernel
theorem d_PD_crashAll_30 : decode b_PD_crashAll 30 = .ok (.lload_n 3, 1) := by decide +kernel
theorem d_PD_crashAll_31 : decode b_PD_crashAll 31 = .ok (.aload_n 0, 1) := by decide +kernel
theorem d_PD_crashAll_32 : decode b_PD_crashAll 32 = .ok (.getfield 29, 3) := by decide +kernel
theorem d_PD_crashAll_35 : decode b_PD_crashAll 35 = .ok (.iload 5, 2) := by decide +kernel
theorem d_PD_crashAll_37 : decode b_PD_crashAll 37 = .ok (.aaload, 1) := by decide +kernel
theorem d_PD_crashAll_38 : decode b_PD_crashAll 38 = .ok (.invokestatic 133, 3) := by decide +kernel
theorem d_PD_crashAll_41 : decode b_PD_crashAll 41 = .ok (.invokevirtual 125, 3) := by decide +kernel
theorem d_PD_crashAll_44 : decode b_PD_crashAll 44 = .ok (.iinc 5 1, 3) := by decide +kernel
theorem d_PD_crashAll_47 : decode b_PD_crashAll 47 = .ok (.goto (-42), 3) := by decide +kernel
theorem d_PD_crashAll_50 : decode b_PD_crashAll 50 = .ok (.aload_n 0, 1) := by decide +kernel
theorem d_PD_crashAll_51 : decode b_PD_crashAll 51 = .ok (.invokevirtual 137, 3) := by decide +kernel
theorem d_PD_crashAll_54 : decode b_PD_crashAll 54 = .ok (.ireturn, 1) := by decide +kernel
theorem d_PD_file_0 : decode b_PD_file 0 = .ok (.iload_n 1, 1) := by decide +kernel
theorem d_PD_file_1 : decode b_PD_file 1 = .ok (.invokestatic 54, 3) := by decide +kernel
theorem d_PD_file_4 : decode b_PD_file 4 = .ok (.ifCond .eq 13, 3) := by decide +kernel
theorem d_PD_file_7 : decode b_PD_file 7 = .ok (.iload_n 2, 1) := by decide +kernel
theorem d_PD_file_8 : decode b_PD_file 8 = .ok (.ifCond .lt 9, 3) := by decide +kernel
theorem d_PD_file_11 : decode b_PD_file 11 = .ok (.iload_n 2, 1) := by decide +kernel
theorem d_PD_file_12 : decode b_PD_file 12 = .ok (.bipush 7, 2) := by decide +kernel
theorem d_PD_file_14 : decode b_PD_file 14 = .ok (.if_icmp .le 13, 3) := by decide +kernel
theorem d_PD_file_17 : decode b_PD_file 17 = .ok (.new 58, 3) := by decide +kernel
theorem d_PD_file_20 : decode b_PD_file 20 = .ok (.dup, 1) := by decide +kernel
theorem d_PD_file_21 : decode b_PD_file 21 = .ok (.ldc 141, 2) := by decide +kernel
theorem d_PD_file_23 : decode b_PD_file 23 = .ok (.invokespecial 62, 3) := by decide +kernel
theorem d_PD_file_26 : decode b_PD_file 26 = .ok (.athrow, 1) := by decide +kernel
theorem d_PD_file_27 : decode b_PD_file 27 = .ok (.aload_n 0, 1) := by decide +kernel
theorem d_PD_file_28 : decode b_PD_file 28 = .ok (.getfield 29, 3) := by decide +kernel
theorem d_PD_file_31 : decode b_PD_file 31 = .ok (.iload_n 1, 1) := by decide +kernel
theorem d_PD_file_32 : decode b_PD_file 32 = .ok (.aaload, 1) := by decide +kernel
theorem d_PD_file_33 : decode b_PD_file 33 = .ok (.astore_n 3, 1) := by decide +kernel
theorem d_PD_file_34 : decode b_PD_file 34 = .ok (.iload_n 2, 1) := by decide +kernel
theorem d_PD_file_35 : decode b_PD_file 35 = .ok (.tableswitch 116 0 6 #[41, 49, 57, 62, 78, 94, 105], 41) := by decide +kernel
theorem d_PD_file_76 : decode b_PD_file 76 = .ok (.aload_n 3, 1) := by decide +kernel
theorem d_PD_file_77 : decode b_PD_file 77 = .ok (.getfield 63, 3) := by decide +kernel
theorem d_PD_file_80 : decode b_PD_file 80 = .ok (.getfield 67, 3) := by decide +kernel
theorem d_PD_file_83 : decode b_PD_file 83 = .ok (.ireturn, 1) := by decide +kernel
theorem d_PD_file_84 : decode b_PD_file 84 = .ok (.aload_n 3, 1) := by decide +kernel
theorem d_PD_file_85 : decode b_PD_file 85 = .ok (.getfield 112, 3) := by decide +kernel
theorem d_PD_file_88 : decode b_PD_file 88 = .ok (.getfield 67, 3) := by decide +kernel
theorem d_PD_file_91 : decode b_PD_file 91 = .ok (.ireturn, 1) := by decide +kernel
theorem d_PD_file_92 : decode b_PD_file 92 = .ok (.aload_n 3, 1) := by decide +kernel
theorem d_PD_file_93 : decode b_PD_file 93 = .ok (.getfield 105, 3) := by decide +kernel
theorem d_PD_file_96 : decode b_PD_file 96 = .ok (.ireturn, 1) := by decide +kernel
theorem d_PD_file_97 : decode b_PD_file 97 = .ok (.aload_n 3, 1) := by decide +kernel
theorem d_PD_file_98 : decode b_PD_file 98 = .ok (.getfield 63, 3) := by decide +kernel
theorem d_PD_file_101 : decode b_PD_file 101 = .ok (.getfield 91, 3) := by decide +kernel
theorem d_PD_file_104 : decode b_PD_file 104 = .ok (.ifCond .eq 7, 3) := by decide +kernel
theorem d_PD_file_107 : decode b_PD_file 107 = .ok (.iconst 1, 1) := by decide +kernel
theorem d_PD_file_108 : decode b_PD_file 108 = .ok (.goto 4, 3) := by decide +kernel
theorem d_PD_file_111 : decode b_PD_file 111 = .ok (.iconst 0, 1) := by decide +kernel
theorem d_PD_file_112 : decode b_PD_file 112 = .ok (.ireturn, 1) := by decide +kernel
theorem d_PD_file_113 : decode b_PD_file 113 = .ok (.aload_n 3, 1) := by decide +kernel
theorem d_PD_file_114 : decode b_PD_file 114 = .ok (.getfield 112, 3) := by decide +kernel
theorem d_PD_file_117 : decode b_PD_file 117 = .ok (.getfield 91, 3) := by decide +kernel
theorem d_PD_file_120 : decode b_PD_file 120 = .ok (.ifCond .eq 7, 3) := by decide +kernel
theorem d_PD_file_123 : decode b_PD_file 123 = .ok (.iconst 1, 1) := by decide +kernel
theorem d_PD_file_124 : decode b_PD_file 124 = .ok (.goto 4, 3) := by decide +kernel
theorem d_PD_file_127 : decode b_PD_file 127 = .ok (.iconst 0, 1) := by decide +kernel
theorem d_PD_file_128 : decode b_PD_file 128 = .ok (.ireturn, 1) := by decide +kernel
theorem d_PD_file_129 : decode b_PD_file 129 = .ok (.aload_n 3, 1) := by decide +kernel
theorem d_PD_file_130 : decode b_PD_file 130 = .ok (.getfield 63, 3) := by decide +kernel
theorem d_PD_file_133 : decode b_PD_file 133 = .ok (.getfield 67, 3) := by decide +kernel
theorem d_PD_file_136 : decode b_PD_file 136 = .ok (.invokestatic 143, 3) := by decide +kernel
theorem d_PD_file_139 : decode b_PD_file 139 = .ok (.ireturn, 1) := by decide +kernel
theorem d_PD_file_140 : decode b_PD_file 140 = .ok (.aload_n 3, 1) := by decide +kernel
theorem d_PD_file_141 : decode b_PD_file 141 = .ok (.getfield 112, 3) := by decide +kernel
theorem d_PD_file_144 : decode b_PD_file 144 = .ok (.getfield 67, 3) := by decide +kernel
theorem d_PD_file_147 : decode b_PD_file 147 = .ok (.invokestatic 143, 3) := by decide +kernel
theorem d_PD_file_150 : decode b_PD_file 150 = .ok (.ireturn, 1) := by decide +kernel
theorem d_PD_file_151 : decode b_PD_file 151 = .ok (.aload_n 0, 1) := by decide +kernel
theorem d_PD_file_152 : decode b_PD_file 152 = .ok (.aload_n 3, 1) := by decide +kernel
theorem d_PD_file_153 : decode b_PD_file 153 = .ok (.getfield 63, 3) := by decide +kernel
theorem d_PD_file_156 : decode b_PD_file 156 = .ok (.invokevirtual 147, 3) := by decide +kernel
theorem d_PD_file_159 : decode b_PD_file 159 = .ok (.ireturn, 1) := by decide +kernel
theorem d_PD_byteAt_0 : decode b_PD_byteAt 0 = .ok (.iload_n 1, 1) := by decide +kernel
theorem d_PD_byteAt_1 : decode b_PD_byteAt 1 = .ok (.invokestatic 54, 3) := by decide +kernel
theorem d_PD_byteAt_4 : decode b_PD_byteAt 4 = .ok (.ifCond .ne 13, 3) := by decide +kernel
theorem d_PD_byteAt_7 : decode b_PD_byteAt 7 = .ok (.new 58, 3) := by decide +kernel
theorem d_PD_byteAt_10 : decode b_PD_byteAt 10 = .ok (.dup, 1) := by decide +kernel
theorem d_PD_byteAt_11 : decode b_PD_byteAt 11 = .ok (.ldc 89, 2) := by decide +kernel
theorem d_PD_byteAt_13 : decode b_PD_byteAt 13 = .ok (.invokespecial 62, 3) := by decide +kernel
theorem d_PD_byteAt_16 : decode b_PD_byteAt 16 = .ok (.athrow, 1) := by decide +kernel
theorem d_PD_byteAt_17 : decode b_PD_byteAt 17 = .ok (.iload_n 2, 1) := by decide +kernel
theorem d_PD_byteAt_18 : decode b_PD_byteAt 18 = .ok (.ifCond .eq 15, 3) := by decide +kernel
theorem d_PD_byteAt_21 : decode b_PD_byteAt 21 = .ok (.aload_n 0, 1) := by decide +kernel
theorem d_PD_byteAt_22 : decode b_PD_byteAt 22 = .ok (.getfield 29, 3) := by decide +kernel
theorem d_PD_byteAt_25 : decode b_PD_byteAt 25 = .ok (.iload_n 1, 1) := by decide +kernel
theorem d_PD_byteAt_26 : decode b_PD_byteAt 26 = .ok (.aaload, 1) := by decide +kernel
theorem d_PD_byteAt_27 : decode b_PD_byteAt 27 = .ok (.getfield 112, 3) := by decide +kernel
theorem d_PD_byteAt_30 : decode b_PD_byteAt 30 = .ok (.goto 12, 3) := by decide +kernel
theorem d_PD_byteAt_33 : decode b_PD_byteAt 33 = .ok (.aload_n 0, 1) := by decide +kernel
theorem d_PD_byteAt_34 : decode b_PD_byteAt 34 = .ok (.getfield 29, 3) := by decide +kernel
theorem d_PD_byteAt_37 : decode b_PD_byteAt 37 = .ok (.iload_n 1, 1) := by decide +kernel
theorem d_PD_byteAt_38 : decode b_PD_byteAt 38 = .ok (.aaload, 1) := by decide +kernel
theorem d_PD_byteAt_39 : decode b_PD_byteAt 39 = .ok (.getfield 63, 3) := by decide +kernel
theorem d_PD_byteAt_42 : decode b_PD_byteAt 42 = .ok (.astore 4, 2) := by decide +kernel
theorem d_PD_byteAt_44 : decode b_PD_byteAt 44 = .ok (.iload_n 3, 1) := by decide +kernel
theorem d_PD_byteAt_45 : decode b_PD_byteAt 45 = .ok (.ifCond .lt 12, 3) := by decide +kernel
theorem d_PD_byteAt_48 : decode b_PD_byteAt 48 = .ok (.iload_n 3, 1) := by decide +kernel
theorem d_PD_byteAt_49 : decode b_PD_byteAt 49 = .ok (.aload 4, 2) := by decide +kernel
theorem d_PD_byteAt_51 : decode b_PD_byteAt 51 = .ok (.getfield 67, 3) := by decide +kernel
theorem d_PD_byteAt_54 : decode b_PD_byteAt 54 = .ok (.if_icmp .lt 13, 3) := by decide +kernel
theorem d_PD_byteAt_57 : decode b_PD_byteAt 57 = .ok (.new 58, 3) := by decide +kernel
theorem d_PD_byteAt_60 : decode b_PD_byteAt 60 = .ok (.dup, 1) := by decide +kernel
theorem d_PD_byteAt_61 : decode b_PD_byteAt 61 = .ok (.ldc 151, 2) := by decide +kernel
theorem d_PD_byteAt_63 : decode b_PD_byteAt 63 = .ok (.invokespecial 62, 3) := by decide +kernel
theorem d_PD_byteAt_66 : decode b_PD_byteAt 66 = .ok (.athrow, 1) := by decide +kernel
theorem d_PD_byteAt_67 : decode b_PD_byteAt 67 = .ok (.aload_n 0, 1) := by decide +kernel
theorem d_PD_byteAt_68 : decode b_PD_byteAt 68 = .ok (.getfield 23, 3) := by decide +kernel
theorem d_PD_byteAt_71 : decode b_PD_byteAt 71 = .ok (.getfield 153, 3) := by decide +kernel
theorem d_PD_byteAt_74 : decode b_PD_byteAt 74 = .ok (.aload 4, 2) := by decide +kernel
theorem d_PD_byteAt_76 : decode b_PD_byteAt 76 = .ok (.iload_n 3, 1) := by decide +kernel
theorem d_PD_byteAt_77 : decode b_PD_byteAt 77 = .ok (.invokevirtual 156, 3) := by decide +kernel
theorem d_PD_byteAt_80 : decode b_PD_byteAt 80 = .ok (.baload, 1) := by decide +kernel
theorem d_PD_byteAt_81 : decode b_PD_byteAt 81 = .ok (.sipush 255, 3) := by decide +kernel
theorem d_PD_byteAt_84 : decode b_PD_byteAt 84 = .ok (.iand, 1) := by decide +kernel
theorem d_PD_byteAt_85 : decode b_PD_byteAt 85 = .ok (.ireturn, 1) := by decide +kernel
theorem d_PD_count_0 : decode b_PD_count 0 = .ok (.iload_n 1, 1) := by decide +kernel
theorem d_PD_count_1 : decode b_PD_count 1 = .ok (.tableswitch 77 0 4 #[35, 51, 59, 67, 72], 35) := by decide +kernel
theorem d_PD_count_36 : decode b_PD_count 36 = .ok (.aload_n 0, 1) := by decide +kernel
theorem d_PD_count_37 : decode b_PD_count 37 = .ok (.getfield 23, 3) := by decide +kernel
theorem d_PD_count_40 : decode b_PD_count 40 = .ok (.getfield 159, 3) := by decide +kernel
theorem d_PD_count_43 : decode b_PD_count 43 = .ok (.aload_n 0, 1) := by decide +kernel
theorem d_PD_count_44 : decode b_PD_count 44 = .ok (.getfield 23, 3) := by decide +kernel
theorem d_PD_count_47 : decode b_PD_count 47 = .ok (.getfield 162, 3) := by decide +kernel
theorem d_PD_count_50 : decode b_PD_count 50 = .ok (.isub, 1) := by decide +kernel
theorem d_PD_count_51 : decode b_PD_count 51 = .ok (.ireturn, 1) := by decide +kernel
theorem d_PD_count_52 : decode b_PD_count 52 = .ok (.aload_n 0, 1) := by decide +kernel
theorem d_PD_count_53 : decode b_PD_count 53 = .ok (.getfield 23, 3) := by decide +kernel
theorem d_PD_count_56 : decode b_PD_count 56 = .ok (.getfield 159, 3) := by decide +kernel
theorem d_PD_count_59 : decode b_PD_count 59 = .ok (.ireturn, 1) := by decide +kernel
theorem d_PD_count_60 : decode b_PD_count 60 = .ok (.aload_n 0, 1) := by decide +kernel
theorem d_PD_count_61 : decode b_PD_count 61 = .ok (.getfield 23, 3) := by decide +kernel
theorem d_PD_count_64 : decode b_PD_count 64 = .ok (.getfield 165, 3) := by decide +kernel
theorem d_PD_count_67 : decode b_PD_count 67 = .ok (.ireturn, 1) := by decide +kernel
theorem d_PD_count_68 : decode b_PD_count 68 = .ok (.aload_n 0, 1) := by decide +kernel
theorem d_PD_count_69 : decode b_PD_count 69 = .ok (.getfield 38, 3) := by decide +kernel
theorem d_PD_count_72 : decode b_PD_count 72 = .ok (.ireturn, 1) := by decide +kernel
theorem d_PD_count_73 : decode b_PD_count 73 = .ok (.aload_n 0, 1) := by decide +kernel
theorem d_PD_count_74 : decode b_PD_count 74 = .ok (.invokevirtual 137, 3) := by decide +kernel
theorem d_PD_count_77 : decode b_PD_count 77 = .ok (.ireturn, 1) := by decide +kernel
theorem d_PD_count_78 : decode b_PD_count 78 = .ok (.iconst (-1), 1) := by decide +kernel
theorem d_PD_count_79 : decode b_PD_count 79 = .ok (.ireturn, 1) := by decide +kernel
theorem d_PD_isFile_0 : decode b_PD_isFile 0 = .ok (.iload_n 0, 1) := by decide +kernel
theorem d_PD_isFile_1 : decode b_PD_isFile 1 = .ok (.ifCond .lt 13, 3) := by decide +kernel
theorem d_PD_isFile_4 : decode b_PD_isFile 4 = .ok (.iload_n 0, 1) := by decide +kernel
theorem d_PD_isFile_5 : decode b_PD_isFile 5 = .ok (.bipush 16, 2) := by decide +kernel
theorem d_PD_isFile_7 : decode b_PD_isFile 7 = .ok (.if_icmp .ge 7, 3) := by decide +kernel
theorem d_PD_isFile_10 : decode b_PD_isFile 10 = .ok (.iconst 1, 1) := by decide +kernel
theorem d_PD_isFile_11 : decode b_PD_isFile 11 = .ok (.goto 4, 3) := by decide +kernel
theorem d_PD_isFile_14 : decode b_PD_isFile 14 = .ok (.iconst 0, 1) := by decide +kernel
theorem d_PD_isFile_15 : decode b_PD_isFile 15 = .ok (.ireturn, 1) := by decide +kernel
theorem d_PD_pagesFor_0 : decode b_PD_pagesFor 0 = .ok (.iload_n 0, 1) := by decide +kernel
theorem d_PD_pagesFor_1 : decode b_PD_pagesFor 1 = .ok (.bipush 64, 2) := by decide +kernel
theorem d_PD_pagesFor_3 : decode b_PD_pagesFor 3 = .ok (.iadd, 1) := by decide +kernel
theorem d_PD_pagesFor_4 : decode b_PD_pagesFor 4 = .ok (.iconst 1, 1) := by decide +kernel
theorem d_PD_pagesFor_5 : decode b_PD_pagesFor 5 = .ok (.isub, 1) := by decide +kernel
theorem d_PD_pagesFor_6 : decode b_PD_pagesFor 6 = .ok (.bipush 64, 2) := by decide +kernel
theorem d_PD_pagesFor_8 : decode b_PD_pagesFor 8 = .ok (.idiv, 1) := by decide +kernel
theorem d_PD_pagesFor_9 : decode b_PD_pagesFor 9 = .ok (.ireturn, 1) := by decide +kernel
theorem d_PD_filesThere_0 : decode b_PD_filesThere 0 = .ok (.iconst 0, 1) := by decide +kernel
theorem d_PD_filesThere_1 : decode b_PD_filesThere 1 = .ok (.istore_n 1, 1) := by decide +kernel
theorem d_PD_filesThere_2 : decode b_PD_filesThere 2 = .ok (.iconst 0, 1) := by decide +kernel
theorem d_PD_filesThere_3 : decode b_PD_filesThere 3 = .ok (.istore_n 2, 1) := by decide +kernel
theorem d_PD_filesThere_4 : decode b_PD_filesThere 4 = .ok (.iload_n 2, 1) := by decide +kernel
theorem d_PD_filesThere_5 : decode b_PD_filesThere 5 = .ok (.bipush 16, 2) := by decide +kernel
theorem d_PD_filesThere_7 : decode b_PD_filesThere 7 = .ok (.if_icmp .ge 27, 3) := by decide +kernel
theorem d_PD_filesThere_10 : decode b_PD_filesThere 10 = .ok (.aload_n 0, 1) := by decide +kernel
theorem d_PD_filesThere_11 : decode b_PD_filesThere 11 = .ok (.getfield 29, 3) := by decide +kernel
theorem d_PD_filesThere_14 : decode b_PD_filesThere 14 = .ok (.iload_n 2, 1) := by decide +kernel
theorem d_PD_filesThere_15 : decode b_PD_filesThere 15 = .ok (.aaload, 1) := by decide +kernel
theorem d_PD_filesThere_16 : decode b_PD_filesThere 16 = .ok (.getfield 63, 3) := by decide +kernel
theorem d_PD_filesThere_19 : decode b_PD_filesThere 19 = .ok (.getfield 91, 3) := by decide +kernel
theorem d_PD_filesThere_22 : decode b_PD_filesThere 22 = .ok (.ifCond .eq 6, 3) := by decide +kernel
theorem d_PD_filesThere_25 : decode b_PD_filesThere 25 = .ok (.iinc 1 1, 3) := by decide +kernel
theorem d_PD_filesThere_28 : decode b_PD_filesThere 28 = .ok (.iinc 2 1, 3) := by decide +kernel
theorem d_PD_filesThere_31 : decode b_PD_filesThere 31 = .ok (.goto (-27), 3) := by decide +kernel
theorem d_PD_filesThere_34 : decode b_PD_filesThere 34 = .ok (.iload_n 1, 1) := by decide +kernel
theorem d_PD_filesThere_35 : decode b_PD_filesThere 35 = .ok (.ireturn, 1) := by decide +kernel
theorem d_PD_hasRoom_0 : decode b_PD_hasRoom 0 = .ok (.iload_n 2, 1) := by decide +kernel
theorem d_PD_hasRoom_1 : decode b_PD_hasRoom 1 = .ok (.invokestatic 143, 3) := by decide +kernel
theorem d_PD_hasRoom_4 : decode b_PD_hasRoom 4 = .ok (.aload_n 1, 1) := by decide +kernel
theorem d_PD_hasRoom_5 : decode b_PD_hasRoom 5 = .ok (.getfield 67, 3) := by decide +kernel
theorem d_PD_hasRoom_8 : decode b_PD_hasRoom 8 = .ok (.invokestatic 143, 3) := by decide +kernel
theorem d_PD_hasRoom_11 : decode b_PD_hasRoom 11 = .ok (.isub, 1) := by decide +kernel
theorem d_PD_hasRoom_12 : decode b_PD_hasRoom 12 = .ok (.aload_n 0, 1) := by decide +kernel
theorem d_PD_hasRoom_13 : decode b_PD_hasRoom 13 = .ok (.aload_n 1, 1) := by decide +kernel
theorem d_PD_hasRoom_14 : decode b_PD_hasRoom 14 = .ok (.iload_n 2, 1) := by decide +kernel
theorem d_PD_hasRoom_15 : decode b_PD_hasRoom 15 = .ok (.invokevirtual 168, 3) := by decide +kernel
theorem d_PD_hasRoom_18 : decode b_PD_hasRoom 18 = .ok (.ifCond .eq 7, 3) := by decide +kernel
theorem d_PD_hasRoom_21 : decode b_PD_hasRoom 21 = .ok (.iconst 1, 1) := by decide +kernel
theorem d_PD_hasRoom_22 : decode b_PD_hasRoom 22 = .ok (.goto 4, 3) := by decide +kernel
theorem d_PD_hasRoom_25 : decode b_PD_hasRoom 25 = .ok (.iconst 0, 1) := by decide +kernel
theorem d_PD_hasRoom_26 : decode b_PD_hasRoom 26 = .ok (.iadd, 1) := by decide +kernel
theorem d_PD_hasRoom_27 : decode b_PD_hasRoom 27 = .ok (.istore_n 3, 1) := by decide +kernel
theorem d_PD_hasRoom_28 : decode b_PD_hasRoom 28 = .ok (.iload_n 2, 1) := by decide +kernel
theorem d_PD_hasRoom_29 : decode b_PD_hasRoom 29 = .ok (.invokestatic 143, 3) := by decide +kernel
theorem d_PD_hasRoom_32 : decode b_PD_hasRoom 32 = .ok (.sipush 400, 3) := by decide +kernel
theorem d_PD_hasRoom_35 : decode b_PD_hasRoom 35 = .ok (.if_icmp .gt 18, 3) := by decide +kernel
theorem d_PD_hasRoom_38 : decode b_PD_hasRoom 38 = .ok (.iload_n 3, 1) := by decide +kernel
theorem d_PD_hasRoom_39 : decode b_PD_hasRoom 39 = .ok (.aload_n 0, 1) := by decide +kernel
theorem d_PD_hasRoom_40 : decode b_PD_hasRoom 40 = .ok (.getfield 23, 3) := by decide +kernel
theorem d_PD_hasRoom_43 : decode b_PD_hasRoom 43 = .ok (.getfield 162, 3) := by decide +kernel
theorem d_PD_hasRoom_46 : decode b_PD_hasRoom 46 = .ok (.if_icmp .gt 7, 3) := by decide +kernel
theorem d_PD_hasRoom_49 : decode b_PD_hasRoom 49 = .ok (.iconst 1, 1) := by decide +kernel
theorem d_PD_hasRoom_50 : decode b_PD_hasRoom 50 = .ok (.goto 4, 3) := by decide +kernel
theorem d_PD_hasRoom_53 : decode b_PD_hasRoom 53 = .ok (.iconst 0, 1) := by decide +kernel
theorem d_PD_hasRoom_54 : decode b_PD_hasRoom 54 = .ok (.ireturn, 1) := by decide +kernel
theorem d_PD_mustCopyLast_0 : decode b_PD_mustCopyLast 0 = .ok (.iload_n 2, 1) := by decide +kernel
theorem d_PD_mustCopyLast_1 : decode b_PD_mustCopyLast 1 = .ok (.aload_n 1, 1) := by decide +kernel
theorem d_PD_mustCopyLast_2 : decode b_PD_mustCopyLast 2 = .ok (.getfield 67, 3) := by decide +kernel
theorem d_PD_mustCopyLast_5 : decode b_PD_mustCopyLast 5 = .ok (.if_icmp .le 39, 3) := by decide +kernel
theorem d_PD_mustCopyLast_8 : decode b_PD_mustCopyLast 8 = .ok (.aload_n 1, 1) := by decide +kernel
theorem d_PD_mustCopyLast_9 : decode b_PD_mustCopyLast 9 = .ok (.getfield 67, 3) := by decide +kernel
theorem d_PD_mustCopyLast_12 : decode b_PD_mustCopyLast 12 = .ok (.bipush 64, 2) := by decide +kernel
theorem d_PD_mustCopyLast_14 : decode b_PD_mustCopyLast 14 = .ok (.irem, 1) := by decide +kernel
theorem d_PD_mustCopyLast_15 : decode b_PD_mustCopyLast 15 = .ok (.ifCond .eq 29, 3) := by decide +kernel
theorem d_PD_mustCopyLast_18 : decode b_PD_mustCopyLast 18 = .ok (.aload_n 0, 1) := by decide +kernel
theorem d_PD_mustCopyLast_19 : decode b_PD_mustCopyLast 19 = .ok (.getfield 23, 3) := by decide +kernel
theorem d_PD_mustCopyLast_22 : decode b_PD_mustCopyLast 22 = .ok (.aload_n 1, 1) := by decide +kernel
theorem d_PD_mustCopyLast_23 : decode b_PD_mustCopyLast 23 = .ok (.getfield 171, 3) := by decide +kernel
theorem d_PD_mustCopyLast_26 : decode b_PD_mustCopyLast 26 = .ok (.aload_n 1, 1) := by decide +kernel
theorem d_PD_mustCopyLast_27 : decode b_PD_mustCopyLast 27 = .ok (.getfield 67, 3) := by decide +kernel
theorem d_PD_mustCopyLast_30 : decode b_PD_mustCopyLast 30 = .ok (.bipush 64, 2) := by decide +kernel
theorem d_PD_mustCopyLast_32 : decode b_PD_mustCopyLast 32 = .ok (.idiv, 1) := by decide +kernel
theorem d_PD_mustCopyLast_33 : decode b_PD_mustCopyLast 33 = .ok (.iaload, 1) := by decide +kernel
theorem d_PD_mustCopyLast_34 : decode b_PD_mustCopyLast 34 = .ok (.invokevirtual 175, 3) := by decide +kernel
theorem d_PD_mustCopyLast_37 : decode b_PD_mustCopyLast 37 = .ok (.ifCond .eq 7, 3) := by decide +kernel
theorem d_PD_mustCopyLast_40 : decode b_PD_mustCopyLast 40 = .ok (.iconst 1, 1) := by decide +kernel
theorem d_PD_mustCopyLast_41 : decode b_PD_mustCopyLast 41 = .ok (.goto 4, 3) := by decide +kernel
theorem d_PD_mustCopyLast_44 : decode b_PD_mustCopyLast 44 = .ok (.iconst 0, 1) := by decide +kernel
theorem d_PD_mustCopyLast_45 : decode b_PD_mustCopyLast 45 = .ok (.ireturn, 1) := by decide +kernel
theorem d_PD_grow_0 : decode b_PD_grow 0 = .ok (.aload_n 0, 1) := by decide +kernel
theorem d_PD_grow_1 : decode b_PD_grow 1 = .ok (.aload_n 1, 1) := by decide +kernel
theorem d_PD_grow_2 : decode b_PD_grow 2 = .ok (.iload_n 2, 1) := by decide +kernel
theorem d_PD_grow_3 : decode b_PD_grow 3 = .ok (.invokevirtual 168, 3) := by decide +kernel
theorem d_PD_grow_6 : decode b_PD_grow 6 = .ok (.ifCond .eq 30, 3) := by decide +kernel
theorem d_PD_grow_9 : decode b_PD_grow 9 = .ok (.aload_n 1, 1) := by decide +kernel
theorem d_PD_grow_10 : decode b_PD_grow 10 = .ok (.getfield 67, 3) := by decide +kernel
theorem d_PD_grow_13 : decode b_PD_grow 13 = .ok (.bipush 64, 2) := by decide +kernel
theorem d_PD_grow_15 : decode b_PD_grow 15 = .ok (.idiv, 1) := by decide +kernel
theorem d_PD_grow_16 : decode b_PD_grow 16 = .ok (.istore_n 3, 1) := by decide +kernel
theorem d_PD_grow_17 : decode b_PD_grow 17 = .ok (.aload_n 1, 1) := by decide +kernel
theorem d_PD_grow_18 : decode b_PD_grow 18 = .ok (.getfield 171, 3) := by decide +kernel
theorem d_PD_grow_21 : decode b_PD_grow 21 = .ok (.iload_n 3, 1) := by decide +kernel
theorem d_PD_grow_22 : decode b_PD_grow 22 = .ok (.aload_n 0, 1) := by decide +kernel
theorem d_PD_grow_23 : decode b_PD_grow 23 = .ok (.getfield 23, 3) := by decide +kernel
theorem d_PD_grow_26 : decode b_PD_grow 26 = .ok (.aload_n 1, 1) := by decide +kernel
theorem d_PD_grow_27 : decode b_PD_grow 27 = .ok (.getfield 171, 3) := by decide +kernel
theorem d_PD_grow_30 : decode b_PD_grow 30 = .ok (.iload_n 3, 1) := by decide +kernel
theorem d_PD_grow_31 : decode b_PD_grow 31 = .ok (.iaload, 1) := by decide +kernel
theorem d_PD_grow_32 : decode b_PD_grow 32 = .ok (.invokevirtual 178, 3) := by decide +kernel
theorem d_PD_grow_35 : decode b_PD_grow 35 = .ok (.iastore, 1) := by decide +kernel
theorem d_PD_grow_36 : decode b_PD_grow 36 = .ok (.aload_n 1, 1) := by decide +kernel
theorem d_PD_grow_37 : decode b_PD_grow 37 = .ok (.getfield 67, 3) := by decide +kernel
theorem d_PD_grow_40 : decode b_PD_grow 40 = .ok (.invokestatic 143, 3) := by decide +kernel
theorem d_PD_grow_43 : decode b_PD_grow 43 = .ok (.istore_n 3, 1) := by decide +kernel
theorem d_PD_grow_44 : decode b_PD_grow 44 = .ok (.iload_n 3, 1) := by decide +kernel
theorem d_PD_grow_45 : decode b_PD_grow 45 = .ok (.iload_n 2, 1) := by decide +kernel
theorem d_PD_grow_46 : decode b_PD_grow 46 = .ok (.invokestatic 143, 3) := by decide +kernel
theorem d_PD_grow_49 : decode b_PD_grow 49 = .ok (.if_icmp .ge 22, 3) := by decide +kernel
theorem d_PD_grow_52 : decode b_PD_grow 52 = .ok (.aload_n 1, 1) := by decide +kernel
theorem d_PD_grow_53 : decode b_PD_grow 53 = .ok (.getfield 171, 3) := by decide +kernel
theorem d_PD_grow_56 : decode b_PD_grow 56 = .ok (.iload_n 3, 1) := by decide +kernel
theorem d_PD_grow_57 : decode b_PD_grow 57 = .ok (.aload_n 0, 1) := by decide +kernel
theorem d_PD_grow_58 : decode b_PD_grow 58 = .ok (.getfield 23, 3) := by decide +kernel
theorem d_PD_grow_61 : decode b_PD_grow 61 = .ok (.invokevirtual 181, 3) := by decide +kernel
theorem d_PD_grow_64 : decode b_PD_grow 64 = .ok (.iastore, 1) := by decide +kernel
theorem d_PD_grow_65 : decode b_PD_grow 65 = .ok (.iinc 3 1, 3) := by decide +kernel
theorem d_PD_grow_68 : decode b_PD_grow 68 = .ok (.goto (-24), 3) := by decide +kernel
theorem d_PD_grow_71 : decode b_PD_grow 71 = .ok (.aload_n 1, 1) := by decide +kernel
theorem d_PD_grow_72 : decode b_PD_grow 72 = .ok (.iload_n 2, 1) := by decide +kernel
theorem d_PD_grow_73 : decode b_PD_grow 73 = .ok (.putfield 67, 3) := by decide +kernel
theorem d_PD_grow_76 : decode b_PD_grow 76 = .ok (.aload_n 1, 1) := by decide +kernel
theorem d_PD_grow_77 : decode b_PD_grow 77 = .ok (.iconst 1, 1) := by decide +kernel
theorem d_PD_grow_78 : decode b_PD_grow 78 = .ok (.putfield 91, 3) := by decide +kernel
theorem d_PD_grow_81 : decode b_PD_grow 81 = .ok (.return_, 1) := by decide +kernel
theorem d_PD_writeTape_0 : decode b_PD_writeTape 0 = .ok (.iload_n 2, 1) := by decide +kernel
theorem d_PD_writeTape_1 : decode b_PD_writeTape 1 = .ok (.istore 5, 2) := by decide +kernel
theorem d_PD_writeTape_3 : decode b_PD_writeTape 3 = .ok (.iconst 0, 1) := by decide +kernel
theorem d_PD_writeTape_4 : decode b_PD_writeTape 4 = .ok (.istore 6, 2) := by decide +kernel
theorem d_PD_writeTape_6 : decode b_PD_writeTape 6 = .ok (.iload 6, 2) := by decide +kernel
theorem d_PD_writeTape_8 : decode b_PD_writeTape 8 = .ok (.iload 4, 2) := by decide +kernel
theorem d_PD_writeTape_10 : decode b_PD_writeTape 10 = .ok (.if_icmp .ge 48, 3) := by decide +kernel
theorem d_PD_writeTape_13 : decode b_PD_writeTape 13 = .ok (.iconst 0, 1) := by decide +kernel
theorem d_PD_writeTape_14 : decode b_PD_writeTape 14 = .ok (.istore 7, 2) := by decide +kernel
theorem d_PD_writeTape_16 : decode b_PD_writeTape 16 = .ok (.iload 7, 2) := by decide +kernel
theorem d_PD_writeTape_18 : decode b_PD_writeTape 18 = .ok (.iload_n 3, 1) := by decide +kernel
theorem d_PD_writeTape_19 : decode b_PD_writeTape 19 = .ok (.if_icmp .ge 33, 3) := by decide +kernel
theorem d_PD_writeTape_22 : decode b_PD_writeTape 22 = .ok (.aload_n 0, 1) := by decide +kernel
theorem d_PD_writeTape_23 : decode b_PD_writeTape 23 = .ok (.getfield 23, 3) := by decide +kernel
theorem d_PD_writeTape_26 : decode b_PD_writeTape 26 = .ok (.getfield 153, 3) := by decide +kernel
theorem d_PD_writeTape_29 : decode b_PD_writeTape 29 = .ok (.aload_n 1, 1) := by decide +kernel
theorem d_PD_writeTape_30 : decode b_PD_writeTape 30 = .ok (.iload 5, 2) := by decide +kernel
theorem d_PD_writeTape_32 : decode b_PD_writeTape 32 = .ok (.invokevirtual 156, 3) := by decide +kernel
theorem d_PD_writeTape_35 : decode b_PD_writeTape 35 = .ok (.aload_n 0, 1) := by decide +kernel
theorem d_PD_writeTape_36 : decode b_PD_writeTape 36 = .ok (.getfield 34, 3) := by decide +kernel
theorem d_PD_writeTape_39 : decode b_PD_writeTape 39 = .ok (.iload 7, 2) := by decide +kernel
theorem d_PD_writeTape_41 : decode b_PD_writeTape 41 = .ok (.baload, 1) := by decide +kernel
theorem d_PD_writeTape_42 : decode b_PD_writeTape 42 = .ok (.bastore, 1) := by decide +kernel
theorem d_PD_writeTape_43 : decode b_PD_writeTape 43 = .ok (.iinc 5 1, 3) := by decide +kernel
theorem d_PD_writeTape_46 : decode b_PD_writeTape 46 = .ok (.iinc 7 1, 3) := by decide +kernel
theorem d_PD_writeTape_49 : decode b_PD_writeTape 49 = .ok (.goto (-33), 3) := by decide +kernel
theorem d_PD_writeTape_52 : decode b_PD_writeTape 52 = .ok (.iinc 6 1, 3) := by decide +kernel
theorem d_PD_writeTape_55 : decode b_PD_writeTape 55 = .ok (.goto (-49), 3) := by decide +kernel
theorem d_PD_writeTape_58 : decode b_PD_writeTape 58 = .ok (.return_, 1) := by decide +kernel
theorem d_PD_shorten_0 : decode b_PD_shorten 0 = .ok (.iload_n 2, 1) := by decide +kernel
theorem d_PD_shorten_1 : decode b_PD_shorten 1 = .ok (.invokestatic 143, 3) := by decide +kernel
theorem d_PD_shorten_4 : decode b_PD_shorten 4 = .ok (.istore_n 3, 1) := by decide +kernel
theorem d_PD_shorten_5 : decode b_PD_shorten 5 = .ok (.iload_n 3, 1) := by decide +kernel
theorem d_PD_shorten_6 : decode b_PD_shorten 6 = .ok (.aload_n 1, 1) := by decide +kernel
theorem d_PD_shorten_7 : decode b_PD_shorten 7 = .ok (.getfield 67, 3) := by decide +kernel
theorem d_PD_shorten_10 : decode b_PD_shorten 10 = .ok (.invokestatic 143, 3) := by decide +kernel
theorem d_PD_shorten_13 : decode b_PD_shorten 13 = .ok (.if_icmp .ge 22, 3) := by decide +kernel
theorem d_PD_shorten_16 : decode b_PD_shorten 16 = .ok (.aload_n 0, 1) := by decide +kernel
theorem d_PD_shorten_17 : decode b_PD_shorten 17 = .ok (.getfield 23, 3) := by decide +kernel
theorem d_PD_shorten_20 : decode b_PD_shorten 20 = .ok (.aload_n 1, 1) := by decide +kernel
theorem d_PD_shorten_21 : decode b_PD_shorten 21 = .ok (.getfield 171, 3) := by decide +kernel
theorem d_PD_shorten_24 : decode b_PD_shorten 24 = .ok (.iload_n 3, 1) := by decide +kernel
theorem d_PD_shorten_25 : decode b_PD_shorten 25 = .ok (.iaload, 1) := by decide +kernel
theorem d_PD_shorten_26 : decode b_PD_shorten 26 = .ok (.invokevirtual 184, 3) := by decide +kernel
theorem d_PD_shorten_29 : decode b_PD_shorten 29 = .ok (.iinc 3 1, 3) := by decide +kernel
theorem d_PD_shorten_32 : decode b_PD_shorten 32 = .ok (.goto (-27), 3) := by decide +kernel
theorem d_PD_shorten_35 : decode b_PD_shorten 35 = .ok (.aload_n 1, 1) := by decide +kernel
theorem d_PD_shorten_36 : decode b_PD_shorten 36 = .ok (.iload_n 2, 1) := by decide +kernel
theorem d_PD_shorten_37 : decode b_PD_shorten 37 = .ok (.putfield 67, 3) := by decide +kernel
theorem d_PD_shorten_40 : decode b_PD_shorten 40 = .ok (.return_, 1) := by decide +kernel
theorem d_PD_become_0 : decode b_PD_become 0 = .ok (.aload_n 1, 1) := by decide +kernel
theorem d_PD_become_1 : decode b_PD_become 1 = .ok (.aload_n 2, 1) := by decide +kernel
theorem d_PD_become_2 : decode b_PD_become 2 = .ok (.if_acmp .ne 4, 3) := by decide +kernel
theorem d_PD_become_5 : decode b_PD_become 5 = .ok (.return_, 1) := by decide +kernel
theorem d_PD_become_6 : decode b_PD_become 6 = .ok (.aload_n 2, 1) := by decide +kernel
theorem d_PD_become_7 : decode b_PD_become 7 = .ok (.getfield 67, 3) := by decide +kernel
theorem d_PD_become_10 : decode b_PD_become 10 = .ok (.invokestatic 143, 3) := by decide +kernel
theorem d_PD_become_13 : decode b_PD_become 13 = .ok (.istore_n 3, 1) := by decide +kernel
theorem d_PD_become_14 : decode b_PD_become 14 = .ok (.iconst 0, 1) := by decide +kernel
theorem d_PD_become_15 : decode b_PD_become 15 = .ok (.istore 4, 2) := by decide +kernel
theorem d_PD_become_17 : decode b_PD_become 17 = .ok (.iload 4, 2) := by decide +kernel
theorem d_PD_become_19 : decode b_PD_become 19 = .ok (.iload_n 3, 1) := by decide +kernel
theorem d_PD_become_20 : decode b_PD_become 20 = .ok (.if_icmp .ge 23, 3) := by decide +kernel
theorem d_PD_become_23 : decode b_PD_become 23 = .ok (.aload_n 0, 1) := by decide +kernel
theorem d_PD_become_24 : decode b_PD_become 24 = .ok (.getfield 23, 3) := by decide +kernel
theorem d_PD_become_27 : decode b_PD_become 27 = .ok (.aload_n 2, 1) := by decide +kernel
theorem d_PD_become_28 : decode b_PD_become 28 = .ok (.getfield 171, 3) := by decide +kernel
theorem d_PD_become_31 : decode b_PD_become 31 = .ok (.iload 4, 2) := by decide +kernel
theorem d_PD_become_33 : decode b_PD_become 33 = .ok (.iaload, 1) := by decide +kernel
theorem d_PD_become_34 : decode b_PD_become 34 = .ok (.invokevirtual 187, 3) := by decide +kernel
theorem d_PD_become_37 : decode b_PD_become 37 = .ok (.iinc 4 1, 3) := by decide +kernel
theorem d_PD_become_40 : decode b_PD_become 40 = .ok (.goto (-23), 3) := by decide +kernel
theorem d_PD_become_43 : decode b_PD_become 43 = .ok (.aload_n 0, 1) := by decide +kernel
theorem d_PD_become_44 : decode b_PD_become 44 = .ok (.aload_n 1, 1) := by decide +kernel
theorem d_PD_become_45 : decode b_PD_become 45 = .ok (.iconst 0, 1) := by decide +kernel
theorem d_PD_become_46 : decode b_PD_become 46 = .ok (.invokevirtual 102, 3) := by decide +kernel
theorem d_PD_become_49 : decode b_PD_become 49 = .ok (.aload_n 2, 1) := by decide +kernel
theorem d_PD_become_50 : decode b_PD_become 50 = .ok (.getfield 171, 3) := by decide +kernel
theorem d_PD_become_53 : decode b_PD_become 53 = .ok (.iconst 0, 1) := by decide +kernel
theorem d_PD_become_54 : decode b_PD_become 54 = .ok (.aload_n 1, 1) := by decide +kernel
theorem d_PD_become_55 : decode b_PD_become 55 = .ok (.getfield 171, 3) := by decide +kernel
theorem d_PD_become_58 : decode b_PD_become 58 = .ok (.iconst 0, 1) := by decide +kernel
theorem d_PD_become_59 : decode b_PD_become 59 = .ok (.iload_n 3, 1) := by decide +kernel
theorem d_PD_become_60 : decode b_PD_become 60 = .ok (.invokestatic 190, 3) := by decide +kernel
theorem d_PD_become_63 : decode b_PD_become 63 = .ok (.aload_n 1, 1) := by decide +kernel
theorem d_PD_become_64 : decode b_PD_become 64 = .ok (.aload_n 2, 1) := by decide +kernel
theorem d_PD_become_65 : decode b_PD_become 65 = .ok (.getfield 67, 3) := by decide +kernel
theorem d_PD_become_68 : decode b_PD_become 68 = .ok (.putfield 67, 3) := by decide +kernel
theorem d_PD_become_71 : decode b_PD_become 71 = .ok (.aload_n 1, 1) := by decide +kernel
theorem d_PD_become_72 : decode b_PD_become 72 = .ok (.aload_n 2, 1) := by decide +kernel
theorem d_PD_become_73 : decode b_PD_become 73 = .ok (.getfield 91, 3) := by decide +kernel
theorem d_PD_become_76 : decode b_PD_become 76 = .ok (.putfield 91, 3) := by decide +kernel
theorem d_PD_become_79 : decode b_PD_become 79 = .ok (.return_, 1) := by decide +kernel
theorem d_PD_settle_0 : decode b_PD_settle 0 = .ok (.aload_n 0, 1) := by decide +kernel
theorem d_PD_settle_1 : decode b_PD_settle 1 = .ok (.aload_n 1, 1) := by decide +kernel
theorem d_PD_settle_2 : decode b_PD_settle 2 = .ok (.getfield 112, 3) := by decide +kernel
theorem d_PD_settle_5 : decode b_PD_settle 5 = .ok (.aload_n 1, 1) := by decide +kernel
theorem d_PD_settle_6 : decode b_PD_settle 6 = .ok (.getfield 63, 3) := by decide +kernel
theorem d_PD_settle_9 : decode b_PD_settle 9 = .ok (.invokevirtual 108, 3) := by decide +kernel
theorem d_PD_settle_12 : decode b_PD_settle 12 = .ok (.aload_n 1, 1) := by decide +kernel
theorem d_PD_settle_13 : decode b_PD_settle 13 = .ok (.aload_n 1, 1) := by decide +kernel
theorem d_PD_settle_14 : decode b_PD_settle 14 = .ok (.getfield 63, 3) := by decide +kernel
theorem d_PD_settle_17 : decode b_PD_settle 17 = .ok (.getfield 67, 3) := by decide +kernel
theorem d_PD_settle_20 : decode b_PD_settle 20 = .ok (.putfield 105, 3) := by decide +kernel
theorem d_PD_settle_23 : decode b_PD_settle 23 = .ok (.return_, 1) := by decide +kernel
theorem d_PD_fall_0 : decode b_PD_fall 0 = .ok (.iload_n 2, 1) := by decide +kernel
theorem d_PD_fall_1 : decode b_PD_fall 1 = .ok (.ifCond .ne 18, 3) := by decide +kernel
theorem d_PD_fall_4 : decode b_PD_fall 4 = .ok (.aload_n 0, 1) := by decide +kernel
theorem d_PD_fall_5 : decode b_PD_fall 5 = .ok (.aload_n 1, 1) := by decide +kernel
theorem d_PD_fall_6 : decode b_PD_fall 6 = .ok (.getfield 63, 3) := by decide +kernel
theorem d_PD_fall_9 : decode b_PD_fall 9 = .ok (.aload_n 1, 1) := by decide +kernel
theorem d_PD_fall_10 : decode b_PD_fall 10 = .ok (.getfield 112, 3) := by decide +kernel
theorem d_PD_fall_13 : decode b_PD_fall 13 = .ok (.invokevirtual 108, 3) := by decide +kernel
theorem d_PD_fall_16 : decode b_PD_fall 16 = .ok (.goto 37, 3) := by decide +kernel
theorem d_PD_fall_19 : decode b_PD_fall 19 = .ok (.aload_n 1, 1) := by decide +kernel
theorem d_PD_fall_20 : decode b_PD_fall 20 = .ok (.getfield 63, 3) := by decide +kernel
theorem d_PD_fall_23 : decode b_PD_fall 23 = .ok (.getfield 67, 3) := by decide +kernel
theorem d_PD_fall_26 : decode b_PD_fall 26 = .ok (.aload_n 1, 1) := by decide +kernel
theorem d_PD_fall_27 : decode b_PD_fall 27 = .ok (.getfield 105, 3) := by decide +kernel
theorem d_PD_fall_30 : decode b_PD_fall 30 = .ok (.isub, 1) := by decide +kernel
theorem d_PD_fall_31 : decode b_PD_fall 31 = .ok (.iload_n 2, 1) := by decide +kernel
theorem d_PD_fall_32 : decode b_PD_fall 32 = .ok (.iconst 1, 1) := by decide +kernel
theorem d_PD_fall_33 : decode b_PD_fall 33 = .ok (.isub, 1) := by decide +kernel
theorem d_PD_fall_34 : decode b_PD_fall 34 = .ok (.if_icmp .le 19, 3) := by decide +kernel
theorem d_PD_fall_37 : decode b_PD_fall 37 = .ok (.aload_n 0, 1) := by decide +kernel
theorem d_PD_fall_38 : decode b_PD_fall 38 = .ok (.aload_n 1, 1) := by decide +kernel
theorem d_PD_fall_39 : decode b_PD_fall 39 = .ok (.getfield 63, 3) := by decide +kernel
theorem d_PD_fall_42 : decode b_PD_fall 42 = .ok (.aload_n 1, 1) := by decide +kernel
theorem d_PD_fall_43 : decode b_PD_fall 43 = .ok (.getfield 105, 3) := by decide +kernel
theorem d_PD_fall_46 : decode b_PD_fall 46 = .ok (.iload_n 2, 1) := by decide +kernel
theorem d_PD_fall_47 : decode b_PD_fall 47 = .ok (.iadd, 1) := by decide +kernel
theorem d_PD_fall_48 : decode b_PD_fall 48 = .ok (.iconst 1, 1) := by decide +kernel
theorem d_PD_fall_49 : decode b_PD_fall 49 = .ok (.isub, 1) := by decide +kernel
theorem d_PD_fall_50 : decode b_PD_fall 50 = .ok (.invokevirtual 102, 3) := by decide +kernel
theorem d_PD_fall_53 : decode b_PD_fall 53 = .ok (.aload_n 0, 1) := by decide +kernel
theorem d_PD_fall_54 : decode b_PD_fall 54 = .ok (.aload_n 1, 1) := by decide +kernel
theorem d_PD_fall_55 : decode b_PD_fall 55 = .ok (.invokevirtual 119, 3) := by decide +kernel
theorem d_PD_fall_58 : decode b_PD_fall 58 = .ok (.return_, 1) := by decide +kernel
theorem d_PD_keepOf_0 : decode b_PD_keepOf 0 = .ok (.lload_n 0, 1) := by decide +kernel
theorem d_PD_keepOf_1 : decode b_PD_keepOf 1 = .ok (.bipush 61, 2) := by decide +kernel
theorem d_PD_keepOf_3 : decode b_PD_keepOf 3 = .ok (.lushr, 1) := by decide +kernel
theorem d_PD_keepOf_4 : decode b_PD_keepOf 4 = .ok (.lconst 0, 1) := by decide +kernel
theorem d_PD_keepOf_5 : decode b_PD_keepOf 5 = .ok (.lcmp, 1) := by decide +kernel
theorem d_PD_keepOf_6 : decode b_PD_keepOf 6 = .ok (.ifCond .ne 5, 3) := by decide +kernel
theorem d_PD_keepOf_9 : decode b_PD_keepOf 9 = .ok (.iconst 0, 1) := by decide +kernel
theorem d_PD_keepOf_10 : decode b_PD_keepOf 10 = .ok (.ireturn, 1) := by decide +kernel
theorem d_PD_keepOf_11 : decode b_PD_keepOf 11 = .ok (.lload_n 0, 1) := by decide +kernel
theorem d_PD_keepOf_12 : decode b_PD_keepOf 12 = .ok (.bipush 33, 2) := by decide +kernel
theorem d_PD_keepOf_14 : decode b_PD_keepOf 14 = .ok (.lushr, 1) := by decide +kernel
theorem d_PD_keepOf_15 : decode b_PD_keepOf 15 = .ok (.ldc2_w 196, 3) := by decide +kernel
theorem d_PD_keepOf_18 : decode b_PD_keepOf 18 = .ok (.land, 1) := by decide +kernel
theorem d_PD_keepOf_19 : decode b_PD_keepOf 19 = .ok (.l2i, 1) := by decide +kernel
theorem d_PD_keepOf_20 : decode b_PD_keepOf 20 = .ok (.istore_n 3, 1) := by decide +kernel
theorem d_PD_keepOf_21 : decode b_PD_keepOf 21 = .ok (.iconst 1, 1) := by decide +kernel
theorem d_PD_keepOf_22 : decode b_PD_keepOf 22 = .ok (.iconst 2, 1) := by decide +kernel
theorem d_PD_keepOf_23 : decode b_PD_keepOf 23 = .ok (.aload_n 2, 1) := by decide +kernel
theorem d_PD_keepOf_24 : decode b_PD_keepOf 24 = .ok (.getfield 63, 3) := by decide +kernel
theorem d_PD_keepOf_27 : decode b_PD_keepOf 27 = .ok (.getfield 67, 3) := by decide +kernel
theorem d_PD_keepOf_30 : decode b_PD_keepOf 30 = .ok (.aload_n 2, 1) := by decide +kernel
theorem d_PD_keepOf_31 : decode b_PD_keepOf 31 = .ok (.getfield 105, 3) := by decide +kernel
theorem d_PD_keepOf_34 : decode b_PD_keepOf 34 = .ok (.isub, 1) := by decide +kernel
theorem d_PD_keepOf_35 : decode b_PD_keepOf 35 = .ok (.imul, 1) := by decide +kernel
theorem d_PD_keepOf_36 : decode b_PD_keepOf 36 = .ok (.iconst 1, 1) := by decide +kernel
theorem d_PD_keepOf_37 : decode b_PD_keepOf 37 = .ok (.iadd, 1) := by decide +kernel
theorem d_PD_keepOf_38 : decode b_PD_keepOf 38 = .ok (.invokestatic 17, 3) := by decide +kernel
theorem d_PD_keepOf_41 : decode b_PD_keepOf 41 = .ok (.istore 4, 2) := by decide +kernel
theorem d_PD_keepOf_43 : decode b_PD_keepOf 43 = .ok (.iconst 1, 1) := by decide +kernel
theorem d_PD_keepOf_44 : decode b_PD_keepOf 44 = .ok (.iload_n 3, 1) := by decide +kernel
theorem d_PD_keepOf_45 : decode b_PD_keepOf 45 = .ok (.iload 4, 2) := by decide +kernel
theorem d_PD_keepOf_47 : decode b_PD_keepOf 47 = .ok (.irem, 1) := by decide +kernel
theorem d_PD_keepOf_48 : decode b_PD_keepOf 48 = .ok (.iadd, 1) := by decide +kernel
theorem d_PD_keepOf_49 : decode b_PD_keepOf 49 = .ok (.ireturn, 1) := by decide +kernel
theorem d_PD_pagesNotIn_0 : decode b_PD_pagesNotIn 0 = .ok (.aload_n 0, 1) := by decide +kernel
theorem d_PD_pagesNotIn_1 : decode b_PD_pagesNotIn 1 = .ok (.getfield 67, 3) := by decide +kernel
theorem d_PD_pagesNotIn_4 : decode b_PD_pagesNotIn 4 = .ok (.invokestatic 143, 3) := by decide +kernel
theorem d_PD_pagesNotIn_7 : decode b_PD_pagesNotIn 7 = .ok (.istore_n 2, 1) := by decide +kernel
theorem d_PD_pagesNotIn_8 : decode b_PD_pagesNotIn 8 = .ok (.iconst 0, 1) := by decide +kernel
theorem d_PD_pagesNotIn_9 : decode b_PD_pagesNotIn 9 = .ok (.istore_n 3, 1) := by decide +kernel
theorem d_PD_pagesNotIn_10 : decode b_PD_pagesNotIn 10 = .ok (.iconst 0, 1) := by decide +kernel
theorem d_PD_pagesNotIn_11 : decode b_PD_pagesNotIn 11 = .ok (.istore 4, 2) := by decide +kernel
theorem d_PD_pagesNotIn_13 : decode b_PD_pagesNotIn 13 = .ok (.iload 4, 2) := by decide +kernel
theorem d_PD_pagesNotIn_15 : decode b_PD_pagesNotIn 15 = .ok (.aload_n 1, 1) := by decide +kernel
theorem d_PD_pagesNotIn_16 : decode b_PD_pagesNotIn 16 = .ok (.getfield 67, 3) := by decide +kernel
theorem d_PD_pagesNotIn_19 : decode b_PD_pagesNotIn 19 = .ok (.invokestatic 143, 3) := by decide +kernel
theorem d_PD_pagesNotIn_22 : decode b_PD_pagesNotIn 22 = .ok (.if_icmp .ge 35, 3) := by decide +kernel
theorem d_PD_pagesNotIn_25 : decode b_PD_pagesNotIn 25 = .ok (.iload 4, 2) := by decide +kernel
theorem d_PD_pagesNotIn_27 : decode b_PD_pagesNotIn 27 = .ok (.iload_n 2, 1) := by decide +kernel
theorem d_PD_pagesNotIn_28 : decode b_PD_pagesNotIn 28 = .ok (.if_icmp .ge 20, 3) := by decide +kernel
theorem d_PD_pagesNotIn_31 : decode b_PD_pagesNotIn 31 = .ok (.aload_n 1, 1) := by decide +kernel
theorem d_PD_pagesNotIn_32 : decode b_PD_pagesNotIn 32 = .ok (.getfield 171, 3) := by decide +kernel
theorem d_PD_pagesNotIn_35 : decode b_PD_pagesNotIn 35 = .ok (.iload 4, 2) := by decide +kernel
theorem d_PD_pagesNotIn_37 : decode b_PD_pagesNotIn 37 = .ok (.iaload, 1) := by decide +kernel
theorem d_PD_pagesNotIn_38 : decode b_PD_pagesNotIn 38 = .ok (.aload_n 0, 1) := by decide +kernel
theorem d_PD_pagesNotIn_39 : decode b_PD_pagesNotIn 39 = .ok (.getfield 171, 3) := by decide +kernel
theorem d_PD_pagesNotIn_42 : decode b_PD_pagesNotIn 42 = .ok (.iload 4, 2) := by decide +kernel
theorem d_PD_pagesNotIn_44 : decode b_PD_pagesNotIn 44 = .ok (.iaload, 1) := by decide +kernel
theorem d_PD_pagesNotIn_45 : decode b_PD_pagesNotIn 45 = .ok (.if_icmp .eq 6, 3) := by decide +kernel
theorem d_PD_pagesNotIn_48 : decode b_PD_pagesNotIn 48 = .ok (.iinc 3 1, 3) := by decide +kernel
theorem d_PD_pagesNotIn_51 : decode b_PD_pagesNotIn 51 = .ok (.iinc 4 1, 3) := by decide +kernel
theorem d_PD_pagesNotIn_54 : decode b_PD_pagesNotIn 54 = .ok (.goto (-41), 3) := by decide +kernel
theorem d_PD_pagesNotIn_57 : decode b_PD_pagesNotIn 57 = .ok (.iload_n 3, 1) := by decide +kernel
theorem d_PD_pagesNotIn_58 : decode b_PD_pagesNotIn 58 = .ok (.ireturn, 1) := by decide +kernel
theorem d_PD_sharedPages_0 : decode b_PD_sharedPages 0 = .ok (.iconst 0, 1) := by decide +kernel
theorem d_PD_sharedPages_1 : decode b_PD_sharedPages 1 = .ok (.istore_n 2, 1) := by decide +kernel
theorem d_PD_sharedPages_2 : decode b_PD_sharedPages 2 = .ok (.iconst 0, 1) := by decide +kernel
theorem d_PD_sharedPages_3 : decode b_PD_sharedPages 3 = .ok (.istore_n 3, 1) := by decide +kernel
theorem d_PD_sharedPages_4 : decode b_PD_sharedPages 4 = .ok (.iload_n 3, 1) := by decide +kernel
theorem d_PD_sharedPages_5 : decode b_PD_sharedPages 5 = .ok (.aload_n 1, 1) := by decide +kernel
theorem d_PD_sharedPages_6 : decode b_PD_sharedPages 6 = .ok (.getfield 67, 3) := by decide +kernel
theorem d_PD_sharedPages_9 : decode b_PD_sharedPages 9 = .ok (.invokestatic 143, 3) := by decide +kernel
theorem d_PD_sharedPages_12 : decode b_PD_sharedPages 12 = .ok (.if_icmp .ge 28, 3) := by decide +kernel
theorem d_PD_sharedPages_15 : decode b_PD_sharedPages 15 = .ok (.aload_n 0, 1) := by decide +kernel
theorem d_PD_sharedPages_16 : decode b_PD_sharedPages 16 = .ok (.getfield 23, 3) := by decide +kernel
theorem d_PD_sharedPages_19 : decode b_PD_sharedPages 19 = .ok (.aload_n 1, 1) := by decide +kernel
theorem d_PD_sharedPages_20 : decode b_PD_sharedPages 20 = .ok (.getfield 171, 3) := by decide +kernel
theorem d_PD_sharedPages_23 : decode b_PD_sharedPages 23 = .ok (.iload_n 3, 1) := by decide +kernel
theorem d_PD_sharedPages_24 : decode b_PD_sharedPages 24 = .ok (.iaload, 1) := by decide +kernel
theorem d_PD_sharedPages_25 : decode b_PD_sharedPages 25 = .ok (.invokevirtual 175, 3) := by decide +kernel
theorem d_PD_sharedPages_28 : decode b_PD_sharedPages 28 = .ok (.ifCond .eq 6, 3) := by decide +kernel
theorem d_PD_sharedPages_31 : decode b_PD_sharedPages 31 = .ok (.iinc 2 1, 3) := by decide +kernel
theorem d_PD_sharedPages_34 : decode b_PD_sharedPages 34 = .ok (.iinc 3 1, 3) := by decide +kernel
theorem d_PD_sharedPages_37 : decode b_PD_sharedPages 37 = .ok (.goto (-33), 3) := by decide +kernel
theorem d_PD_sharedPages_40 : decode b_PD_sharedPages 40 = .ok (.iload_n 2, 1) := by decide +kernel
theorem d_PD_sharedPages_41 : decode b_PD_sharedPages 41 = .ok (.ireturn, 1) := by decide +kernel
theorem d_CO_init_0 : decode b_CO_init 0 = .ok (.aload_n 0, 1) := by decide +kernel
theorem d_CO_init_1 : decode b_CO_init 1 = .ok (.invokespecial 3, 3) := by decide +kernel
theorem d_CO_init_4 : decode b_CO_init 4 = .ok (.aload_n 0, 1) := by decide +kernel
theorem d_CO_init_5 : decode b_CO_init 5 = .ok (.sipush 400, 3) := by decide +kernel
theorem d_CO_init_8 : decode b_CO_init 8 = .ok (.newarray .int, 2) := by decide +kernel
theorem d_CO_init_10 : decode b_CO_init 10 = .ok (.putfield 9, 3) := by decide +kernel
theorem d_CO_init_13 : decode b_CO_init 13 = .ok (.aload_n 0, 1) := by decide +kernel
theorem d_CO_init_14 : decode b_CO_init 14 = .ok (.iconst 0, 1) := by decide +kernel
theorem d_CO_init_15 : decode b_CO_init 15 = .ok (.putfield 15, 3) := by decide +kernel
theorem d_CO_init_18 : decode b_CO_init 18 = .ok (.aload_n 0, 1) := by decide +kernel
theorem d_CO_init_19 : decode b_CO_init 19 = .ok (.iconst 0, 1) := by decide +kernel
theorem d_CO_init_20 : decode b_CO_init 20 = .ok (.putfield 19, 3) := by decide +kernel
theorem d_CO_init_23 : decode b_CO_init 23 = .ok (.return_, 1) := by decide +kernel
theorem d_CO_placeOf_0 : decode b_CO_placeOf 0 = .ok (.aload_n 0, 1) := by decide +kernel
theorem d_CO_placeOf_1 : decode b_CO_placeOf 1 = .ok (.getfield 9, 3) := by decide +kernel
theorem d_CO_placeOf_4 : decode b_CO_placeOf 4 = .ok (.iload_n 1, 1) := by decide +kernel
theorem d_CO_placeOf_5 : decode b_CO_placeOf 5 = .ok (.bipush 64, 2) := by decide +kernel
theorem d_CO_placeOf_7 : decode b_CO_placeOf 7 = .ok (.idiv, 1) := by decide +kernel
theorem d_CO_placeOf_8 : decode b_CO_placeOf 8 = .ok (.iaload, 1) := by decide +kernel
theorem d_CO_placeOf_9 : decode b_CO_placeOf 9 = .ok (.bipush 64, 2) := by decide +kernel
theorem d_CO_placeOf_11 : decode b_CO_placeOf 11 = .ok (.imul, 1) := by decide +kernel
theorem d_CO_placeOf_12 : decode b_CO_placeOf 12 = .ok (.iload_n 1, 1) := by decide +kernel
theorem d_CO_placeOf_13 : decode b_CO_placeOf 13 = .ok (.bipush 64, 2) := by decide +kernel
theorem d_CO_placeOf_15 : decode b_CO_placeOf 15 = .ok (.irem, 1) := by decide +kernel
theorem d_CO_placeOf_16 : decode b_CO_placeOf 16 = .ok (.iadd, 1) := by decide +kernel
theorem d_CO_placeOf_17 : decode b_CO_placeOf 17 = .ok (.ireturn, 1) := by decide +kernel
theorem d_EN_init_0 : decode b_EN_init 0 = .ok (.aload_n 0, 1) := by decide +kernel
theorem d_EN_init_1 : decode b_EN_init 1 = .ok (.invokespecial 1, 3) := by decide +kernel
theorem d_EN_init_4 : decode b_EN_init 4 = .ok (.aload_n 0, 1) := by decide +kernel
theorem d_EN_init_5 : decode b_EN_init 5 = .ok (.new 7, 3) := by decide +kernel
theorem d_EN_init_8 : decode b_EN_init 8 = .ok (.dup, 1) := by decide +kernel
theorem d_EN_init_9 : decode b_EN_init 9 = .ok (.invokespecial 9, 3) := by decide +kernel
theorem d_EN_init_12 : decode b_EN_init 12 = .ok (.putfield 10, 3) := by decide +kernel
theorem d_EN_init_15 : decode b_EN_init 15 = .ok (.aload_n 0, 1) := by decide +kernel
theorem d_EN_init_16 : decode b_EN_init 16 = .ok (.new 7, 3) := by decide +kernel
theorem d_EN_init_19 : decode b_EN_init 19 = .ok (.dup, 1) := by decide +kernel
theorem d_EN_init_20 : decode b_EN_init 20 = .ok (.invokespecial 9, 3) := by decide +kernel
theorem d_EN_init_23 : decode b_EN_init 23 = .ok (.putfield 16, 3) := by decide +kernel
theorem d_EN_init_26 : decode b_EN_init 26 = .ok (.aload_n 0, 1) := by decide +kernel
theorem d_EN_init_27 : decode b_EN_init 27 = .ok (.iconst 0, 1) := by decide +kernel
theorem d_EN_init_28 : decode b_EN_init 28 = .ok (.putfield 19, 3) := by decide +kernel
theorem d_EN_init_31 : decode b_EN_init 31 = .ok (.return_, 1) := by decide +kernel
theorem d_PO_init_0 : decode b_PO_init 0 = .ok (.aload_n 0, 1) := by decide +kernel
theorem d_PO_init_1 : decode b_PO_init 1 = .ok (.invokespecial 3, 3) := by decide +kernel
theorem d_PO_init_4 : decode b_PO_init 4 = .ok (.aload_n 0, 1) := by decide +kernel
theorem d_PO_init_5 : decode b_PO_init 5 = .ok (.iload_n 1, 1) := by decide +kernel
theorem d_PO_init_6 : decode b_PO_init 6 = .ok (.putfield 9, 3) := by decide +kernel
theorem d_PO_init_9 : decode b_PO_init 9 = .ok (.aload_n 0, 1) := by decide +kernel
theorem d_PO_init_10 : decode b_PO_init 10 = .ok (.iload_n 1, 1) := by decide +kernel
theorem d_PO_init_11 : decode b_PO_init 11 = .ok (.bipush 64, 2) := by decide +kernel
theorem d_PO_init_13 : decode b_PO_init 13 = .ok (.imul, 1) := by decide +kernel
theorem d_PO_init_14 : decode b_PO_init 14 = .ok (.newarray .byte, 2) := by decide +kernel
theorem d_PO_init_16 : decode b_PO_init 16 = .ok (.putfield 15, 3) := by decide +kernel
theorem d_PO_init_19 : decode b_PO_init 19 = .ok (.aload_n 0, 1) := by decide +kernel
theorem d_PO_init_20 : decode b_PO_init 20 = .ok (.iload_n 1, 1) := by decide +kernel
theorem d_PO_init_21 : decode b_PO_init 21 = .ok (.newarray .int, 2) := by decide +kernel
theorem d_PO_init_23 : decode b_PO_init 23 = .ok (.putfield 19, 3) := by decide +kernel
theorem d_PO_init_26 : decode b_PO_init 26 = .ok (.aload_n 0, 1) := by decide +kernel
theorem d_PO_init_27 : decode b_PO_init 27 = .ok (.iload_n 1, 1) := by decide +kernel
theorem d_PO_init_28 : decode b_PO_init 28 = .ok (.newarray .int, 2) := by decide +kernel
theorem d_PO_init_30 : decode b_PO_init 30 = .ok (.putfield 23, 3) := by decide +kernel
theorem d_PO_init_33 : decode b_PO_init 33 = .ok (.iconst 0, 1) := by decide +kernel
theorem d_PO_init_34 : decode b_PO_init 34 = .ok (.istore_n 2, 1) := by decide +kernel
theorem d_PO_init_35 : decode b_PO_init 35 = .ok (.iload_n 2, 1) := by decide +kernel
theorem d_PO_init_36 : decode b_PO_init 36 = .ok (.iload_n 1, 1) := by decide +kernel
theorem d_PO_init_37 : decode b_PO_init 37 = .ok (.if_icmp .ge 16, 3) := by decide +kernel
theorem d_PO_init_40 : decode b_PO_init 40 = .ok (.aload_n 0, 1) := by decide +kernel
theorem d_PO_init_41 : decode b_PO_init 41 = .ok (.getfield 23, 3) := by decide +kernel
theorem d_PO_init_44 : decode b_PO_init 44 = .ok (.iload_n 2, 1) := by decide +kernel
theorem d_PO_init_45 : decode b_PO_init 45 = .ok (.iload_n 2, 1) := by decide +kernel
theorem d_PO_init_46 : decode b_PO_init 46 = .ok (.iastore, 1) := by decide +kernel
theorem d_PO_init_47 : decode b_PO_init 47 = .ok (.iinc 2 1, 3) := by decide +kernel
theorem d_PO_init_50 : decode b_PO_init 50 = .ok (.goto (-15), 3) := by decide +kernel
theorem d_PO_init_53 : decode b_PO_init 53 = .ok (.aload_n 0, 1) := by decide +kernel
theorem d_PO_init_54 : decode b_PO_init 54 = .ok (.iload_n 1, 1) := by decide +kernel
theorem d_PO_init_55 : decode b_PO_init 55 = .ok (.putfield 26, 3) := by decide +kernel
theorem d_PO_init_58 : decode b_PO_init 58 = .ok (.aload_n 0, 1) := by decide +kernel
theorem d_PO_init_59 : decode b_PO_init 59 = .ok (.iconst 0, 1) := by decide +kernel
theorem d_PO_init_60 : decode b_PO_init 60 = .ok (.putfield 29, 3) := by decide +kernel
theorem d_PO_init_63 : decode b_PO_init 63 = .ok (.return_, 1) := by decide +kernel
theorem d_PO_isShared_0 : decode b_PO_isShared 0 = .ok (.aload_n 0, 1) := by decide +kernel
theorem d_PO_isShared_1 : decode b_PO_isShared 1 = .ok (.getfield 19, 3) := by decide +kernel
theorem d_PO_isShared_4 : decode b_PO_isShared 4 = .ok (.iload_n 1, 1) := by decide +kernel
theorem d_PO_isShared_5 : decode b_PO_isShared 5 = .ok (.iaload, 1) := by decide +kernel
theorem d_PO_isShared_6 : decode b_PO_isShared 6 = .ok (.iconst 1, 1) := by decide +kernel
theorem d_PO_isShared_7 : decode b_PO_isShared 7 = .ok (.if_icmp .le 7, 3) := by decide +kernel
theorem d_PO_isShared_10 : decode b_PO_isShared 10 = .ok (.iconst 1, 1) := by decide +kernel
theorem d_PO_isShared_11 : decode b_PO_isShared 11 = .ok (.goto 4, 3) := by decide +kernel
theorem d_PO_isShared_14 : decode b_PO_isShared 14 = .ok (.iconst 0, 1) := by decide +kernel
theorem d_PO_isShared_15 : decode b_PO_isShared 15 = .ok (.ireturn, 1) := by decide +kernel
theorem d_PO_take_0 : decode b_PO_take 0 = .ok (.aload_n 0, 1) := by decide +kernel
theorem d_PO_take_1 : decode b_PO_take 1 = .ok (.dup, 1) := by decide +kernel
theorem d_PO_take_2 : decode b_PO_take 2 = .ok (.getfield 26, 3) := by decide +kernel
theorem d_PO_take_5 : decode b_PO_take 5 = .ok (.iconst 1, 1) := by decide +kernel
theorem d_PO_take_6 : decode b_PO_take 6 = .ok (.isub, 1) := by decide +kernel
theorem d_PO_take_7 : decode b_PO_take 7 = .ok (.putfield 26, 3) := by decide +kernel
theorem d_PO_take_10 : decode b_PO_take 10 = .ok (.aload_n 0, 1) := by decide +kernel
theorem d_PO_take_11 : decode b_PO_take 11 = .ok (.getfield 23, 3) := by decide +kernel
theorem d_PO_take_14 : decode b_PO_take 14 = .ok (.aload_n 0, 1) := by decide +kernel
theorem d_PO_take_15 : decode b_PO_take 15 = .ok (.getfield 26, 3) := by decide +kernel
theorem d_PO_take_18 : decode b_PO_take 18 = .ok (.iaload, 1) := by decide +kernel
theorem d_PO_take_19 : decode b_PO_take 19 = .ok (.istore_n 1, 1) := by decide +kernel
theorem d_PO_take_20 : decode b_PO_take 20 = .ok (.aload_n 0, 1) := by decide +kernel
theorem d_PO_take_21 : decode b_PO_take 21 = .ok (.getfield 19, 3) := by decide +kernel
theorem d_PO_take_24 : decode b_PO_take 24 = .ok (.iload_n 1, 1) := by decide +kernel
theorem d_PO_take_25 : decode b_PO_take 25 = .ok (.iconst 1, 1) := by decide +kernel
theorem d_PO_take_26 : decode b_PO_take 26 = .ok (.iastore, 1) := by decide +kernel
theorem d_PO_take_27 : decode b_PO_take 27 = .ok (.iload_n 1, 1) := by decide +kernel
theorem d_PO_take_28 : decode b_PO_take 28 = .ok (.ireturn, 1) := by decide +kernel
theorem d_PO_join_0 : decode b_PO_join 0 = .ok (.aload_n 0, 1) := by decide +kernel
theorem d_PO_join_1 : decode b_PO_join 1 = .ok (.getfield 19, 3) := by decide +kernel
theorem d_PO_join_4 : decode b_PO_join 4 = .ok (.iload_n 1, 1) := by decide +kernel
theorem d_PO_join_5 : decode b_PO_join 5 = .ok (.dup2, 1) := by decide +kernel
theorem d_PO_join_6 : decode b_PO_join 6 = .ok (.iaload, 1) := by decide +kernel
theorem d_PO_join_7 : decode b_PO_join 7 = .ok (.iconst 1, 1) := by decide +kernel
theorem d_PO_join_8 : decode b_PO_join 8 = .ok (.iadd, 1) := by decide +kernel
theorem d_PO_join_9 : decode b_PO_join 9 = .ok (.iastore, 1) := by decide +kernel
theorem d_PO_join_10 : decode b_PO_join 10 = .ok (.return_, 1) := by decide +kernel
theorem d_PO_leave_0 : decode b_PO_leave 0 = .ok (.aload_n 0, 1) := by decide +kernel
theorem d_PO_leave_1 : decode b_PO_leave 1 = .ok (.getfield 19, 3) := by decide +kernel
theorem d_PO_leave_4 : decode b_PO_leave 4 = .ok (.iload_n 1, 1) := by decide +kernel
theorem d_PO_leave_5 : decode b_PO_leave 5 = .ok (.dup2, 1) := by decide +kernel
theorem d_PO_leave_6 : decode b_PO_leave 6 = .ok (.iaload, 1) := by decide +kernel
theorem d_PO_leave_7 : decode b_PO_leave 7 = .ok (.iconst 1, 1) := by decide +kernel
theorem d_PO_leave_8 : decode b_PO_leave 8 = .ok (.isub, 1) := by decide +kernel
theorem d_PO_leave_9 : decode b_PO_leave 9 = .ok (.iastore, 1) := by decide +kernel
theorem d_PO_leave_10 : decode b_PO_leave 10 = .ok (.aload_n 0, 1) := by decide +kernel
theorem d_PO_leave_11 : decode b_PO_leave 11 = .ok (.getfield 19, 3) := by decide +kernel
theorem d_PO_leave_14 : decode b_PO_leave 14 = .ok (.iload_n 1, 1) := by decide +kernel
theorem d_PO_leave_15 : decode b_PO_leave 15 = .ok (.iaload, 1) := by decide +kernel
theorem d_PO_leave_16 : decode b_PO_leave 16 = .ok (.ifCond .ne 23, 3) := by decide +kernel
theorem d_PO_leave_19 : decode b_PO_leave 19 = .ok (.aload_n 0, 1) := by decide +kernel
theorem d_PO_leave_20 : decode b_PO_leave 20 = .ok (.getfield 23, 3) := by decide +kernel
theorem d_PO_leave_23 : decode b_PO_leave 23 = .ok (.aload_n 0, 1) := by decide +kernel
theorem d_PO_leave_24 : decode b_PO_leave 24 = .ok (.getfield 26, 3) := by decide +kernel
theorem d_PO_leave_27 : decode b_PO_leave 27 = .ok (.iload_n 1, 1) := by decide +kernel
theorem d_PO_leave_28 : decode b_PO_leave 28 = .ok (.iastore, 1) := by decide +kernel
theorem d_PO_leave_29 : decode b_PO_leave 29 = .ok (.aload_n 0, 1) := by decide +kernel
theorem d_PO_leave_30 : decode b_PO_leave 30 = .ok (.dup, 1) := by decide +kernel
theorem d_PO_leave_31 : decode b_PO_leave 31 = .ok (.getfield 26, 3) := by decide +kernel
theorem d_PO_leave_34 : decode b_PO_leave 34 = .ok (.iconst 1, 1) := by decide +kernel
theorem d_PO_leave_35 : decode b_PO_leave 35 = .ok (.iadd, 1) := by decide +kernel
theorem d_PO_leave_36 : decode b_PO_leave 36 = .ok (.putfield 26, 3) := by decide +kernel
theorem d_PO_leave_39 : decode b_PO_leave 39 = .ok (.return_, 1) := by decide +kernel
theorem d_PO_exchangeForCopy_0 : decode b_PO_exchangeForCopy 0 = .ok (.aload_n 0, 1) := by decide +kernel
theorem d_PO_exchangeForCopy_1 : decode b_PO_exchangeForCopy 1 = .ok (.invokevirtual 32, 3) := by decide +kernel
theorem d_PO_exchangeForCopy_4 : decode b_PO_exchangeForCopy 4 = .ok (.istore_n 2, 1) := by decide +kernel
theorem d_PO_exchangeForCopy_5 : decode b_PO_exchangeForCopy 5 = .ok (.aload_n 0, 1) := by decide +kernel
theorem d_PO_exchangeForCopy_6 : decode b_PO_exchangeForCopy 6 = .ok (.getfield 15, 3) := by decide +kernel
theorem d_PO_exchangeForCopy_9 : decode b_PO_exchangeForCopy 9 = .ok (.iload_n 1, 1) := by decide +kernel
theorem d_PO_exchangeForCopy_10 : decode b_PO_exchangeForCopy 10 = .ok (.bipush 64, 2) := by decide +kernel
theorem d_PO_exchangeForCopy_12 : decode b_PO_exchangeForCopy 12 = .ok (.imul, 1) := by decide +kernel
theorem d_PO_exchangeForCopy_13 : decode b_PO_exchangeForCopy 13 = .ok (.aload_n 0, 1) := by decide +kernel
theorem d_PO_exchangeForCopy_14 : decode b_PO_exchangeForCopy 14 = .ok (.getfield 15, 3) := by decide +kernel
theorem d_PO_exchangeForCopy_17 : decode b_PO_exchangeForCopy 17 = .ok (.iload_n 2, 1) := by decide +kernel
theorem d_PO_exchangeForCopy_18 : decode b_PO_exchangeForCopy 18 = .ok (.bipush 64, 2) := by decide +kernel
theorem d_PO_exchangeForCopy_20 : decode b_PO_exchangeForCopy 20 = .ok (.imul, 1) := by decide +kernel
theorem d_PO_exchangeForCopy_21 : decode b_PO_exchangeForCopy 21 = .ok (.bipush 64, 2) := by decide +kernel
theorem d_PO_exchangeForCopy_23 : decode b_PO_exchangeForCopy 23 = .ok (.invokestatic 36, 3) := by decide +kernel
theorem d_PO_exchangeForCopy_26 : decode b_PO_exchangeForCopy 26 = .ok (.aload_n 0, 1) := by decide +kernel
theorem d_PO_exchangeForCopy_27 : decode b_PO_exchangeForCopy 27 = .ok (.iload_n 1, 1) := by decide +kernel
theorem d_PO_exchangeForCopy_28 : decode b_PO_exchangeForCopy 28 = .ok (.invokevirtual 42, 3) := by decide +kernel
theorem d_PO_exchangeForCopy_31 : decode b_PO_exchangeForCopy 31 = .ok (.aload_n 0, 1) := by decide +kernel
theorem d_PO_exchangeForCopy_32 : decode b_PO_exchangeForCopy 32 = .ok (.dup, 1) := by decide +kernel
theorem d_PO_exchangeForCopy_33 : decode b_PO_exchangeForCopy 33 = .ok (.getfield 29, 3) := by decide +kernel
theorem d_PO_exchangeForCopy_36 : decode b_PO_exchangeForCopy 36 = .ok (.iconst 1, 1) := by decide +kernel
theorem d_PO_exchangeForCopy_37 : decode b_PO_exchangeForCopy 37 = .ok (.iadd, 1) := by decide +kernel
theorem d_PO_exchangeForCopy_38 : decode b_PO_exchangeForCopy 38 = .ok (.putfield 29, 3) := by decide +kernel
theorem d_PO_exchangeForCopy_41 : decode b_PO_exchangeForCopy 41 = .ok (.iload_n 2, 1) := by decide +kernel
theorem d_PO_exchangeForCopy_42 : decode b_PO_exchangeForCopy 42 = .ok (.ireturn, 1) := by decide +kernel
