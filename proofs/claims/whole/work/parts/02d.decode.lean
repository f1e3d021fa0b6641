theorem dX7_init_0 : decode cX7_init 0 = .ok (.aload_n 0, 1) := by decide +kernel
theorem dX7_init_1 : decode cX7_init 1 = .ok (.invokespecial 1, 3) := by decide +kernel
theorem dX7_init_4 : decode cX7_init 4 = .ok (.aload_n 0, 1) := by decide +kernel
theorem dX7_init_5 : decode cX7_init 5 = .ok (.bipush 123, 2) := by decide +kernel
theorem dX7_init_7 : decode cX7_init 7 = .ok (.newarray .int, 2) := by decide +kernel
theorem dX7_init_9 : decode cX7_init 9 = .ok (.putfield 7, 3) := by decide +kernel
theorem dX7_init_12 : decode cX7_init 12 = .ok (.aload_n 0, 1) := by decide +kernel
theorem dX7_init_13 : decode cX7_init 13 = .ok (.bipush 41, 2) := by decide +kernel
theorem dX7_init_15 : decode cX7_init 15 = .ok (.newarray .int, 2) := by decide +kernel
theorem dX7_init_17 : decode cX7_init 17 = .ok (.putfield 13, 3) := by decide +kernel
theorem dX7_init_20 : decode cX7_init 20 = .ok (.aload_n 0, 1) := by decide +kernel
theorem dX7_init_21 : decode cX7_init 21 = .ok (.iconst 2, 1) := by decide +kernel
theorem dX7_init_22 : decode cX7_init 22 = .ok (.newarray .boolean, 2) := by decide +kernel
theorem dX7_init_24 : decode cX7_init 24 = .ok (.putfield 16, 3) := by decide +kernel
theorem dX7_init_27 : decode cX7_init 27 = .ok (.aload_n 0, 1) := by decide +kernel
theorem dX7_init_28 : decode cX7_init 28 = .ok (.bipush 41, 2) := by decide +kernel
theorem dX7_init_30 : decode cX7_init 30 = .ok (.newarray .int, 2) := by decide +kernel
theorem dX7_init_32 : decode cX7_init 32 = .ok (.putfield 20, 3) := by decide +kernel
theorem dX7_init_35 : decode cX7_init 35 = .ok (.aload_n 0, 1) := by decide +kernel
theorem dX7_init_36 : decode cX7_init 36 = .ok (.bipush 8, 2) := by decide +kernel
theorem dX7_init_38 : decode cX7_init 38 = .ok (.newarray .int, 2) := by decide +kernel
theorem dX7_init_40 : decode cX7_init 40 = .ok (.putfield 23, 3) := by decide +kernel
theorem dX7_init_43 : decode cX7_init 43 = .ok (.aload_n 0, 1) := by decide +kernel
theorem dX7_init_44 : decode cX7_init 44 = .ok (.sipush 160, 3) := by decide +kernel
theorem dX7_init_47 : decode cX7_init 47 = .ok (.newarray .int, 2) := by decide +kernel
theorem dX7_init_49 : decode cX7_init 49 = .ok (.putfield 26, 3) := by decide +kernel
theorem dX7_init_52 : decode cX7_init 52 = .ok (.aload_n 0, 1) := by decide +kernel
theorem dX7_init_53 : decode cX7_init 53 = .ok (.bipush 50, 2) := by decide +kernel
theorem dX7_init_55 : decode cX7_init 55 = .ok (.newarray .int, 2) := by decide +kernel
theorem dX7_init_57 : decode cX7_init 57 = .ok (.putfield 29, 3) := by decide +kernel
theorem dX7_init_60 : decode cX7_init 60 = .ok (.aload_n 0, 1) := by decide +kernel
theorem dX7_init_61 : decode cX7_init 61 = .ok (.sipush 5000, 3) := by decide +kernel
theorem dX7_init_64 : decode cX7_init 64 = .ok (.newarray .int, 2) := by decide +kernel
theorem dX7_init_66 : decode cX7_init 66 = .ok (.putfield 32, 3) := by decide +kernel
theorem dX7_init_69 : decode cX7_init 69 = .ok (.aload_n 0, 1) := by decide +kernel
theorem dX7_init_70 : decode cX7_init 70 = .ok (.iconst 4, 1) := by decide +kernel
theorem dX7_init_71 : decode cX7_init 71 = .ok (.newarray .int, 2) := by decide +kernel
theorem dX7_init_73 : decode cX7_init 73 = .ok (.putfield 35, 3) := by decide +kernel
theorem dX7_init_76 : decode cX7_init 76 = .ok (.aload_n 0, 1) := by decide +kernel
theorem dX7_init_77 : decode cX7_init 77 = .ok (.iconst 4, 1) := by decide +kernel
theorem dX7_init_78 : decode cX7_init 78 = .ok (.newarray .int, 2) := by decide +kernel
theorem dX7_init_80 : decode cX7_init 80 = .ok (.putfield 38, 3) := by decide +kernel
theorem dX7_init_83 : decode cX7_init 83 = .ok (.aload_n 0, 1) := by decide +kernel
theorem dX7_init_84 : decode cX7_init 84 = .ok (.sipush 160, 3) := by decide +kernel
theorem dX7_init_87 : decode cX7_init 87 = .ok (.newarray .int, 2) := by decide +kernel
theorem dX7_init_89 : decode cX7_init 89 = .ok (.putfield 41, 3) := by decide +kernel
theorem dX7_init_92 : decode cX7_init 92 = .ok (.aload_n 0, 1) := by decide +kernel
theorem dX7_init_93 : decode cX7_init 93 = .ok (.bipush 41, 2) := by decide +kernel
theorem dX7_init_95 : decode cX7_init 95 = .ok (.newarray .int, 2) := by decide +kernel
theorem dX7_init_97 : decode cX7_init 97 = .ok (.putfield 44, 3) := by decide +kernel
theorem dX7_init_100 : decode cX7_init 100 = .ok (.iconst 0, 1) := by decide +kernel
theorem dX7_init_101 : decode cX7_init 101 = .ok (.istore_n 1, 1) := by decide +kernel
theorem dX7_init_102 : decode cX7_init 102 = .ok (.iload_n 1, 1) := by decide +kernel
theorem dX7_init_103 : decode cX7_init 103 = .ok (.iconst 4, 1) := by decide +kernel
theorem dX7_init_104 : decode cX7_init 104 = .ok (.if_icmp .ge 17, 3) := by decide +kernel
theorem dX7_init_107 : decode cX7_init 107 = .ok (.aload_n 0, 1) := by decide +kernel
theorem dX7_init_108 : decode cX7_init 108 = .ok (.getfield 35, 3) := by decide +kernel
theorem dX7_init_111 : decode cX7_init 111 = .ok (.iload_n 1, 1) := by decide +kernel
theorem dX7_init_112 : decode cX7_init 112 = .ok (.bipush (-4), 2) := by decide +kernel
theorem dX7_init_114 : decode cX7_init 114 = .ok (.iastore, 1) := by decide +kernel
theorem dX7_init_115 : decode cX7_init 115 = .ok (.iinc 1 1, 3) := by decide +kernel
theorem dX7_init_118 : decode cX7_init 118 = .ok (.goto (-16), 3) := by decide +kernel
theorem dX7_init_121 : decode cX7_init 121 = .ok (.aload_n 0, 1) := by decide +kernel
theorem dX7_init_122 : decode cX7_init 122 = .ok (.invokevirtual 47, 3) := by decide +kernel
theorem dX7_init_125 : decode cX7_init 125 = .ok (.aload_n 0, 1) := by decide +kernel
theorem dX7_init_126 : decode cX7_init 126 = .ok (.invokevirtual 50, 3) := by decide +kernel
theorem dX7_init_129 : decode cX7_init 129 = .ok (.return_, 1) := by decide +kernel
theorem dX7_in_0 : decode cX7_in 0 = .ok (.lload_n 0, 1) := by decide +kernel
theorem dX7_in_1 : decode cX7_in 1 = .ok (.lload_n 2, 1) := by decide +kernel
theorem dX7_in_2 : decode cX7_in 2 = .ok (.lcmp, 1) := by decide +kernel
theorem dX7_in_3 : decode cX7_in 3 = .ok (.ifCond .lt 14, 3) := by decide +kernel
theorem dX7_in_6 : decode cX7_in 6 = .ok (.lload_n 0, 1) := by decide +kernel
theorem dX7_in_7 : decode cX7_in 7 = .ok (.lload 4, 2) := by decide +kernel
theorem dX7_in_9 : decode cX7_in 9 = .ok (.lcmp, 1) := by decide +kernel
theorem dX7_in_10 : decode cX7_in 10 = .ok (.ifCond .gt 7, 3) := by decide +kernel
theorem dX7_in_13 : decode cX7_in 13 = .ok (.iconst 1, 1) := by decide +kernel
theorem dX7_in_14 : decode cX7_in 14 = .ok (.goto 4, 3) := by decide +kernel
theorem dX7_in_17 : decode cX7_in 17 = .ok (.iconst 0, 1) := by decide +kernel
theorem dX7_in_18 : decode cX7_in 18 = .ok (.ireturn, 1) := by decide +kernel
theorem dX7_flag_0 : decode cX7_flag 0 = .ok (.iload_n 0, 1) := by decide +kernel
theorem dX7_flag_1 : decode cX7_flag 1 = .ok (.ifCond .eq 7, 3) := by decide +kernel
theorem dX7_flag_4 : decode cX7_flag 4 = .ok (.iconst 1, 1) := by decide +kernel
theorem dX7_flag_5 : decode cX7_flag 5 = .ok (.goto 4, 3) := by decide +kernel
theorem dX7_flag_8 : decode cX7_flag 8 = .ok (.iconst 0, 1) := by decide +kernel
theorem dX7_flag_9 : decode cX7_flag 9 = .ok (.ireturn, 1) := by decide +kernel
theorem dX7_firstDraft_0 : decode cX7_firstDraft 0 = .ok (.iconst 0, 1) := by decide +kernel
theorem dX7_firstDraft_1 : decode cX7_firstDraft 1 = .ok (.istore_n 1, 1) := by decide +kernel
theorem dX7_firstDraft_2 : decode cX7_firstDraft 2 = .ok (.iload_n 1, 1) := by decide +kernel
theorem dX7_firstDraft_3 : decode cX7_firstDraft 3 = .ok (.bipush 41, 2) := by decide +kernel
theorem dX7_firstDraft_5 : decode cX7_firstDraft 5 = .ok (.if_icmp .ge 16, 3) := by decide +kernel
theorem dX7_firstDraft_8 : decode cX7_firstDraft 8 = .ok (.aload_n 0, 1) := by decide +kernel
theorem dX7_firstDraft_9 : decode cX7_firstDraft 9 = .ok (.getfield 20, 3) := by decide +kernel
theorem dX7_firstDraft_12 : decode cX7_firstDraft 12 = .ok (.iload_n 1, 1) := by decide +kernel
theorem dX7_firstDraft_13 : decode cX7_firstDraft 13 = .ok (.iconst 0, 1) := by decide +kernel
theorem dX7_firstDraft_14 : decode cX7_firstDraft 14 = .ok (.iastore, 1) := by decide +kernel
theorem dX7_firstDraft_15 : decode cX7_firstDraft 15 = .ok (.iinc 1 1, 3) := by decide +kernel
theorem dX7_firstDraft_18 : decode cX7_firstDraft 18 = .ok (.goto (-16), 3) := by decide +kernel
theorem dX7_firstDraft_21 : decode cX7_firstDraft 21 = .ok (.aload_n 0, 1) := by decide +kernel
theorem dX7_firstDraft_22 : decode cX7_firstDraft 22 = .ok (.getfield 20, 3) := by decide +kernel
theorem dX7_firstDraft_25 : decode cX7_firstDraft 25 = .ok (.bipush 16, 2) := by decide +kernel
theorem dX7_firstDraft_27 : decode cX7_firstDraft 27 = .ok (.iconst 3, 1) := by decide +kernel
theorem dX7_firstDraft_28 : decode cX7_firstDraft 28 = .ok (.iastore, 1) := by decide +kernel
theorem dX7_firstDraft_29 : decode cX7_firstDraft 29 = .ok (.aload_n 0, 1) := by decide +kernel
theorem dX7_firstDraft_30 : decode cX7_firstDraft 30 = .ok (.iconst 0, 1) := by decide +kernel
theorem dX7_firstDraft_31 : decode cX7_firstDraft 31 = .ok (.putfield 53, 3) := by decide +kernel
theorem dX7_firstDraft_34 : decode cX7_firstDraft 34 = .ok (.aload_n 0, 1) := by decide +kernel
theorem dX7_firstDraft_35 : decode cX7_firstDraft 35 = .ok (.iconst 0, 1) := by decide +kernel
theorem dX7_firstDraft_36 : decode cX7_firstDraft 36 = .ok (.putfield 57, 3) := by decide +kernel
theorem dX7_firstDraft_39 : decode cX7_firstDraft 39 = .ok (.aload_n 0, 1) := by decide +kernel
theorem dX7_firstDraft_40 : decode cX7_firstDraft 40 = .ok (.iconst 0, 1) := by decide +kernel
theorem dX7_firstDraft_41 : decode cX7_firstDraft 41 = .ok (.putfield 61, 3) := by decide +kernel
theorem dX7_firstDraft_44 : decode cX7_firstDraft 44 = .ok (.aload_n 0, 1) := by decide +kernel
theorem dX7_firstDraft_45 : decode cX7_firstDraft 45 = .ok (.bipush (-4), 2) := by decide +kernel
theorem dX7_firstDraft_47 : decode cX7_firstDraft 47 = .ok (.putfield 64, 3) := by decide +kernel
theorem dX7_firstDraft_50 : decode cX7_firstDraft 50 = .ok (.return_, 1) := by decide +kernel
theorem dX7_keepDraft_0 : decode cX7_keepDraft 0 = .ok (.iconst 0, 1) := by decide +kernel
theorem dX7_keepDraft_1 : decode cX7_keepDraft 1 = .ok (.istore_n 1, 1) := by decide +kernel
theorem dX7_keepDraft_2 : decode cX7_keepDraft 2 = .ok (.iload_n 1, 1) := by decide +kernel
theorem dX7_keepDraft_3 : decode cX7_keepDraft 3 = .ok (.bipush 41, 2) := by decide +kernel
theorem dX7_keepDraft_5 : decode cX7_keepDraft 5 = .ok (.if_icmp .ge 21, 3) := by decide +kernel
theorem dX7_keepDraft_8 : decode cX7_keepDraft 8 = .ok (.aload_n 0, 1) := by decide +kernel
theorem dX7_keepDraft_9 : decode cX7_keepDraft 9 = .ok (.getfield 7, 3) := by decide +kernel
theorem dX7_keepDraft_12 : decode cX7_keepDraft 12 = .ok (.iload_n 1, 1) := by decide +kernel
theorem dX7_keepDraft_13 : decode cX7_keepDraft 13 = .ok (.aload_n 0, 1) := by decide +kernel
theorem dX7_keepDraft_14 : decode cX7_keepDraft 14 = .ok (.getfield 20, 3) := by decide +kernel
theorem dX7_keepDraft_17 : decode cX7_keepDraft 17 = .ok (.iload_n 1, 1) := by decide +kernel
theorem dX7_keepDraft_18 : decode cX7_keepDraft 18 = .ok (.iaload, 1) := by decide +kernel
theorem dX7_keepDraft_19 : decode cX7_keepDraft 19 = .ok (.iastore, 1) := by decide +kernel
theorem dX7_keepDraft_20 : decode cX7_keepDraft 20 = .ok (.iinc 1 1, 3) := by decide +kernel
theorem dX7_keepDraft_23 : decode cX7_keepDraft 23 = .ok (.goto (-21), 3) := by decide +kernel
theorem dX7_keepDraft_26 : decode cX7_keepDraft 26 = .ok (.aload_n 0, 1) := by decide +kernel
theorem dX7_keepDraft_27 : decode cX7_keepDraft 27 = .ok (.aload_n 0, 1) := by decide +kernel
theorem dX7_keepDraft_28 : decode cX7_keepDraft 28 = .ok (.getfield 53, 3) := by decide +kernel
theorem dX7_keepDraft_31 : decode cX7_keepDraft 31 = .ok (.putfield 67, 3) := by decide +kernel
theorem dX7_keepDraft_34 : decode cX7_keepDraft 34 = .ok (.aload_n 0, 1) := by decide +kernel
theorem dX7_keepDraft_35 : decode cX7_keepDraft 35 = .ok (.getfield 16, 3) := by decide +kernel
theorem dX7_keepDraft_38 : decode cX7_keepDraft 38 = .ok (.iconst 0, 1) := by decide +kernel
theorem dX7_keepDraft_39 : decode cX7_keepDraft 39 = .ok (.iconst 0, 1) := by decide +kernel
theorem dX7_keepDraft_40 : decode cX7_keepDraft 40 = .ok (.bastore, 1) := by decide +kernel
theorem dX7_keepDraft_41 : decode cX7_keepDraft 41 = .ok (.aload_n 0, 1) := by decide +kernel
theorem dX7_keepDraft_42 : decode cX7_keepDraft 42 = .ok (.getfield 16, 3) := by decide +kernel
theorem dX7_keepDraft_45 : decode cX7_keepDraft 45 = .ok (.iconst 1, 1) := by decide +kernel
theorem dX7_keepDraft_46 : decode cX7_keepDraft 46 = .ok (.iconst 0, 1) := by decide +kernel
theorem dX7_keepDraft_47 : decode cX7_keepDraft 47 = .ok (.bastore, 1) := by decide +kernel
theorem dX7_keepDraft_48 : decode cX7_keepDraft 48 = .ok (.return_, 1) := by decide +kernel
theorem dX7_feed_0 : decode cX7_feed 0 = .ok (.iload_n 1, 1) := by decide +kernel
theorem dX7_feed_1 : decode cX7_feed 1 = .ok (.i2l, 1) := by decide +kernel
theorem dX7_feed_2 : decode cX7_feed 2 = .ok (.lconst 0, 1) := by decide +kernel
theorem dX7_feed_3 : decode cX7_feed 3 = .ok (.ldc2_w 70, 3) := by decide +kernel
theorem dX7_feed_6 : decode cX7_feed 6 = .ok (.invokestatic 72, 3) := by decide +kernel
theorem dX7_feed_9 : decode cX7_feed 9 = .ok (.ifCond .ne 5, 3) := by decide +kernel
theorem dX7_feed_12 : decode cX7_feed 12 = .ok (.iconst (-1), 1) := by decide +kernel
theorem dX7_feed_13 : decode cX7_feed 13 = .ok (.ireturn, 1) := by decide +kernel
theorem dX7_feed_14 : decode cX7_feed 14 = .ok (.aload_n 0, 1) := by decide +kernel
theorem dX7_feed_15 : decode cX7_feed 15 = .ok (.getfield 76, 3) := by decide +kernel
theorem dX7_feed_18 : decode cX7_feed 18 = .ok (.sipush 160, 3) := by decide +kernel
theorem dX7_feed_21 : decode cX7_feed 21 = .ok (.if_icmp .ne 6, 3) := by decide +kernel
theorem dX7_feed_24 : decode cX7_feed 24 = .ok (.bipush (-3), 2) := by decide +kernel
theorem dX7_feed_26 : decode cX7_feed 26 = .ok (.ireturn, 1) := by decide +kernel
theorem dX7_feed_27 : decode cX7_feed 27 = .ok (.aload_n 0, 1) := by decide +kernel
theorem dX7_feed_28 : decode cX7_feed 28 = .ok (.getfield 26, 3) := by decide +kernel
theorem dX7_feed_31 : decode cX7_feed 31 = .ok (.aload_n 0, 1) := by decide +kernel
theorem dX7_feed_32 : decode cX7_feed 32 = .ok (.getfield 76, 3) := by decide +kernel
theorem dX7_feed_35 : decode cX7_feed 35 = .ok (.iload_n 1, 1) := by decide +kernel
theorem dX7_feed_36 : decode cX7_feed 36 = .ok (.iastore, 1) := by decide +kernel
theorem dX7_feed_37 : decode cX7_feed 37 = .ok (.aload_n 0, 1) := by decide +kernel
theorem dX7_feed_38 : decode cX7_feed 38 = .ok (.dup, 1) := by decide +kernel
theorem dX7_feed_39 : decode cX7_feed 39 = .ok (.getfield 76, 3) := by decide +kernel
theorem dX7_feed_42 : decode cX7_feed 42 = .ok (.iconst 1, 1) := by decide +kernel
theorem dX7_feed_43 : decode cX7_feed 43 = .ok (.iadd, 1) := by decide +kernel
theorem dX7_feed_44 : decode cX7_feed 44 = .ok (.putfield 76, 3) := by decide +kernel
theorem dX7_feed_47 : decode cX7_feed 47 = .ok (.aload_n 0, 1) := by decide +kernel
theorem dX7_feed_48 : decode cX7_feed 48 = .ok (.getfield 76, 3) := by decide +kernel
theorem dX7_feed_51 : decode cX7_feed 51 = .ok (.ireturn, 1) := by decide +kernel
theorem dX7_end_0 : decode cX7_end 0 = .ok (.iload_n 1, 1) := by decide +kernel
theorem dX7_end_1 : decode cX7_end 1 = .ok (.i2l, 1) := by decide +kernel
theorem dX7_end_2 : decode cX7_end 2 = .ok (.lconst 0, 1) := by decide +kernel
theorem dX7_end_3 : decode cX7_end 3 = .ok (.aload_n 0, 1) := by decide +kernel
theorem dX7_end_4 : decode cX7_end 4 = .ok (.getfield 76, 3) := by decide +kernel
theorem dX7_end_7 : decode cX7_end 7 = .ok (.i2l, 1) := by decide +kernel
theorem dX7_end_8 : decode cX7_end 8 = .ok (.invokestatic 72, 3) := by decide +kernel
theorem dX7_end_11 : decode cX7_end 11 = .ok (.ifCond .ne 5, 3) := by decide +kernel
theorem dX7_end_14 : decode cX7_end 14 = .ok (.iconst (-1), 1) := by decide +kernel
theorem dX7_end_15 : decode cX7_end 15 = .ok (.ireturn, 1) := by decide +kernel
theorem dX7_end_16 : decode cX7_end 16 = .ok (.aload_n 0, 1) := by decide +kernel
theorem dX7_end_17 : decode cX7_end 17 = .ok (.getfield 76, 3) := by decide +kernel
theorem dX7_end_20 : decode cX7_end 20 = .ok (.istore_n 2, 1) := by decide +kernel
theorem dX7_end_21 : decode cX7_end 21 = .ok (.aload_n 0, 1) := by decide +kernel
theorem dX7_end_22 : decode cX7_end 22 = .ok (.iload_n 1, 1) := by decide +kernel
theorem dX7_end_23 : decode cX7_end 23 = .ok (.putfield 76, 3) := by decide +kernel
theorem dX7_end_26 : decode cX7_end 26 = .ok (.iload_n 2, 1) := by decide +kernel
theorem dX7_end_27 : decode cX7_end 27 = .ok (.ireturn, 1) := by decide +kernel
theorem dX7_needs_0 : decode cX7_needs 0 = .ok (.iload_n 1, 1) := by decide +kernel
theorem dX7_needs_1 : decode cX7_needs 1 = .ok (.ifCond .ne 23, 3) := by decide +kernel
theorem dX7_needs_4 : decode cX7_needs 4 = .ok (.aload_n 0, 1) := by decide +kernel
theorem dX7_needs_5 : decode cX7_needs 5 = .ok (.getfield 79, 3) := by decide +kernel
theorem dX7_needs_8 : decode cX7_needs 8 = .ok (.ifCond .ne 16, 3) := by decide +kernel
theorem dX7_needs_11 : decode cX7_needs 11 = .ok (.aload_n 0, 1) := by decide +kernel
theorem dX7_needs_12 : decode cX7_needs 12 = .ok (.iload_n 2, 1) := by decide +kernel
theorem dX7_needs_13 : decode cX7_needs 13 = .ok (.putfield 79, 3) := by decide +kernel
theorem dX7_needs_16 : decode cX7_needs 16 = .ok (.aload_n 0, 1) := by decide +kernel
theorem dX7_needs_17 : decode cX7_needs 17 = .ok (.aload_n 0, 1) := by decide +kernel
theorem dX7_needs_18 : decode cX7_needs 18 = .ok (.getfield 82, 3) := by decide +kernel
theorem dX7_needs_21 : decode cX7_needs 21 = .ok (.putfield 85, 3) := by decide +kernel
theorem dX7_needs_24 : decode cX7_needs 24 = .ok (.return_, 1) := by decide +kernel
theorem dX7_byteAt_0 : decode cX7_byteAt 0 = .ok (.iload_n 1, 1) := by decide +kernel
theorem dX7_byteAt_1 : decode cX7_byteAt 1 = .ok (.aload_n 0, 1) := by decide +kernel
theorem dX7_byteAt_2 : decode cX7_byteAt 2 = .ok (.getfield 76, 3) := by decide +kernel
theorem dX7_byteAt_5 : decode cX7_byteAt 5 = .ok (.if_icmp .ge 12, 3) := by decide +kernel
theorem dX7_byteAt_8 : decode cX7_byteAt 8 = .ok (.aload_n 0, 1) := by decide +kernel
theorem dX7_byteAt_9 : decode cX7_byteAt 9 = .ok (.getfield 26, 3) := by decide +kernel
theorem dX7_byteAt_12 : decode cX7_byteAt 12 = .ok (.iload_n 1, 1) := by decide +kernel
theorem dX7_byteAt_13 : decode cX7_byteAt 13 = .ok (.iaload, 1) := by decide +kernel
theorem dX7_byteAt_14 : decode cX7_byteAt 14 = .ok (.goto 4, 3) := by decide +kernel
theorem dX7_byteAt_17 : decode cX7_byteAt 17 = .ok (.iconst (-1), 1) := by decide +kernel
theorem dX7_byteAt_18 : decode cX7_byteAt 18 = .ok (.ireturn, 1) := by decide +kernel
theorem dX7_is_0 : decode cX7_is 0 = .ok (.aload_n 0, 1) := by decide +kernel
theorem dX7_is_1 : decode cX7_is 1 = .ok (.getfield 88, 3) := by decide +kernel
theorem dX7_is_4 : decode cX7_is 4 = .ok (.aload_n 0, 1) := by decide +kernel
theorem dX7_is_5 : decode cX7_is 5 = .ok (.getfield 82, 3) := by decide +kernel
theorem dX7_is_8 : decode cX7_is 8 = .ok (.isub, 1) := by decide +kernel
theorem dX7_is_9 : decode cX7_is 9 = .ok (.iload_n 1, 1) := by decide +kernel
theorem dX7_is_10 : decode cX7_is 10 = .ok (.if_icmp .ne 48, 3) := by decide +kernel
theorem dX7_is_13 : decode cX7_is 13 = .ok (.aload_n 0, 1) := by decide +kernel
theorem dX7_is_14 : decode cX7_is 14 = .ok (.aload_n 0, 1) := by decide +kernel
theorem dX7_is_15 : decode cX7_is 15 = .ok (.getfield 82, 3) := by decide +kernel
theorem dX7_is_18 : decode cX7_is 18 = .ok (.invokevirtual 91, 3) := by decide +kernel
theorem dX7_is_21 : decode cX7_is 21 = .ok (.iload_n 2, 1) := by decide +kernel
theorem dX7_is_22 : decode cX7_is 22 = .ok (.if_icmp .ne 36, 3) := by decide +kernel
theorem dX7_is_25 : decode cX7_is 25 = .ok (.aload_n 0, 1) := by decide +kernel
theorem dX7_is_26 : decode cX7_is 26 = .ok (.aload_n 0, 1) := by decide +kernel
theorem dX7_is_27 : decode cX7_is 27 = .ok (.getfield 82, 3) := by decide +kernel
theorem dX7_is_30 : decode cX7_is 30 = .ok (.iconst 1, 1) := by decide +kernel
theorem dX7_is_31 : decode cX7_is 31 = .ok (.iadd, 1) := by decide +kernel
theorem dX7_is_32 : decode cX7_is 32 = .ok (.invokevirtual 91, 3) := by decide +kernel
theorem dX7_is_35 : decode cX7_is 35 = .ok (.iload_n 3, 1) := by decide +kernel
theorem dX7_is_36 : decode cX7_is 36 = .ok (.if_icmp .ne 22, 3) := by decide +kernel
theorem dX7_is_39 : decode cX7_is 39 = .ok (.aload_n 0, 1) := by decide +kernel
theorem dX7_is_40 : decode cX7_is 40 = .ok (.aload_n 0, 1) := by decide +kernel
theorem dX7_is_41 : decode cX7_is 41 = .ok (.getfield 82, 3) := by decide +kernel
theorem dX7_is_44 : decode cX7_is 44 = .ok (.iconst 2, 1) := by decide +kernel
theorem dX7_is_45 : decode cX7_is 45 = .ok (.iadd, 1) := by decide +kernel
theorem dX7_is_46 : decode cX7_is 46 = .ok (.invokevirtual 91, 3) := by decide +kernel
theorem dX7_is_49 : decode cX7_is 49 = .ok (.iload 4, 2) := by decide +kernel
theorem dX7_is_51 : decode cX7_is 51 = .ok (.if_icmp .ne 7, 3) := by decide +kernel
theorem dX7_is_54 : decode cX7_is 54 = .ok (.iconst 1, 1) := by decide +kernel
theorem dX7_is_55 : decode cX7_is 55 = .ok (.goto 4, 3) := by decide +kernel
theorem dX7_is_58 : decode cX7_is 58 = .ok (.iconst 0, 1) := by decide +kernel
theorem dX7_is_59 : decode cX7_is 59 = .ok (.ireturn, 1) := by decide +kernel
theorem dX7_ends_0 : decode cX7_ends 0 = .ok (.aload_n 0, 1) := by decide +kernel
theorem dX7_ends_1 : decode cX7_ends 1 = .ok (.aload_n 0, 1) := by decide +kernel
theorem dX7_ends_2 : decode cX7_ends 2 = .ok (.getfield 82, 3) := by decide +kernel
theorem dX7_ends_5 : decode cX7_ends 5 = .ok (.iconst 3, 1) := by decide +kernel
theorem dX7_ends_6 : decode cX7_ends 6 = .ok (.iadd, 1) := by decide +kernel
theorem dX7_ends_7 : decode cX7_ends 7 = .ok (.invokevirtual 91, 3) := by decide +kernel
theorem dX7_ends_10 : decode cX7_ends 10 = .ok (.iload_n 1, 1) := by decide +kernel
theorem dX7_ends_11 : decode cX7_ends 11 = .ok (.if_icmp .ne 43, 3) := by decide +kernel
theorem dX7_ends_14 : decode cX7_ends 14 = .ok (.iload_n 2, 1) := by decide +kernel
theorem dX7_ends_15 : decode cX7_ends 15 = .ok (.ifCond .eq 17, 3) := by decide +kernel
theorem dX7_ends_18 : decode cX7_ends 18 = .ok (.aload_n 0, 1) := by decide +kernel
theorem dX7_ends_19 : decode cX7_ends 19 = .ok (.aload_n 0, 1) := by decide +kernel
theorem dX7_ends_20 : decode cX7_ends 20 = .ok (.getfield 82, 3) := by decide +kernel
theorem dX7_ends_23 : decode cX7_ends 23 = .ok (.iconst 4, 1) := by decide +kernel
theorem dX7_ends_24 : decode cX7_ends 24 = .ok (.iadd, 1) := by decide +kernel
theorem dX7_ends_25 : decode cX7_ends 25 = .ok (.invokevirtual 91, 3) := by decide +kernel
theorem dX7_ends_28 : decode cX7_ends 28 = .ok (.iload_n 2, 1) := by decide +kernel
theorem dX7_ends_29 : decode cX7_ends 29 = .ok (.if_icmp .ne 25, 3) := by decide +kernel
theorem dX7_ends_32 : decode cX7_ends 32 = .ok (.iload_n 3, 1) := by decide +kernel
theorem dX7_ends_33 : decode cX7_ends 33 = .ok (.ifCond .eq 17, 3) := by decide +kernel
theorem dX7_ends_36 : decode cX7_ends 36 = .ok (.aload_n 0, 1) := by decide +kernel
theorem dX7_ends_37 : decode cX7_ends 37 = .ok (.aload_n 0, 1) := by decide +kernel
theorem dX7_ends_38 : decode cX7_ends 38 = .ok (.getfield 82, 3) := by decide +kernel
theorem dX7_ends_41 : decode cX7_ends 41 = .ok (.iconst 5, 1) := by decide +kernel
theorem dX7_ends_42 : decode cX7_ends 42 = .ok (.iadd, 1) := by decide +kernel
theorem dX7_ends_43 : decode cX7_ends 43 = .ok (.invokevirtual 91, 3) := by decide +kernel
theorem dX7_ends_46 : decode cX7_ends 46 = .ok (.iload_n 3, 1) := by decide +kernel
theorem dX7_ends_47 : decode cX7_ends 47 = .ok (.if_icmp .ne 7, 3) := by decide +kernel
theorem dX7_ends_50 : decode cX7_ends 50 = .ok (.iconst 1, 1) := by decide +kernel
theorem dX7_ends_51 : decode cX7_ends 51 = .ok (.goto 4, 3) := by decide +kernel
theorem dX7_ends_54 : decode cX7_ends 54 = .ok (.iconst 0, 1) := by decide +kernel
theorem dX7_ends_55 : decode cX7_ends 55 = .ok (.ireturn, 1) := by decide +kernel
theorem dX7_lineNow_0 : decode cX7_lineNow 0 = .ok (.aload_n 0, 1) := by decide +kernel
theorem dX7_lineNow_1 : decode cX7_lineNow 1 = .ok (.bipush 6, 2) := by decide +kernel
theorem dX7_lineNow_3 : decode cX7_lineNow 3 = .ok (.bipush 112, 2) := by decide +kernel
theorem dX7_lineNow_5 : decode cX7_lineNow 5 = .ok (.bipush 111, 2) := by decide +kernel
theorem dX7_lineNow_7 : decode cX7_lineNow 7 = .ok (.bipush 108, 2) := by decide +kernel
theorem dX7_lineNow_9 : decode cX7_lineNow 9 = .ok (.invokevirtual 95, 3) := by decide +kernel
theorem dX7_lineNow_12 : decode cX7_lineNow 12 = .ok (.ifCond .eq 18, 3) := by decide +kernel
theorem dX7_lineNow_15 : decode cX7_lineNow 15 = .ok (.aload_n 0, 1) := by decide +kernel
theorem dX7_lineNow_16 : decode cX7_lineNow 16 = .ok (.bipush 105, 2) := by decide +kernel
theorem dX7_lineNow_18 : decode cX7_lineNow 18 = .ok (.bipush 116, 2) := by decide +kernel
theorem dX7_lineNow_20 : decode cX7_lineNow 20 = .ok (.bipush 101, 2) := by decide +kernel
theorem dX7_lineNow_22 : decode cX7_lineNow 22 = .ok (.invokevirtual 99, 3) := by decide +kernel
theorem dX7_lineNow_25 : decode cX7_lineNow 25 = .ok (.ifCond .eq 5, 3) := by decide +kernel
theorem dX7_lineNow_28 : decode cX7_lineNow 28 = .ok (.iconst 0, 1) := by decide +kernel
theorem dX7_lineNow_29 : decode cX7_lineNow 29 = .ok (.ireturn, 1) := by decide +kernel
theorem dX7_lineNow_30 : decode cX7_lineNow 30 = .ok (.aload_n 0, 1) := by decide +kernel
theorem dX7_lineNow_31 : decode cX7_lineNow 31 = .ok (.iconst 4, 1) := by decide +kernel
theorem dX7_lineNow_32 : decode cX7_lineNow 32 = .ok (.bipush 114, 2) := by decide +kernel
theorem dX7_lineNow_34 : decode cX7_lineNow 34 = .ok (.bipush 117, 2) := by decide +kernel
theorem dX7_lineNow_36 : decode cX7_lineNow 36 = .ok (.bipush 100, 2) := by decide +kernel
theorem dX7_lineNow_38 : decode cX7_lineNow 38 = .ok (.invokevirtual 95, 3) := by decide +kernel
theorem dX7_lineNow_41 : decode cX7_lineNow 41 = .ok (.ifCond .eq 16, 3) := by decide +kernel
theorem dX7_lineNow_44 : decode cX7_lineNow 44 = .ok (.aload_n 0, 1) := by decide +kernel
theorem dX7_lineNow_45 : decode cX7_lineNow 45 = .ok (.bipush 101, 2) := by decide +kernel
theorem dX7_lineNow_47 : decode cX7_lineNow 47 = .ok (.iconst 0, 1) := by decide +kernel
theorem dX7_lineNow_48 : decode cX7_lineNow 48 = .ok (.iconst 0, 1) := by decide +kernel
theorem dX7_lineNow_49 : decode cX7_lineNow 49 = .ok (.invokevirtual 99, 3) := by decide +kernel
theorem dX7_lineNow_52 : decode cX7_lineNow 52 = .ok (.ifCond .eq 5, 3) := by decide +kernel
theorem dX7_lineNow_55 : decode cX7_lineNow 55 = .ok (.iconst 1, 1) := by decide +kernel
theorem dX7_lineNow_56 : decode cX7_lineNow 56 = .ok (.ireturn, 1) := by decide +kernel
theorem dX7_lineNow_57 : decode cX7_lineNow 57 = .ok (.aload_n 0, 1) := by decide +kernel
theorem dX7_lineNow_58 : decode cX7_lineNow 58 = .ok (.iconst 4, 1) := by decide +kernel
theorem dX7_lineNow_59 : decode cX7_lineNow 59 = .ok (.bipush 100, 2) := by decide +kernel
theorem dX7_lineNow_61 : decode cX7_lineNow 61 = .ok (.bipush 101, 2) := by decide +kernel
theorem dX7_lineNow_63 : decode cX7_lineNow 63 = .ok (.bipush 97, 2) := by decide +kernel
theorem dX7_lineNow_65 : decode cX7_lineNow 65 = .ok (.invokevirtual 95, 3) := by decide +kernel
theorem dX7_lineNow_68 : decode cX7_lineNow 68 = .ok (.ifCond .eq 16, 3) := by decide +kernel
theorem dX7_lineNow_71 : decode cX7_lineNow 71 = .ok (.aload_n 0, 1) := by decide +kernel
theorem dX7_lineNow_72 : decode cX7_lineNow 72 = .ok (.bipush 102, 2) := by decide +kernel
theorem dX7_lineNow_74 : decode cX7_lineNow 74 = .ok (.iconst 0, 1) := by decide +kernel
theorem dX7_lineNow_75 : decode cX7_lineNow 75 = .ok (.iconst 0, 1) := by decide +kernel
theorem dX7_lineNow_76 : decode cX7_lineNow 76 = .ok (.invokevirtual 99, 3) := by decide +kernel
theorem dX7_lineNow_79 : decode cX7_lineNow 79 = .ok (.ifCond .eq 5, 3) := by decide +kernel
theorem dX7_lineNow_82 : decode cX7_lineNow 82 = .ok (.iconst 2, 1) := by decide +kernel
theorem dX7_lineNow_83 : decode cX7_lineNow 83 = .ok (.ireturn, 1) := by decide +kernel
theorem dX7_lineNow_84 : decode cX7_lineNow 84 = .ok (.aload_n 0, 1) := by decide +kernel
theorem dX7_lineNow_85 : decode cX7_lineNow 85 = .ok (.iconst 4, 1) := by decide +kernel
theorem dX7_lineNow_86 : decode cX7_lineNow 86 = .ok (.bipush 99, 2) := by decide +kernel
theorem dX7_lineNow_88 : decode cX7_lineNow 88 = .ok (.bipush 111, 2) := by decide +kernel
theorem dX7_lineNow_90 : decode cX7_lineNow 90 = .ok (.bipush 111, 2) := by decide +kernel
theorem dX7_lineNow_92 : decode cX7_lineNow 92 = .ok (.invokevirtual 95, 3) := by decide +kernel
theorem dX7_lineNow_95 : decode cX7_lineNow 95 = .ok (.ifCond .eq 16, 3) := by decide +kernel
theorem dX7_lineNow_98 : decode cX7_lineNow 98 = .ok (.aload_n 0, 1) := by decide +kernel
theorem dX7_lineNow_99 : decode cX7_lineNow 99 = .ok (.bipush 107, 2) := by decide +kernel
theorem dX7_lineNow_101 : decode cX7_lineNow 101 = .ok (.iconst 0, 1) := by decide +kernel
theorem dX7_lineNow_102 : decode cX7_lineNow 102 = .ok (.iconst 0, 1) := by decide +kernel
theorem dX7_lineNow_103 : decode cX7_lineNow 103 = .ok (.invokevirtual 99, 3) := by decide +kernel
theorem dX7_lineNow_106 : decode cX7_lineNow 106 = .ok (.ifCond .eq 5, 3) := by decide +kernel
theorem dX7_lineNow_109 : decode cX7_lineNow 109 = .ok (.iconst 3, 1) := by decide +kernel
theorem dX7_lineNow_110 : decode cX7_lineNow 110 = .ok (.ireturn, 1) := by decide +kernel
theorem dX7_lineNow_111 : decode cX7_lineNow 111 = .ok (.aload_n 0, 1) := by decide +kernel
theorem dX7_lineNow_112 : decode cX7_lineNow 112 = .ok (.iconst 4, 1) := by decide +kernel
theorem dX7_lineNow_113 : decode cX7_lineNow 113 = .ok (.bipush 102, 2) := by decide +kernel
theorem dX7_lineNow_115 : decode cX7_lineNow 115 = .ok (.bipush 105, 2) := by decide +kernel
theorem dX7_lineNow_117 : decode cX7_lineNow 117 = .ok (.bipush 114, 2) := by decide +kernel
theorem dX7_lineNow_119 : decode cX7_lineNow 119 = .ok (.invokevirtual 95, 3) := by decide +kernel
theorem dX7_lineNow_122 : decode cX7_lineNow 122 = .ok (.ifCond .eq 16, 3) := by decide +kernel
theorem dX7_lineNow_125 : decode cX7_lineNow 125 = .ok (.aload_n 0, 1) := by decide +kernel
theorem dX7_lineNow_126 : decode cX7_lineNow 126 = .ok (.bipush 101, 2) := by decide +kernel
theorem dX7_lineNow_128 : decode cX7_lineNow 128 = .ok (.iconst 0, 1) := by decide +kernel
theorem dX7_lineNow_129 : decode cX7_lineNow 129 = .ok (.iconst 0, 1) := by decide +kernel
theorem dX7_lineNow_130 : decode cX7_lineNow 130 = .ok (.invokevirtual 99, 3) := by decide +kernel
theorem dX7_lineNow_133 : decode cX7_lineNow 133 = .ok (.ifCond .eq 5, 3) := by decide +kernel
theorem dX7_lineNow_136 : decode cX7_lineNow 136 = .ok (.iconst 4, 1) := by decide +kernel
theorem dX7_lineNow_137 : decode cX7_lineNow 137 = .ok (.ireturn, 1) := by decide +kernel
theorem dX7_lineNow_138 : decode cX7_lineNow 138 = .ok (.aload_n 0, 1) := by decide +kernel
theorem dX7_lineNow_139 : decode cX7_lineNow 139 = .ok (.iconst 4, 1) := by decide +kernel
theorem dX7_lineNow_140 : decode cX7_lineNow 140 = .ok (.bipush 114, 2) := by decide +kernel
theorem dX7_lineNow_142 : decode cX7_lineNow 142 = .ok (.bipush 97, 2) := by decide +kernel
theorem dX7_lineNow_144 : decode cX7_lineNow 144 = .ok (.bipush 105, 2) := by decide +kernel
theorem dX7_lineNow_146 : decode cX7_lineNow 146 = .ok (.invokevirtual 95, 3) := by decide +kernel
theorem dX7_lineNow_149 : decode cX7_lineNow 149 = .ok (.ifCond .eq 18, 3) := by decide +kernel
theorem dX7_lineNow_152 : decode cX7_lineNow 152 = .ok (.aload_n 0, 1) := by decide +kernel
theorem dX7_lineNow_153 : decode cX7_lineNow 153 = .ok (.bipush 110, 2) := by decide +kernel
theorem dX7_lineNow_155 : decode cX7_lineNow 155 = .ok (.iconst 0, 1) := by decide +kernel
theorem dX7_lineNow_156 : decode cX7_lineNow 156 = .ok (.iconst 0, 1) := by decide +kernel
theorem dX7_lineNow_157 : decode cX7_lineNow 157 = .ok (.invokevirtual 99, 3) := by decide +kernel
theorem dX7_lineNow_160 : decode cX7_lineNow 160 = .ok (.ifCond .eq 7, 3) := by decide +kernel
theorem dX7_lineNow_163 : decode cX7_lineNow 163 = .ok (.iconst 5, 1) := by decide +kernel
theorem dX7_lineNow_164 : decode cX7_lineNow 164 = .ok (.goto 36, 3) := by decide +kernel
theorem dX7_lineNow_167 : decode cX7_lineNow 167 = .ok (.aload_n 0, 1) := by decide +kernel
theorem dX7_lineNow_168 : decode cX7_lineNow 168 = .ok (.iconst 5, 1) := by decide +kernel
theorem dX7_lineNow_169 : decode cX7_lineNow 169 = .ok (.bipush 111, 2) := by decide +kernel
theorem dX7_lineNow_171 : decode cX7_lineNow 171 = .ok (.bipush 102, 2) := by decide +kernel
theorem dX7_lineNow_173 : decode cX7_lineNow 173 = .ok (.bipush 102, 2) := by decide +kernel
theorem dX7_lineNow_175 : decode cX7_lineNow 175 = .ok (.invokevirtual 95, 3) := by decide +kernel
theorem dX7_lineNow_178 : decode cX7_lineNow 178 = .ok (.ifCond .eq 20, 3) := by decide +kernel
theorem dX7_lineNow_181 : decode cX7_lineNow 181 = .ok (.aload_n 0, 1) := by decide +kernel
theorem dX7_lineNow_182 : decode cX7_lineNow 182 = .ok (.bipush 101, 2) := by decide +kernel
theorem dX7_lineNow_184 : decode cX7_lineNow 184 = .ok (.bipush 114, 2) := by decide +kernel
theorem dX7_lineNow_186 : decode cX7_lineNow 186 = .ok (.iconst 0, 1) := by decide +kernel
theorem dX7_lineNow_187 : decode cX7_lineNow 187 = .ok (.invokevirtual 99, 3) := by decide +kernel
theorem dX7_lineNow_190 : decode cX7_lineNow 190 = .ok (.ifCond .eq 8, 3) := by decide +kernel
theorem dX7_lineNow_193 : decode cX7_lineNow 193 = .ok (.bipush 6, 2) := by decide +kernel
theorem dX7_lineNow_195 : decode cX7_lineNow 195 = .ok (.goto 5, 3) := by decide +kernel
theorem dX7_lineNow_198 : decode cX7_lineNow 198 = .ok (.bipush (-4), 2) := by decide +kernel
theorem dX7_lineNow_200 : decode cX7_lineNow 200 = .ok (.ireturn, 1) := by decide +kernel
theorem dX7_next_0 : decode cX7_next 0 = .ok (.aload_n 0, 1) := by decide +kernel
theorem dX7_next_1 : decode cX7_next 1 = .ok (.getfield 79, 3) := by decide +kernel
theorem dX7_next_4 : decode cX7_next 4 = .ok (.ifCond .le 4, 3) := by decide +kernel
theorem dX7_next_7 : decode cX7_next 7 = .ok (.return_, 1) := by decide +kernel
theorem dX7_next_8 : decode cX7_next 8 = .ok (.aload_n 0, 1) := by decide +kernel
theorem dX7_next_9 : decode cX7_next 9 = .ok (.aload_n 0, 1) := by decide +kernel
theorem dX7_next_10 : decode cX7_next 10 = .ok (.getfield 88, 3) := by decide +kernel
theorem dX7_next_13 : decode cX7_next 13 = .ok (.invokevirtual 91, 3) := by decide +kernel
theorem dX7_next_16 : decode cX7_next 16 = .ok (.bipush 32, 2) := by decide +kernel
theorem dX7_next_18 : decode cX7_next 18 = .ok (.if_icmp .ne 16, 3) := by decide +kernel
theorem dX7_next_21 : decode cX7_next 21 = .ok (.aload_n 0, 1) := by decide +kernel
theorem dX7_next_22 : decode cX7_next 22 = .ok (.dup, 1) := by decide +kernel
theorem dX7_next_23 : decode cX7_next 23 = .ok (.getfield 88, 3) := by decide +kernel
theorem dX7_next_26 : decode cX7_next 26 = .ok (.iconst 1, 1) := by decide +kernel
theorem dX7_next_27 : decode cX7_next 27 = .ok (.iadd, 1) := by decide +kernel
theorem dX7_next_28 : decode cX7_next 28 = .ok (.putfield 88, 3) := by decide +kernel
theorem dX7_next_31 : decode cX7_next 31 = .ok (.goto (-23), 3) := by decide +kernel
theorem dX7_next_34 : decode cX7_next 34 = .ok (.aload_n 0, 1) := by decide +kernel
theorem dX7_next_35 : decode cX7_next 35 = .ok (.aload_n 0, 1) := by decide +kernel
theorem dX7_next_36 : decode cX7_next 36 = .ok (.getfield 88, 3) := by decide +kernel
theorem dX7_next_39 : decode cX7_next 39 = .ok (.putfield 82, 3) := by decide +kernel
theorem dX7_next_42 : decode cX7_next 42 = .ok (.aload_n 0, 1) := by decide +kernel
theorem dX7_next_43 : decode cX7_next 43 = .ok (.aload_n 0, 1) := by decide +kernel
theorem dX7_next_44 : decode cX7_next 44 = .ok (.getfield 88, 3) := by decide +kernel
theorem dX7_next_47 : decode cX7_next 47 = .ok (.invokevirtual 91, 3) := by decide +kernel
theorem dX7_next_50 : decode cX7_next 50 = .ok (.istore_n 1, 1) := by decide +kernel
theorem dX7_next_51 : decode cX7_next 51 = .ok (.iload_n 1, 1) := by decide +kernel
theorem dX7_next_52 : decode cX7_next 52 = .ok (.ifCond .ge 11, 3) := by decide +kernel
theorem dX7_next_55 : decode cX7_next 55 = .ok (.aload_n 0, 1) := by decide +kernel
theorem dX7_next_56 : decode cX7_next 56 = .ok (.iconst 0, 1) := by decide +kernel
theorem dX7_next_57 : decode cX7_next 57 = .ok (.putfield 103, 3) := by decide +kernel
theorem dX7_next_60 : decode cX7_next 60 = .ok (.goto 214, 3) := by decide +kernel
theorem dX7_next_63 : decode cX7_next 63 = .ok (.iload_n 1, 1) := by decide +kernel
theorem dX7_next_64 : decode cX7_next 64 = .ok (.i2l, 1) := by decide +kernel
theorem dX7_next_65 : decode cX7_next 65 = .ok (.ldc2_w 106, 3) := by decide +kernel
theorem dX7_next_68 : decode cX7_next 68 = .ok (.ldc2_w 108, 3) := by decide +kernel
theorem dX7_next_71 : decode cX7_next 71 = .ok (.invokestatic 72, 3) := by decide +kernel
theorem dX7_next_74 : decode cX7_next 74 = .ok (.ifCond .eq 42, 3) := by decide +kernel
theorem dX7_next_77 : decode cX7_next 77 = .ok (.aload_n 0, 1) := by decide +kernel
theorem dX7_next_78 : decode cX7_next 78 = .ok (.iconst 1, 1) := by decide +kernel
theorem dX7_next_79 : decode cX7_next 79 = .ok (.putfield 103, 3) := by decide +kernel
theorem dX7_next_82 : decode cX7_next 82 = .ok (.aload_n 0, 1) := by decide +kernel
theorem dX7_next_83 : decode cX7_next 83 = .ok (.aload_n 0, 1) := by decide +kernel
theorem dX7_next_84 : decode cX7_next 84 = .ok (.getfield 88, 3) := by decide +kernel
theorem dX7_next_87 : decode cX7_next 87 = .ok (.invokevirtual 91, 3) := by decide +kernel
theorem dX7_next_90 : decode cX7_next 90 = .ok (.i2l, 1) := by decide +kernel
theorem dX7_next_91 : decode cX7_next 91 = .ok (.ldc2_w 106, 3) := by decide +kernel
theorem dX7_next_94 : decode cX7_next 94 = .ok (.ldc2_w 108, 3) := by decide +kernel
theorem dX7_next_97 : decode cX7_next 97 = .ok (.invokestatic 72, 3) := by decide +kernel
theorem dX7_next_100 : decode cX7_next 100 = .ok (.ifCond .eq 174, 3) := by decide +kernel
theorem dX7_next_103 : decode cX7_next 103 = .ok (.aload_n 0, 1) := by decide +kernel
theorem dX7_next_104 : decode cX7_next 104 = .ok (.dup, 1) := by decide +kernel
theorem dX7_next_105 : decode cX7_next 105 = .ok (.getfield 88, 3) := by decide +kernel
theorem dX7_next_108 : decode cX7_next 108 = .ok (.iconst 1, 1) := by decide +kernel
theorem dX7_next_109 : decode cX7_next 109 = .ok (.iadd, 1) := by decide +kernel
theorem dX7_next_110 : decode cX7_next 110 = .ok (.putfield 88, 3) := by decide +kernel
theorem dX7_next_113 : decode cX7_next 113 = .ok (.goto (-31), 3) := by decide +kernel
theorem dX7_next_116 : decode cX7_next 116 = .ok (.iload_n 1, 1) := by decide +kernel
theorem dX7_next_117 : decode cX7_next 117 = .ok (.i2l, 1) := by decide +kernel
theorem dX7_next_118 : decode cX7_next 118 = .ok (.ldc2_w 110, 3) := by decide +kernel
theorem dX7_next_121 : decode cX7_next 121 = .ok (.ldc2_w 112, 3) := by decide +kernel
theorem dX7_next_124 : decode cX7_next 124 = .ok (.invokestatic 72, 3) := by decide +kernel
theorem dX7_next_127 : decode cX7_next 127 = .ok (.ifCond .eq 116, 3) := by decide +kernel
theorem dX7_next_130 : decode cX7_next 130 = .ok (.aload_n 0, 1) := by decide +kernel
theorem dX7_next_131 : decode cX7_next 131 = .ok (.iconst 2, 1) := by decide +kernel
theorem dX7_next_132 : decode cX7_next 132 = .ok (.putfield 103, 3) := by decide +kernel
theorem dX7_next_135 : decode cX7_next 135 = .ok (.aload_n 0, 1) := by decide +kernel
theorem dX7_next_136 : decode cX7_next 136 = .ok (.iconst 0, 1) := by decide +kernel
theorem dX7_next_137 : decode cX7_next 137 = .ok (.putfield 114, 3) := by decide +kernel
theorem dX7_next_140 : decode cX7_next 140 = .ok (.aload_n 0, 1) := by decide +kernel
theorem dX7_next_141 : decode cX7_next 141 = .ok (.aload_n 0, 1) := by decide +kernel
theorem dX7_next_142 : decode cX7_next 142 = .ok (.getfield 88, 3) := by decide +kernel
theorem dX7_next_145 : decode cX7_next 145 = .ok (.invokevirtual 91, 3) := by decide +kernel
theorem dX7_next_148 : decode cX7_next 148 = .ok (.i2l, 1) := by decide +kernel
theorem dX7_next_149 : decode cX7_next 149 = .ok (.ldc2_w 110, 3) := by decide +kernel
theorem dX7_next_152 : decode cX7_next 152 = .ok (.ldc2_w 112, 3) := by decide +kernel
theorem dX7_next_155 : decode cX7_next 155 = .ok (.invokestatic 72, 3) := by decide +kernel
theorem dX7_next_158 : decode cX7_next 158 = .ok (.ifCond .eq 59, 3) := by decide +kernel
theorem dX7_next_161 : decode cX7_next 161 = .ok (.aload_n 0, 1) := by decide +kernel
theorem dX7_next_162 : decode cX7_next 162 = .ok (.aload_n 0, 1) := by decide +kernel
theorem dX7_next_163 : decode cX7_next 163 = .ok (.getfield 88, 3) := by decide +kernel
theorem dX7_next_166 : decode cX7_next 166 = .ok (.aload_n 0, 1) := by decide +kernel
theorem dX7_next_167 : decode cX7_next 167 = .ok (.getfield 82, 3) := by decide +kernel
theorem dX7_next_170 : decode cX7_next 170 = .ok (.isub, 1) := by decide +kernel
theorem dX7_next_171 : decode cX7_next 171 = .ok (.iconst 2, 1) := by decide +kernel
theorem dX7_next_172 : decode cX7_next 172 = .ok (.if_icmp .ge 25, 3) := by decide +kernel
theorem dX7_next_175 : decode cX7_next 175 = .ok (.bipush 10, 2) := by decide +kernel
theorem dX7_next_177 : decode cX7_next 177 = .ok (.aload_n 0, 1) := by decide +kernel
theorem dX7_next_178 : decode cX7_next 178 = .ok (.getfield 114, 3) := by decide +kernel
theorem dX7_next_181 : decode cX7_next 181 = .ok (.imul, 1) := by decide +kernel
theorem dX7_next_182 : decode cX7_next 182 = .ok (.aload_n 0, 1) := by decide +kernel
theorem dX7_next_183 : decode cX7_next 183 = .ok (.aload_n 0, 1) := by decide +kernel
theorem dX7_next_184 : decode cX7_next 184 = .ok (.getfield 88, 3) := by decide +kernel
theorem dX7_next_187 : decode cX7_next 187 = .ok (.invokevirtual 91, 3) := by decide +kernel
theorem dX7_next_190 : decode cX7_next 190 = .ok (.iadd, 1) := by decide +kernel
theorem dX7_next_191 : decode cX7_next 191 = .ok (.bipush 48, 2) := by decide +kernel
theorem dX7_next_193 : decode cX7_next 193 = .ok (.isub, 1) := by decide +kernel
theorem dX7_next_194 : decode cX7_next 194 = .ok (.goto 7, 3) := by decide +kernel
theorem dX7_next_197 : decode cX7_next 197 = .ok (.aload_n 0, 1) := by decide +kernel
theorem dX7_next_198 : decode cX7_next 198 = .ok (.getfield 114, 3) := by decide +kernel
theorem dX7_next_201 : decode cX7_next 201 = .ok (.putfield 114, 3) := by decide +kernel
theorem dX7_next_204 : decode cX7_next 204 = .ok (.aload_n 0, 1) := by decide +kernel
theorem dX7_next_205 : decode cX7_next 205 = .ok (.dup, 1) := by decide +kernel
theorem dX7_next_206 : decode cX7_next 206 = .ok (.getfield 88, 3) := by decide +kernel
theorem dX7_next_209 : decode cX7_next 209 = .ok (.iconst 1, 1) := by decide +kernel
theorem dX7_next_210 : decode cX7_next 210 = .ok (.iadd, 1) := by decide +kernel
theorem dX7_next_211 : decode cX7_next 211 = .ok (.putfield 88, 3) := by decide +kernel
theorem dX7_next_214 : decode cX7_next 214 = .ok (.goto (-74), 3) := by decide +kernel
theorem dX7_next_217 : decode cX7_next 217 = .ok (.aload_n 0, 1) := by decide +kernel
theorem dX7_next_218 : decode cX7_next 218 = .ok (.aload_n 0, 1) := by decide +kernel
theorem dX7_next_219 : decode cX7_next 219 = .ok (.getfield 88, 3) := by decide +kernel
theorem dX7_next_222 : decode cX7_next 222 = .ok (.aload_n 0, 1) := by decide +kernel
theorem dX7_next_223 : decode cX7_next 223 = .ok (.getfield 82, 3) := by decide +kernel
theorem dX7_next_226 : decode cX7_next 226 = .ok (.isub, 1) := by decide +kernel
theorem dX7_next_227 : decode cX7_next 227 = .ok (.iconst 2, 1) := by decide +kernel
theorem dX7_next_228 : decode cX7_next 228 = .ok (.if_icmp .gt 7, 3) := by decide +kernel
theorem dX7_next_231 : decode cX7_next 231 = .ok (.iconst 1, 1) := by decide +kernel
theorem dX7_next_232 : decode cX7_next 232 = .ok (.goto 4, 3) := by decide +kernel
theorem dX7_next_235 : decode cX7_next 235 = .ok (.iconst 0, 1) := by decide +kernel
theorem dX7_next_236 : decode cX7_next 236 = .ok (.iconst 1, 1) := by decide +kernel
theorem dX7_next_237 : decode cX7_next 237 = .ok (.invokevirtual 117, 3) := by decide +kernel
theorem dX7_next_240 : decode cX7_next 240 = .ok (.goto 34, 3) := by decide +kernel
theorem dX7_next_243 : decode cX7_next 243 = .ok (.aload_n 0, 1) := by decide +kernel
theorem dX7_next_244 : decode cX7_next 244 = .ok (.iconst 3, 1) := by decide +kernel
theorem dX7_next_245 : decode cX7_next 245 = .ok (.putfield 103, 3) := by decide +kernel
theorem dX7_next_248 : decode cX7_next 248 = .ok (.aload_n 0, 1) := by decide +kernel
theorem dX7_next_249 : decode cX7_next 249 = .ok (.iload_n 1, 1) := by decide +kernel
theorem dX7_next_250 : decode cX7_next 250 = .ok (.bipush 59, 2) := by decide +kernel
theorem dX7_next_252 : decode cX7_next 252 = .ok (.if_icmp .ne 7, 3) := by decide +kernel
theorem dX7_next_255 : decode cX7_next 255 = .ok (.iconst 1, 1) := by decide +kernel
theorem dX7_next_256 : decode cX7_next 256 = .ok (.goto 4, 3) := by decide +kernel
theorem dX7_next_259 : decode cX7_next 259 = .ok (.iconst 0, 1) := by decide +kernel
theorem dX7_next_260 : decode cX7_next 260 = .ok (.iconst 1, 1) := by decide +kernel
theorem dX7_next_261 : decode cX7_next 261 = .ok (.invokevirtual 117, 3) := by decide +kernel
theorem dX7_next_264 : decode cX7_next 264 = .ok (.aload_n 0, 1) := by decide +kernel
theorem dX7_next_265 : decode cX7_next 265 = .ok (.dup, 1) := by decide +kernel
theorem dX7_next_266 : decode cX7_next 266 = .ok (.getfield 88, 3) := by decide +kernel
theorem dX7_next_269 : decode cX7_next 269 = .ok (.iconst 1, 1) := by decide +kernel
theorem dX7_next_270 : decode cX7_next 270 = .ok (.iadd, 1) := by decide +kernel
theorem dX7_next_271 : decode cX7_next 271 = .ok (.putfield 88, 3) := by decide +kernel
theorem dX7_next_274 : decode cX7_next 274 = .ok (.return_, 1) := by decide +kernel
theorem dX7_looked_0 : decode cX7_looked 0 = .ok (.aload_n 0, 1) := by decide +kernel
theorem dX7_looked_1 : decode cX7_looked 1 = .ok (.getfield 79, 3) := by decide +kernel
theorem dX7_looked_4 : decode cX7_looked 4 = .ok (.ifCond .ne 21, 3) := by decide +kernel
theorem dX7_looked_7 : decode cX7_looked 7 = .ok (.aload_n 0, 1) := by decide +kernel
theorem dX7_looked_8 : decode cX7_looked 8 = .ok (.aload_n 0, 1) := by decide +kernel
theorem dX7_looked_9 : decode cX7_looked 9 = .ok (.getfield 103, 3) := by decide +kernel
theorem dX7_looked_12 : decode cX7_looked 12 = .ok (.iconst 2, 1) := by decide +kernel
theorem dX7_looked_13 : decode cX7_looked 13 = .ok (.if_icmp .ne 7, 3) := by decide +kernel
theorem dX7_looked_16 : decode cX7_looked 16 = .ok (.iconst 1, 1) := by decide +kernel
theorem dX7_looked_17 : decode cX7_looked 17 = .ok (.goto 4, 3) := by decide +kernel
theorem dX7_looked_20 : decode cX7_looked 20 = .ok (.iconst 0, 1) := by decide +kernel
theorem dX7_looked_21 : decode cX7_looked 21 = .ok (.iconst 2, 1) := by decide +kernel
theorem dX7_looked_22 : decode cX7_looked 22 = .ok (.invokevirtual 117, 3) := by decide +kernel
theorem dX7_looked_25 : decode cX7_looked 25 = .ok (.aload_n 0, 1) := by decide +kernel
theorem dX7_looked_26 : decode cX7_looked 26 = .ok (.getfield 79, 3) := by decide +kernel
theorem dX7_looked_29 : decode cX7_looked 29 = .ok (.ifCond .ne 20, 3) := by decide +kernel
theorem dX7_looked_32 : decode cX7_looked 32 = .ok (.aload_n 0, 1) := by decide +kernel
theorem dX7_looked_33 : decode cX7_looked 33 = .ok (.aload_n 0, 1) := by decide +kernel
theorem dX7_looked_34 : decode cX7_looked 34 = .ok (.getfield 114, 3) := by decide +kernel
theorem dX7_looked_37 : decode cX7_looked 37 = .ok (.i2l, 1) := by decide +kernel
theorem dX7_looked_38 : decode cX7_looked 38 = .ok (.iload_n 1, 1) := by decide +kernel
theorem dX7_looked_39 : decode cX7_looked 39 = .ok (.i2l, 1) := by decide +kernel
theorem dX7_looked_40 : decode cX7_looked 40 = .ok (.iload_n 2, 1) := by decide +kernel
theorem dX7_looked_41 : decode cX7_looked 41 = .ok (.i2l, 1) := by decide +kernel
theorem dX7_looked_42 : decode cX7_looked 42 = .ok (.invokestatic 72, 3) := by decide +kernel
theorem dX7_looked_45 : decode cX7_looked 45 = .ok (.iconst 3, 1) := by decide +kernel
theorem dX7_looked_46 : decode cX7_looked 46 = .ok (.invokevirtual 117, 3) := by decide +kernel
theorem dX7_looked_49 : decode cX7_looked 49 = .ok (.aload_n 0, 1) := by decide +kernel
theorem dX7_looked_50 : decode cX7_looked 50 = .ok (.getfield 79, 3) := by decide +kernel
theorem dX7_looked_53 : decode cX7_looked 53 = .ok (.ifCond .ne 10, 3) := by decide +kernel
theorem dX7_looked_56 : decode cX7_looked 56 = .ok (.aload_n 0, 1) := by decide +kernel
theorem dX7_looked_57 : decode cX7_looked 57 = .ok (.getfield 114, 3) := by decide +kernel
theorem dX7_looked_60 : decode cX7_looked 60 = .ok (.goto 4, 3) := by decide +kernel
theorem dX7_looked_63 : decode cX7_looked 63 = .ok (.iconst 0, 1) := by decide +kernel
theorem dX7_looked_64 : decode cX7_looked 64 = .ok (.ireturn, 1) := by decide +kernel
theorem dX7_readNumber_0 : decode cX7_readNumber 0 = .ok (.aload_n 0, 1) := by decide +kernel
theorem dX7_readNumber_1 : decode cX7_readNumber 1 = .ok (.iload_n 1, 1) := by decide +kernel
theorem dX7_readNumber_2 : decode cX7_readNumber 2 = .ok (.iload_n 2, 1) := by decide +kernel
theorem dX7_readNumber_3 : decode cX7_readNumber 3 = .ok (.invokevirtual 121, 3) := by decide +kernel
theorem dX7_readNumber_6 : decode cX7_readNumber 6 = .ok (.istore_n 3, 1) := by decide +kernel
theorem dX7_readNumber_7 : decode cX7_readNumber 7 = .ok (.aload_n 0, 1) := by decide +kernel
theorem dX7_readNumber_8 : decode cX7_readNumber 8 = .ok (.invokevirtual 125, 3) := by decide +kernel
theorem dX7_readNumber_11 : decode cX7_readNumber 11 = .ok (.iload_n 3, 1) := by decide +kernel
theorem dX7_readNumber_12 : decode cX7_readNumber 12 = .ok (.ireturn, 1) := by decide +kernel
theorem dX7_readHouse_0 : decode cX7_readHouse 0 = .ok (.aload_n 0, 1) := by decide +kernel
theorem dX7_readHouse_1 : decode cX7_readHouse 1 = .ok (.iconst 0, 1) := by decide +kernel
theorem dX7_readHouse_2 : decode cX7_readHouse 2 = .ok (.iconst 4, 1) := by decide +kernel
theorem dX7_readHouse_3 : decode cX7_readHouse 3 = .ok (.invokevirtual 128, 3) := by decide +kernel
theorem dX7_readHouse_6 : decode cX7_readHouse 6 = .ok (.istore_n 1, 1) := by decide +kernel
theorem dX7_readHouse_7 : decode cX7_readHouse 7 = .ok (.aload_n 0, 1) := by decide +kernel
theorem dX7_readHouse_8 : decode cX7_readHouse 8 = .ok (.iload_n 1, 1) := by decide +kernel
theorem dX7_readHouse_9 : decode cX7_readHouse 9 = .ok (.aload_n 0, 1) := by decide +kernel
theorem dX7_readHouse_10 : decode cX7_readHouse 10 = .ok (.getfield 64, 3) := by decide +kernel
theorem dX7_readHouse_13 : decode cX7_readHouse 13 = .ok (.if_icmp .le 14, 3) := by decide +kernel
theorem dX7_readHouse_16 : decode cX7_readHouse 16 = .ok (.aload_n 0, 1) := by decide +kernel
theorem dX7_readHouse_17 : decode cX7_readHouse 17 = .ok (.getfield 79, 3) := by decide +kernel
theorem dX7_readHouse_20 : decode cX7_readHouse 20 = .ok (.ifCond .ne 7, 3) := by decide +kernel
theorem dX7_readHouse_23 : decode cX7_readHouse 23 = .ok (.iload_n 1, 1) := by decide +kernel
theorem dX7_readHouse_24 : decode cX7_readHouse 24 = .ok (.goto 7, 3) := by decide +kernel
theorem dX7_readHouse_27 : decode cX7_readHouse 27 = .ok (.aload_n 0, 1) := by decide +kernel
theorem dX7_readHouse_28 : decode cX7_readHouse 28 = .ok (.getfield 64, 3) := by decide +kernel
theorem dX7_readHouse_31 : decode cX7_readHouse 31 = .ok (.putfield 64, 3) := by decide +kernel
theorem dX7_readHouse_34 : decode cX7_readHouse 34 = .ok (.iload_n 1, 1) := by decide +kernel
theorem dX7_readHouse_35 : decode cX7_readHouse 35 = .ok (.ireturn, 1) := by decide +kernel
theorem dX7_readRain_0 : decode cX7_readRain 0 = .ok (.aload_n 0, 1) := by decide +kernel
theorem dX7_readRain_1 : decode cX7_readRain 1 = .ok (.iconst 0, 1) := by decide +kernel
theorem dX7_readRain_2 : decode cX7_readRain 2 = .ok (.bipush 6, 2) := by decide +kernel
theorem dX7_readRain_4 : decode cX7_readRain 4 = .ok (.invokevirtual 121, 3) := by decide +kernel
theorem dX7_readRain_7 : decode cX7_readRain 7 = .ok (.istore_n 1, 1) := by decide +kernel
theorem dX7_readRain_8 : decode cX7_readRain 8 = .ok (.aload_n 0, 1) := by decide +kernel
theorem dX7_readRain_9 : decode cX7_readRain 9 = .ok (.getfield 79, 3) := by decide +kernel
theorem dX7_readRain_12 : decode cX7_readRain 12 = .ok (.ifCond .ne 40, 3) := by decide +kernel
theorem dX7_readRain_15 : decode cX7_readRain 15 = .ok (.aload_n 0, 1) := by decide +kernel
theorem dX7_readRain_16 : decode cX7_readRain 16 = .ok (.aload_n 0, 1) := by decide +kernel
theorem dX7_readRain_17 : decode cX7_readRain 17 = .ok (.getfield 20, 3) := by decide +kernel
theorem dX7_readRain_20 : decode cX7_readRain 20 = .ok (.bipush 18, 2) := by decide +kernel
theorem dX7_readRain_22 : decode cX7_readRain 22 = .ok (.iaload, 1) := by decide +kernel
theorem dX7_readRain_23 : decode cX7_readRain 23 = .ok (.iload_n 1, 1) := by decide +kernel
theorem dX7_readRain_24 : decode cX7_readRain 24 = .ok (.ishr, 1) := by decide +kernel
theorem dX7_readRain_25 : decode cX7_readRain 25 = .ok (.iconst 1, 1) := by decide +kernel
theorem dX7_readRain_26 : decode cX7_readRain 26 = .ok (.iand, 1) := by decide +kernel
theorem dX7_readRain_27 : decode cX7_readRain 27 = .ok (.ifCond .ne 7, 3) := by decide +kernel
theorem dX7_readRain_30 : decode cX7_readRain 30 = .ok (.iconst 1, 1) := by decide +kernel
theorem dX7_readRain_31 : decode cX7_readRain 31 = .ok (.goto 4, 3) := by decide +kernel
theorem dX7_readRain_34 : decode cX7_readRain 34 = .ok (.iconst 0, 1) := by decide +kernel
theorem dX7_readRain_35 : decode cX7_readRain 35 = .ok (.iconst 4, 1) := by decide +kernel
theorem dX7_readRain_36 : decode cX7_readRain 36 = .ok (.invokevirtual 117, 3) := by decide +kernel
theorem dX7_readRain_39 : decode cX7_readRain 39 = .ok (.aload_n 0, 1) := by decide +kernel
theorem dX7_readRain_40 : decode cX7_readRain 40 = .ok (.getfield 20, 3) := by decide +kernel
theorem dX7_readRain_43 : decode cX7_readRain 43 = .ok (.bipush 18, 2) := by decide +kernel
theorem dX7_readRain_45 : decode cX7_readRain 45 = .ok (.dup2, 1) := by decide +kernel
theorem dX7_readRain_46 : decode cX7_readRain 46 = .ok (.iaload, 1) := by decide +kernel
theorem dX7_readRain_47 : decode cX7_readRain 47 = .ok (.iconst 1, 1) := by decide +kernel
theorem dX7_readRain_48 : decode cX7_readRain 48 = .ok (.iload_n 1, 1) := by decide +kernel
theorem dX7_readRain_49 : decode cX7_readRain 49 = .ok (.ishl, 1) := by decide +kernel
theorem dX7_readRain_50 : decode cX7_readRain 50 = .ok (.ior, 1) := by decide +kernel
theorem dX7_readRain_51 : decode cX7_readRain 51 = .ok (.iastore, 1) := by decide +kernel
theorem dX7_readRain_52 : decode cX7_readRain 52 = .ok (.aload_n 0, 1) := by decide +kernel
theorem dX7_readRain_53 : decode cX7_readRain 53 = .ok (.invokevirtual 125, 3) := by decide +kernel
theorem dX7_readRain_56 : decode cX7_readRain 56 = .ok (.return_, 1) := by decide +kernel
theorem dX7_readLineOf_0 : decode cX7_readLineOf 0 = .ok (.iload_n 1, 1) := by decide +kernel
theorem dX7_readLineOf_1 : decode cX7_readLineOf 1 = .ok (.tableswitch 124 4 6 #[27, 69, 76], 27) := by decide +kernel
theorem dX7_readLineOf_28 : decode cX7_readLineOf 28 = .ok (.aload_n 0, 1) := by decide +kernel
theorem dX7_readLineOf_29 : decode cX7_readLineOf 29 = .ok (.getfield 20, 3) := by decide +kernel
theorem dX7_readLineOf_32 : decode cX7_readLineOf 32 = .ok (.bipush 15, 2) := by decide +kernel
theorem dX7_readLineOf_34 : decode cX7_readLineOf 34 = .ok (.aload_n 0, 1) := by decide +kernel
theorem dX7_readLineOf_35 : decode cX7_readLineOf 35 = .ok (.invokevirtual 131, 3) := by decide +kernel
theorem dX7_readLineOf_38 : decode cX7_readLineOf 38 = .ok (.iastore, 1) := by decide +kernel
theorem dX7_readLineOf_39 : decode cX7_readLineOf 39 = .ok (.aload_n 0, 1) := by decide +kernel
theorem dX7_readLineOf_40 : decode cX7_readLineOf 40 = .ok (.getfield 20, 3) := by decide +kernel
theorem dX7_readLineOf_43 : decode cX7_readLineOf 43 = .ok (.bipush 16, 2) := by decide +kernel
theorem dX7_readLineOf_45 : decode cX7_readLineOf 45 = .ok (.aload_n 0, 1) := by decide +kernel
theorem dX7_readLineOf_46 : decode cX7_readLineOf 46 = .ok (.iconst 0, 1) := by decide +kernel
theorem dX7_readLineOf_47 : decode cX7_readLineOf 47 = .ok (.bipush 20, 2) := by decide +kernel
theorem dX7_readLineOf_49 : decode cX7_readLineOf 49 = .ok (.invokevirtual 128, 3) := by decide +kernel
theorem dX7_readLineOf_52 : decode cX7_readLineOf 52 = .ok (.iastore, 1) := by decide +kernel
theorem dX7_readLineOf_53 : decode cX7_readLineOf 53 = .ok (.aload_n 0, 1) := by decide +kernel
theorem dX7_readLineOf_54 : decode cX7_readLineOf 54 = .ok (.getfield 20, 3) := by decide +kernel
theorem dX7_readLineOf_57 : decode cX7_readLineOf 57 = .ok (.bipush 17, 2) := by decide +kernel
theorem dX7_readLineOf_59 : decode cX7_readLineOf 59 = .ok (.aload_n 0, 1) := by decide +kernel
theorem dX7_readLineOf_60 : decode cX7_readLineOf 60 = .ok (.iconst 0, 1) := by decide +kernel
theorem dX7_readLineOf_61 : decode cX7_readLineOf 61 = .ok (.bipush 9, 2) := by decide +kernel
theorem dX7_readLineOf_63 : decode cX7_readLineOf 63 = .ok (.invokevirtual 128, 3) := by decide +kernel
theorem dX7_readLineOf_66 : decode cX7_readLineOf 66 = .ok (.iastore, 1) := by decide +kernel
theorem dX7_readLineOf_67 : decode cX7_readLineOf 67 = .ok (.goto 98, 3) := by decide +kernel
theorem dX7_readLineOf_70 : decode cX7_readLineOf 70 = .ok (.aload_n 0, 1) := by decide +kernel
theorem dX7_readLineOf_71 : decode cX7_readLineOf 71 = .ok (.invokevirtual 135, 3) := by decide +kernel
theorem dX7_readLineOf_74 : decode cX7_readLineOf 74 = .ok (.goto 91, 3) := by decide +kernel
theorem dX7_readLineOf_77 : decode cX7_readLineOf 77 = .ok (.aload_n 0, 1) := by decide +kernel
theorem dX7_readLineOf_78 : decode cX7_readLineOf 78 = .ok (.getfield 23, 3) := by decide +kernel
theorem dX7_readLineOf_81 : decode cX7_readLineOf 81 = .ok (.iconst 2, 1) := by decide +kernel
theorem dX7_readLineOf_82 : decode cX7_readLineOf 82 = .ok (.aload_n 0, 1) := by decide +kernel
theorem dX7_readLineOf_83 : decode cX7_readLineOf 83 = .ok (.getfield 61, 3) := by decide +kernel
theorem dX7_readLineOf_86 : decode cX7_readLineOf 86 = .ok (.imul, 1) := by decide +kernel
theorem dX7_readLineOf_87 : decode cX7_readLineOf 87 = .ok (.aload_n 0, 1) := by decide +kernel
theorem dX7_readLineOf_88 : decode cX7_readLineOf 88 = .ok (.invokevirtual 131, 3) := by decide +kernel
theorem dX7_readLineOf_91 : decode cX7_readLineOf 91 = .ok (.iastore, 1) := by decide +kernel
theorem dX7_readLineOf_92 : decode cX7_readLineOf 92 = .ok (.aload_n 0, 1) := by decide +kernel
theorem dX7_readLineOf_93 : decode cX7_readLineOf 93 = .ok (.getfield 23, 3) := by decide +kernel
theorem dX7_readLineOf_96 : decode cX7_readLineOf 96 = .ok (.iconst 2, 1) := by decide +kernel
theorem dX7_readLineOf_97 : decode cX7_readLineOf 97 = .ok (.aload_n 0, 1) := by decide +kernel
theorem dX7_readLineOf_98 : decode cX7_readLineOf 98 = .ok (.getfield 61, 3) := by decide +kernel
theorem dX7_readLineOf_101 : decode cX7_readLineOf 101 = .ok (.imul, 1) := by decide +kernel
theorem dX7_readLineOf_102 : decode cX7_readLineOf 102 = .ok (.iconst 1, 1) := by decide +kernel
theorem dX7_readLineOf_103 : decode cX7_readLineOf 103 = .ok (.iadd, 1) := by decide +kernel
theorem dX7_readLineOf_104 : decode cX7_readLineOf 104 = .ok (.aload_n 0, 1) := by decide +kernel
theorem dX7_readLineOf_105 : decode cX7_readLineOf 105 = .ok (.iconst 1, 1) := by decide +kernel
theorem dX7_readLineOf_106 : decode cX7_readLineOf 106 = .ok (.bipush 20, 2) := by decide +kernel
theorem dX7_readLineOf_108 : decode cX7_readLineOf 108 = .ok (.invokevirtual 128, 3) := by decide +kernel
theorem dX7_readLineOf_111 : decode cX7_readLineOf 111 = .ok (.iastore, 1) := by decide +kernel
theorem dX7_readLineOf_112 : decode cX7_readLineOf 112 = .ok (.aload_n 0, 1) := by decide +kernel
theorem dX7_readLineOf_113 : decode cX7_readLineOf 113 = .ok (.dup, 1) := by decide +kernel
theorem dX7_readLineOf_114 : decode cX7_readLineOf 114 = .ok (.getfield 61, 3) := by decide +kernel
theorem dX7_readLineOf_117 : decode cX7_readLineOf 117 = .ok (.iconst 1, 1) := by decide +kernel
theorem dX7_readLineOf_118 : decode cX7_readLineOf 118 = .ok (.iadd, 1) := by decide +kernel
theorem dX7_readLineOf_119 : decode cX7_readLineOf 119 = .ok (.putfield 61, 3) := by decide +kernel
theorem dX7_readLineOf_122 : decode cX7_readLineOf 122 = .ok (.goto 43, 3) := by decide +kernel
theorem dX7_readLineOf_125 : decode cX7_readLineOf 125 = .ok (.aload_n 0, 1) := by decide +kernel
theorem dX7_readLineOf_126 : decode cX7_readLineOf 126 = .ok (.getfield 20, 3) := by decide +kernel
theorem dX7_readLineOf_129 : decode cX7_readLineOf 129 = .ok (.iconst 0, 1) := by decide +kernel
theorem dX7_readLineOf_130 : decode cX7_readLineOf 130 = .ok (.aload_n 0, 1) := by decide +kernel
theorem dX7_readLineOf_131 : decode cX7_readLineOf 131 = .ok (.getfield 53, 3) := by decide +kernel
theorem dX7_readLineOf_134 : decode cX7_readLineOf 134 = .ok (.iadd, 1) := by decide +kernel
theorem dX7_readLineOf_135 : decode cX7_readLineOf 135 = .ok (.iload_n 1, 1) := by decide +kernel
theorem dX7_readLineOf_136 : decode cX7_readLineOf 136 = .ok (.iastore, 1) := by decide +kernel
theorem dX7_readLineOf_137 : decode cX7_readLineOf 137 = .ok (.aload_n 0, 1) := by decide +kernel
theorem dX7_readLineOf_138 : decode cX7_readLineOf 138 = .ok (.getfield 20, 3) := by decide +kernel
theorem dX7_readLineOf_141 : decode cX7_readLineOf 141 = .ok (.iconst 5, 1) := by decide +kernel
theorem dX7_readLineOf_142 : decode cX7_readLineOf 142 = .ok (.aload_n 0, 1) := by decide +kernel
theorem dX7_readLineOf_143 : decode cX7_readLineOf 143 = .ok (.getfield 53, 3) := by decide +kernel
theorem dX7_readLineOf_146 : decode cX7_readLineOf 146 = .ok (.iadd, 1) := by decide +kernel
theorem dX7_readLineOf_147 : decode cX7_readLineOf 147 = .ok (.aload_n 0, 1) := by decide +kernel
theorem dX7_readLineOf_148 : decode cX7_readLineOf 148 = .ok (.iconst 0, 1) := by decide +kernel
theorem dX7_readLineOf_149 : decode cX7_readLineOf 149 = .ok (.bipush 99, 2) := by decide +kernel
theorem dX7_readLineOf_151 : decode cX7_readLineOf 151 = .ok (.invokevirtual 128, 3) := by decide +kernel
theorem dX7_readLineOf_154 : decode cX7_readLineOf 154 = .ok (.iastore, 1) := by decide +kernel
theorem dX7_readLineOf_155 : decode cX7_readLineOf 155 = .ok (.aload_n 0, 1) := by decide +kernel
theorem dX7_readLineOf_156 : decode cX7_readLineOf 156 = .ok (.dup, 1) := by decide +kernel
theorem dX7_readLineOf_157 : decode cX7_readLineOf 157 = .ok (.getfield 53, 3) := by decide +kernel
theorem dX7_readLineOf_160 : decode cX7_readLineOf 160 = .ok (.iconst 1, 1) := by decide +kernel
theorem dX7_readLineOf_161 : decode cX7_readLineOf 161 = .ok (.iadd, 1) := by decide +kernel
theorem dX7_readLineOf_162 : decode cX7_readLineOf 162 = .ok (.putfield 53, 3) := by decide +kernel
theorem dX7_readLineOf_165 : decode cX7_readLineOf 165 = .ok (.return_, 1) := by decide +kernel
theorem dX7_readLine_0 : decode cX7_readLine 0 = .ok (.aload_n 0, 1) := by decide +kernel
theorem dX7_readLine_1 : decode cX7_readLine 1 = .ok (.getfield 103, 3) := by decide +kernel
theorem dX7_readLine_4 : decode cX7_readLine 4 = .ok (.iconst 1, 1) := by decide +kernel
theorem dX7_readLine_5 : decode cX7_readLine 5 = .ok (.if_icmp .ne 10, 3) := by decide +kernel
theorem dX7_readLine_8 : decode cX7_readLine 8 = .ok (.aload_n 0, 1) := by decide +kernel
theorem dX7_readLine_9 : decode cX7_readLine 9 = .ok (.invokevirtual 138, 3) := by decide +kernel
theorem dX7_readLine_12 : decode cX7_readLine 12 = .ok (.goto 5, 3) := by decide +kernel
theorem dX7_readLine_15 : decode cX7_readLine 15 = .ok (.bipush (-4), 2) := by decide +kernel
theorem dX7_readLine_17 : decode cX7_readLine 17 = .ok (.istore_n 1, 1) := by decide +kernel
theorem dX7_readLine_18 : decode cX7_readLine 18 = .ok (.aload_n 0, 1) := by decide +kernel
theorem dX7_readLine_19 : decode cX7_readLine 19 = .ok (.iload_n 1, 1) := by decide +kernel
theorem dX7_readLine_20 : decode cX7_readLine 20 = .ok (.bipush (-4), 2) := by decide +kernel
theorem dX7_readLine_22 : decode cX7_readLine 22 = .ok (.if_icmp .eq 7, 3) := by decide +kernel
theorem dX7_readLine_25 : decode cX7_readLine 25 = .ok (.iconst 1, 1) := by decide +kernel
theorem dX7_readLine_26 : decode cX7_readLine 26 = .ok (.goto 4, 3) := by decide +kernel
theorem dX7_readLine_29 : decode cX7_readLine 29 = .ok (.iconst 0, 1) := by decide +kernel
theorem dX7_readLine_30 : decode cX7_readLine 30 = .ok (.iconst 2, 1) := by decide +kernel
theorem dX7_readLine_31 : decode cX7_readLine 31 = .ok (.invokevirtual 117, 3) := by decide +kernel
theorem dX7_readLine_34 : decode cX7_readLine 34 = .ok (.aload_n 0, 1) := by decide +kernel
theorem dX7_readLine_35 : decode cX7_readLine 35 = .ok (.iload_n 1, 1) := by decide +kernel
theorem dX7_readLine_36 : decode cX7_readLine 36 = .ok (.bipush 6, 2) := by decide +kernel
theorem dX7_readLine_38 : decode cX7_readLine 38 = .ok (.if_icmp .ne 19, 3) := by decide +kernel
theorem dX7_readLine_41 : decode cX7_readLine 41 = .ok (.aload_n 0, 1) := by decide +kernel
theorem dX7_readLine_42 : decode cX7_readLine 42 = .ok (.getfield 61, 3) := by decide +kernel
theorem dX7_readLine_45 : decode cX7_readLine 45 = .ok (.iconst 4, 1) := by decide +kernel
theorem dX7_readLine_46 : decode cX7_readLine 46 = .ok (.if_icmp .ge 7, 3) := by decide +kernel
theorem dX7_readLine_49 : decode cX7_readLine 49 = .ok (.iconst 1, 1) := by decide +kernel
theorem dX7_readLine_50 : decode cX7_readLine 50 = .ok (.goto 25, 3) := by decide +kernel
theorem dX7_readLine_53 : decode cX7_readLine 53 = .ok (.iconst 0, 1) := by decide +kernel
theorem dX7_readLine_54 : decode cX7_readLine 54 = .ok (.goto 21, 3) := by decide +kernel
theorem dX7_readLine_57 : decode cX7_readLine 57 = .ok (.iload_n 1, 1) := by decide +kernel
theorem dX7_readLine_58 : decode cX7_readLine 58 = .ok (.iconst 4, 1) := by decide +kernel
theorem dX7_readLine_59 : decode cX7_readLine 59 = .ok (.if_icmp .ge 11, 3) := by decide +kernel
theorem dX7_readLine_62 : decode cX7_readLine 62 = .ok (.aload_n 0, 1) := by decide +kernel
theorem dX7_readLine_63 : decode cX7_readLine 63 = .ok (.getfield 53, 3) := by decide +kernel
theorem dX7_readLine_66 : decode cX7_readLine 66 = .ok (.iconst 5, 1) := by decide +kernel
theorem dX7_readLine_67 : decode cX7_readLine 67 = .ok (.if_icmp .ge 7, 3) := by decide +kernel
theorem dX7_readLine_70 : decode cX7_readLine 70 = .ok (.iconst 1, 1) := by decide +kernel
theorem dX7_readLine_71 : decode cX7_readLine 71 = .ok (.goto 4, 3) := by decide +kernel
theorem dX7_readLine_74 : decode cX7_readLine 74 = .ok (.iconst 0, 1) := by decide +kernel
theorem dX7_readLine_75 : decode cX7_readLine 75 = .ok (.iconst 5, 1) := by decide +kernel
theorem dX7_readLine_76 : decode cX7_readLine 76 = .ok (.invokevirtual 117, 3) := by decide +kernel
theorem dX7_readLine_79 : decode cX7_readLine 79 = .ok (.aload_n 0, 1) := by decide +kernel
theorem dX7_readLine_80 : decode cX7_readLine 80 = .ok (.iload_n 1, 1) := by decide +kernel
theorem dX7_readLine_81 : decode cX7_readLine 81 = .ok (.iconst 4, 1) := by decide +kernel
theorem dX7_readLine_82 : decode cX7_readLine 82 = .ok (.if_icmp .ne 10, 3) := by decide +kernel
theorem dX7_readLine_85 : decode cX7_readLine 85 = .ok (.aload_n 0, 1) := by decide +kernel
theorem dX7_readLine_86 : decode cX7_readLine 86 = .ok (.getfield 57, 3) := by decide +kernel
theorem dX7_readLine_89 : decode cX7_readLine 89 = .ok (.ifCond .ne 7, 3) := by decide +kernel
theorem dX7_readLine_92 : decode cX7_readLine 92 = .ok (.iconst 1, 1) := by decide +kernel
theorem dX7_readLine_93 : decode cX7_readLine 93 = .ok (.goto 4, 3) := by decide +kernel
theorem dX7_readLine_96 : decode cX7_readLine 96 = .ok (.iconst 0, 1) := by decide +kernel
theorem dX7_readLine_97 : decode cX7_readLine 97 = .ok (.iconst 4, 1) := by decide +kernel
theorem dX7_readLine_98 : decode cX7_readLine 98 = .ok (.invokevirtual 117, 3) := by decide +kernel
theorem dX7_readLine_101 : decode cX7_readLine 101 = .ok (.aload_n 0, 1) := by decide +kernel
theorem dX7_readLine_102 : decode cX7_readLine 102 = .ok (.aload_n 0, 1) := by decide +kernel
theorem dX7_readLine_103 : decode cX7_readLine 103 = .ok (.getfield 57, 3) := by decide +kernel
theorem dX7_readLine_106 : decode cX7_readLine 106 = .ok (.ifCond .ne 8, 3) := by decide +kernel
theorem dX7_readLine_109 : decode cX7_readLine 109 = .ok (.iload_n 1, 1) := by decide +kernel
theorem dX7_readLine_110 : decode cX7_readLine 110 = .ok (.iconst 4, 1) := by decide +kernel
theorem dX7_readLine_111 : decode cX7_readLine 111 = .ok (.if_icmp .ne 7, 3) := by decide +kernel
theorem dX7_readLine_114 : decode cX7_readLine 114 = .ok (.iconst 1, 1) := by decide +kernel
theorem dX7_readLine_115 : decode cX7_readLine 115 = .ok (.goto 4, 3) := by decide +kernel
theorem dX7_readLine_118 : decode cX7_readLine 118 = .ok (.iconst 0, 1) := by decide +kernel
theorem dX7_readLine_119 : decode cX7_readLine 119 = .ok (.putfield 57, 3) := by decide +kernel
theorem dX7_readLine_122 : decode cX7_readLine 122 = .ok (.aload_n 0, 1) := by decide +kernel
theorem dX7_readLine_123 : decode cX7_readLine 123 = .ok (.invokevirtual 125, 3) := by decide +kernel
theorem dX7_readLine_126 : decode cX7_readLine 126 = .ok (.aload_n 0, 1) := by decide +kernel
theorem dX7_readLine_127 : decode cX7_readLine 127 = .ok (.getfield 79, 3) := by decide +kernel
theorem dX7_readLine_130 : decode cX7_readLine 130 = .ok (.ifCond .le 4, 3) := by decide +kernel
theorem dX7_readLine_133 : decode cX7_readLine 133 = .ok (.return_, 1) := by decide +kernel
theorem dX7_readLine_134 : decode cX7_readLine 134 = .ok (.aload_n 0, 1) := by decide +kernel
theorem dX7_readLine_135 : decode cX7_readLine 135 = .ok (.iload_n 1, 1) := by decide +kernel
theorem dX7_readLine_136 : decode cX7_readLine 136 = .ok (.invokevirtual 141, 3) := by decide +kernel
theorem dX7_readLine_139 : decode cX7_readLine 139 = .ok (.aload_n 0, 1) := by decide +kernel
theorem dX7_readLine_140 : decode cX7_readLine 140 = .ok (.getfield 79, 3) := by decide +kernel
theorem dX7_readLine_143 : decode cX7_readLine 143 = .ok (.ifCond .ne 21, 3) := by decide +kernel
theorem dX7_readLine_146 : decode cX7_readLine 146 = .ok (.aload_n 0, 1) := by decide +kernel
theorem dX7_readLine_147 : decode cX7_readLine 147 = .ok (.aload_n 0, 1) := by decide +kernel
theorem dX7_readLine_148 : decode cX7_readLine 148 = .ok (.getfield 103, 3) := by decide +kernel
theorem dX7_readLine_151 : decode cX7_readLine 151 = .ok (.iconst 3, 1) := by decide +kernel
theorem dX7_readLine_152 : decode cX7_readLine 152 = .ok (.if_icmp .ne 7, 3) := by decide +kernel
theorem dX7_readLine_155 : decode cX7_readLine 155 = .ok (.iconst 1, 1) := by decide +kernel
theorem dX7_readLine_156 : decode cX7_readLine 156 = .ok (.goto 4, 3) := by decide +kernel
theorem dX7_readLine_159 : decode cX7_readLine 159 = .ok (.iconst 0, 1) := by decide +kernel
theorem dX7_readLine_160 : decode cX7_readLine 160 = .ok (.iconst 2, 1) := by decide +kernel
theorem dX7_readLine_161 : decode cX7_readLine 161 = .ok (.invokevirtual 117, 3) := by decide +kernel
theorem dX7_readLine_164 : decode cX7_readLine 164 = .ok (.aload_n 0, 1) := by decide +kernel
theorem dX7_readLine_165 : decode cX7_readLine 165 = .ok (.invokevirtual 125, 3) := by decide +kernel
theorem dX7_readLine_168 : decode cX7_readLine 168 = .ok (.return_, 1) := by decide +kernel
theorem dX7_offersCome_0 : decode cX7_offersCome 0 = .ok (.iconst 0, 1) := by decide +kernel
theorem dX7_offersCome_1 : decode cX7_offersCome 1 = .ok (.istore_n 1, 1) := by decide +kernel
theorem dX7_offersCome_2 : decode cX7_offersCome 2 = .ok (.iload_n 1, 1) := by decide +kernel
theorem dX7_offersCome_3 : decode cX7_offersCome 3 = .ok (.aload_n 0, 1) := by decide +kernel
theorem dX7_offersCome_4 : decode cX7_offersCome 4 = .ok (.getfield 61, 3) := by decide +kernel
theorem dX7_offersCome_7 : decode cX7_offersCome 7 = .ok (.if_icmp .ge 119, 3) := by decide +kernel
theorem dX7_offersCome_10 : decode cX7_offersCome 10 = .ok (.aload_n 0, 1) := by decide +kernel
theorem dX7_offersCome_11 : decode cX7_offersCome 11 = .ok (.getfield 23, 3) := by decide +kernel
theorem dX7_offersCome_14 : decode cX7_offersCome 14 = .ok (.iconst 2, 1) := by decide +kernel
theorem dX7_offersCome_15 : decode cX7_offersCome 15 = .ok (.iload_n 1, 1) := by decide +kernel
theorem dX7_offersCome_16 : decode cX7_offersCome 16 = .ok (.imul, 1) := by decide +kernel
theorem dX7_offersCome_17 : decode cX7_offersCome 17 = .ok (.iaload, 1) := by decide +kernel
theorem dX7_offersCome_18 : decode cX7_offersCome 18 = .ok (.istore_n 2, 1) := by decide +kernel
theorem dX7_offersCome_19 : decode cX7_offersCome 19 = .ok (.aload_n 0, 1) := by decide +kernel
theorem dX7_offersCome_20 : decode cX7_offersCome 20 = .ok (.getfield 23, 3) := by decide +kernel
theorem dX7_offersCome_23 : decode cX7_offersCome 23 = .ok (.iconst 2, 1) := by decide +kernel
theorem dX7_offersCome_24 : decode cX7_offersCome 24 = .ok (.iload_n 1, 1) := by decide +kernel
theorem dX7_offersCome_25 : decode cX7_offersCome 25 = .ok (.imul, 1) := by decide +kernel
theorem dX7_offersCome_26 : decode cX7_offersCome 26 = .ok (.iconst 1, 1) := by decide +kernel
theorem dX7_offersCome_27 : decode cX7_offersCome 27 = .ok (.iadd, 1) := by decide +kernel
theorem dX7_offersCome_28 : decode cX7_offersCome 28 = .ok (.iaload, 1) := by decide +kernel
theorem dX7_offersCome_29 : decode cX7_offersCome 29 = .ok (.istore_n 3, 1) := by decide +kernel
theorem dX7_offersCome_30 : decode cX7_offersCome 30 = .ok (.aload_n 0, 1) := by decide +kernel
theorem dX7_offersCome_31 : decode cX7_offersCome 31 = .ok (.aload_n 0, 1) := by decide +kernel
theorem dX7_offersCome_32 : decode cX7_offersCome 32 = .ok (.getfield 20, 3) := by decide +kernel
theorem dX7_offersCome_35 : decode cX7_offersCome 35 = .ok (.iconst 5, 1) := by decide +kernel
theorem dX7_offersCome_36 : decode cX7_offersCome 36 = .ok (.iload_n 2, 1) := by decide +kernel
theorem dX7_offersCome_37 : decode cX7_offersCome 37 = .ok (.iadd, 1) := by decide +kernel
theorem dX7_offersCome_38 : decode cX7_offersCome 38 = .ok (.iaload, 1) := by decide +kernel
theorem dX7_offersCome_39 : decode cX7_offersCome 39 = .ok (.iload_n 3, 1) := by decide +kernel
theorem dX7_offersCome_40 : decode cX7_offersCome 40 = .ok (.if_icmp .lt 7, 3) := by decide +kernel
theorem dX7_offersCome_43 : decode cX7_offersCome 43 = .ok (.iconst 1, 1) := by decide +kernel
theorem dX7_offersCome_44 : decode cX7_offersCome 44 = .ok (.goto 4, 3) := by decide +kernel
theorem dX7_offersCome_47 : decode cX7_offersCome 47 = .ok (.iconst 0, 1) := by decide +kernel
theorem dX7_offersCome_48 : decode cX7_offersCome 48 = .ok (.bipush 7, 2) := by decide +kernel
theorem dX7_offersCome_50 : decode cX7_offersCome 50 = .ok (.invokevirtual 117, 3) := by decide +kernel
theorem dX7_offersCome_53 : decode cX7_offersCome 53 = .ok (.aload_n 0, 1) := by decide +kernel
theorem dX7_offersCome_54 : decode cX7_offersCome 54 = .ok (.getfield 20, 3) := by decide +kernel
theorem dX7_offersCome_57 : decode cX7_offersCome 57 = .ok (.iconst 5, 1) := by decide +kernel
theorem dX7_offersCome_58 : decode cX7_offersCome 58 = .ok (.iload_n 2, 1) := by decide +kernel
theorem dX7_offersCome_59 : decode cX7_offersCome 59 = .ok (.iadd, 1) := by decide +kernel
theorem dX7_offersCome_60 : decode cX7_offersCome 60 = .ok (.dup2, 1) := by decide +kernel
theorem dX7_offersCome_61 : decode cX7_offersCome 61 = .ok (.iaload, 1) := by decide +kernel
theorem dX7_offersCome_62 : decode cX7_offersCome 62 = .ok (.iload_n 3, 1) := by decide +kernel
theorem dX7_offersCome_63 : decode cX7_offersCome 63 = .ok (.isub, 1) := by decide +kernel
theorem dX7_offersCome_64 : decode cX7_offersCome 64 = .ok (.iastore, 1) := by decide +kernel
theorem dX7_offersCome_65 : decode cX7_offersCome 65 = .ok (.aload_n 0, 1) := by decide +kernel
theorem dX7_offersCome_66 : decode cX7_offersCome 66 = .ok (.getfield 20, 3) := by decide +kernel
theorem dX7_offersCome_69 : decode cX7_offersCome 69 = .ok (.bipush 10, 2) := by decide +kernel
theorem dX7_offersCome_71 : decode cX7_offersCome 71 = .ok (.iload_n 2, 1) := by decide +kernel
theorem dX7_offersCome_72 : decode cX7_offersCome 72 = .ok (.iadd, 1) := by decide +kernel
theorem dX7_offersCome_73 : decode cX7_offersCome 73 = .ok (.dup2, 1) := by decide +kernel
theorem dX7_offersCome_74 : decode cX7_offersCome 74 = .ok (.iaload, 1) := by decide +kernel
theorem dX7_offersCome_75 : decode cX7_offersCome 75 = .ok (.iload_n 3, 1) := by decide +kernel
theorem dX7_offersCome_76 : decode cX7_offersCome 76 = .ok (.iadd, 1) := by decide +kernel
theorem dX7_offersCome_77 : decode cX7_offersCome 77 = .ok (.iastore, 1) := by decide +kernel
theorem dX7_offersCome_78 : decode cX7_offersCome 78 = .ok (.aload_n 0, 1) := by decide +kernel
theorem dX7_offersCome_79 : decode cX7_offersCome 79 = .ok (.getfield 20, 3) := by decide +kernel
theorem dX7_offersCome_82 : decode cX7_offersCome 82 = .ok (.bipush 21, 2) := by decide +kernel
theorem dX7_offersCome_84 : decode cX7_offersCome 84 = .ok (.dup2, 1) := by decide +kernel
theorem dX7_offersCome_85 : decode cX7_offersCome 85 = .ok (.iaload, 1) := by decide +kernel
theorem dX7_offersCome_86 : decode cX7_offersCome 86 = .ok (.iload_n 3, 1) := by decide +kernel
theorem dX7_offersCome_87 : decode cX7_offersCome 87 = .ok (.iadd, 1) := by decide +kernel
theorem dX7_offersCome_88 : decode cX7_offersCome 88 = .ok (.iastore, 1) := by decide +kernel
theorem dX7_offersCome_89 : decode cX7_offersCome 89 = .ok (.aload_n 0, 1) := by decide +kernel
theorem dX7_offersCome_90 : decode cX7_offersCome 90 = .ok (.getfield 20, 3) := by decide +kernel
theorem dX7_offersCome_93 : decode cX7_offersCome 93 = .ok (.bipush 16, 2) := by decide +kernel
theorem dX7_offersCome_95 : decode cX7_offersCome 95 = .ok (.aload_n 0, 1) := by decide +kernel
theorem dX7_offersCome_96 : decode cX7_offersCome 96 = .ok (.getfield 20, 3) := by decide +kernel
theorem dX7_offersCome_99 : decode cX7_offersCome 99 = .ok (.bipush 16, 2) := by decide +kernel
theorem dX7_offersCome_101 : decode cX7_offersCome 101 = .ok (.iaload, 1) := by decide +kernel
theorem dX7_offersCome_102 : decode cX7_offersCome 102 = .ok (.iload_n 3, 1) := by decide +kernel
theorem dX7_offersCome_103 : decode cX7_offersCome 103 = .ok (.if_icmp .le 15, 3) := by decide +kernel
theorem dX7_offersCome_106 : decode cX7_offersCome 106 = .ok (.aload_n 0, 1) := by decide +kernel
theorem dX7_offersCome_107 : decode cX7_offersCome 107 = .ok (.getfield 20, 3) := by decide +kernel
theorem dX7_offersCome_110 : decode cX7_offersCome 110 = .ok (.bipush 16, 2) := by decide +kernel
theorem dX7_offersCome_112 : decode cX7_offersCome 112 = .ok (.iaload, 1) := by decide +kernel
theorem dX7_offersCome_113 : decode cX7_offersCome 113 = .ok (.iload_n 3, 1) := by decide +kernel
theorem dX7_offersCome_114 : decode cX7_offersCome 114 = .ok (.isub, 1) := by decide +kernel
theorem dX7_offersCome_115 : decode cX7_offersCome 115 = .ok (.goto 4, 3) := by decide +kernel
theorem dX7_offersCome_118 : decode cX7_offersCome 118 = .ok (.iconst 0, 1) := by decide +kernel
theorem dX7_offersCome_119 : decode cX7_offersCome 119 = .ok (.iastore, 1) := by decide +kernel
theorem dX7_offersCome_120 : decode cX7_offersCome 120 = .ok (.iinc 1 1, 3) := by decide +kernel
theorem dX7_offersCome_123 : decode cX7_offersCome 123 = .ok (.goto (-121), 3) := by decide +kernel
theorem dX7_offersCome_126 : decode cX7_offersCome 126 = .ok (.return_, 1) := by decide +kernel
theorem dX7_text_0 : decode cX7_text 0 = .ok (.iconst 0, 1) := by decide +kernel
theorem dX7_text_1 : decode cX7_text 1 = .ok (.istore_n 1, 1) := by decide +kernel
theorem dX7_text_2 : decode cX7_text 2 = .ok (.aload_n 0, 1) := by decide +kernel
theorem dX7_text_3 : decode cX7_text 3 = .ok (.iconst 0, 1) := by decide +kernel
theorem dX7_text_4 : decode cX7_text 4 = .ok (.putfield 79, 3) := by decide +kernel
theorem dX7_text_7 : decode cX7_text 7 = .ok (.aload_n 0, 1) := by decide +kernel
theorem dX7_text_8 : decode cX7_text 8 = .ok (.iconst 0, 1) := by decide +kernel
theorem dX7_text_9 : decode cX7_text 9 = .ok (.putfield 88, 3) := by decide +kernel
theorem dX7_text_12 : decode cX7_text 12 = .ok (.aload_n 0, 1) := by decide +kernel
theorem dX7_text_13 : decode cX7_text 13 = .ok (.invokevirtual 47, 3) := by decide +kernel
theorem dX7_text_16 : decode cX7_text 16 = .ok (.aload_n 0, 1) := by decide +kernel
theorem dX7_text_17 : decode cX7_text 17 = .ok (.invokevirtual 125, 3) := by decide +kernel
theorem dX7_text_20 : decode cX7_text 20 = .ok (.aload_n 0, 1) := by decide +kernel
theorem dX7_text_21 : decode cX7_text 21 = .ok (.getfield 79, 3) := by decide +kernel
theorem dX7_text_24 : decode cX7_text 24 = .ok (.ifCond .ne 20, 3) := by decide +kernel
theorem dX7_text_27 : decode cX7_text 27 = .ok (.aload_n 0, 1) := by decide +kernel
theorem dX7_text_28 : decode cX7_text 28 = .ok (.getfield 103, 3) := by decide +kernel
theorem dX7_text_31 : decode cX7_text 31 = .ok (.ifCond .eq 13, 3) := by decide +kernel
theorem dX7_text_34 : decode cX7_text 34 = .ok (.aload_n 0, 1) := by decide +kernel
theorem dX7_text_35 : decode cX7_text 35 = .ok (.invokevirtual 145, 3) := by decide +kernel
theorem dX7_text_38 : decode cX7_text 38 = .ok (.iinc 1 1, 3) := by decide +kernel
theorem dX7_text_41 : decode cX7_text 41 = .ok (.goto (-21), 3) := by decide +kernel
theorem dX7_text_44 : decode cX7_text 44 = .ok (.aload_n 0, 1) := by decide +kernel
theorem dX7_text_45 : decode cX7_text 45 = .ok (.getfield 79, 3) := by decide +kernel
theorem dX7_text_48 : decode cX7_text 48 = .ok (.ifCond .ne 25, 3) := by decide +kernel
theorem dX7_text_51 : decode cX7_text 51 = .ok (.aload_n 0, 1) := by decide +kernel
theorem dX7_text_52 : decode cX7_text 52 = .ok (.aload_n 0, 1) := by decide +kernel
theorem dX7_text_53 : decode cX7_text 53 = .ok (.getfield 64, 3) := by decide +kernel
theorem dX7_text_56 : decode cX7_text 56 = .ok (.aload_n 0, 1) := by decide +kernel
theorem dX7_text_57 : decode cX7_text 57 = .ok (.getfield 53, 3) := by decide +kernel
theorem dX7_text_60 : decode cX7_text 60 = .ok (.if_icmp .ge 7, 3) := by decide +kernel
theorem dX7_text_63 : decode cX7_text 63 = .ok (.iconst 1, 1) := by decide +kernel
theorem dX7_text_64 : decode cX7_text 64 = .ok (.goto 4, 3) := by decide +kernel
theorem dX7_text_67 : decode cX7_text 67 = .ok (.iconst 0, 1) := by decide +kernel
theorem dX7_text_68 : decode cX7_text 68 = .ok (.bipush 6, 2) := by decide +kernel
theorem dX7_text_70 : decode cX7_text 70 = .ok (.invokevirtual 117, 3) := by decide +kernel
theorem dX7_text_73 : decode cX7_text 73 = .ok (.aload_n 0, 1) := by decide +kernel
theorem dX7_text_74 : decode cX7_text 74 = .ok (.getfield 79, 3) := by decide +kernel
theorem dX7_text_77 : decode cX7_text 77 = .ok (.ifCond .ne 7, 3) := by decide +kernel
theorem dX7_text_80 : decode cX7_text 80 = .ok (.aload_n 0, 1) := by decide +kernel
theorem dX7_text_81 : decode cX7_text 81 = .ok (.invokevirtual 148, 3) := by decide +kernel
theorem dX7_text_84 : decode cX7_text 84 = .ok (.aload_n 0, 1) := by decide +kernel
theorem dX7_text_85 : decode cX7_text 85 = .ok (.iconst 0, 1) := by decide +kernel
theorem dX7_text_86 : decode cX7_text 86 = .ok (.putfield 76, 3) := by decide +kernel
theorem dX7_text_89 : decode cX7_text 89 = .ok (.aload_n 0, 1) := by decide +kernel
theorem dX7_text_90 : decode cX7_text 90 = .ok (.getfield 79, 3) := by decide +kernel
theorem dX7_text_93 : decode cX7_text 93 = .ok (.ifCond .le 11, 3) := by decide +kernel
theorem dX7_text_96 : decode cX7_text 96 = .ok (.bipush (-10), 2) := by decide +kernel
theorem dX7_text_98 : decode cX7_text 98 = .ok (.aload_n 0, 1) := by decide +kernel
theorem dX7_text_99 : decode cX7_text 99 = .ok (.getfield 85, 3) := by decide +kernel
theorem dX7_text_102 : decode cX7_text 102 = .ok (.isub, 1) := by decide +kernel
theorem dX7_text_103 : decode cX7_text 103 = .ok (.ireturn, 1) := by decide +kernel
theorem dX7_text_104 : decode cX7_text 104 = .ok (.aload_n 0, 1) := by decide +kernel
theorem dX7_text_105 : decode cX7_text 105 = .ok (.invokevirtual 50, 3) := by decide +kernel
theorem dX7_text_108 : decode cX7_text 108 = .ok (.iload_n 1, 1) := by decide +kernel
theorem dX7_text_109 : decode cX7_text 109 = .ok (.ireturn, 1) := by decide +kernel
theorem dX7_fault_0 : decode cX7_fault 0 = .ok (.aload_n 0, 1) := by decide +kernel
theorem dX7_fault_1 : decode cX7_fault 1 = .ok (.getfield 79, 3) := by decide +kernel
theorem dX7_fault_4 : decode cX7_fault 4 = .ok (.ireturn, 1) := by decide +kernel
theorem dX7_isHouse_0 : decode cX7_isHouse 0 = .ok (.iload_n 1, 1) := by decide +kernel
theorem dX7_isHouse_1 : decode cX7_isHouse 1 = .ok (.i2l, 1) := by decide +kernel
theorem dX7_isHouse_2 : decode cX7_isHouse 2 = .ok (.lconst 0, 1) := by decide +kernel
theorem dX7_isHouse_3 : decode cX7_isHouse 3 = .ok (.aload_n 0, 1) := by decide +kernel
theorem dX7_isHouse_4 : decode cX7_isHouse 4 = .ok (.getfield 67, 3) := by decide +kernel
theorem dX7_isHouse_7 : decode cX7_isHouse 7 = .ok (.iconst 1, 1) := by decide +kernel
theorem dX7_isHouse_8 : decode cX7_isHouse 8 = .ok (.isub, 1) := by decide +kernel
theorem dX7_isHouse_9 : decode cX7_isHouse 9 = .ok (.i2l, 1) := by decide +kernel
theorem dX7_isHouse_10 : decode cX7_isHouse 10 = .ok (.invokestatic 72, 3) := by decide +kernel
theorem dX7_isHouse_13 : decode cX7_isHouse 13 = .ok (.ireturn, 1) := by decide +kernel
theorem dX7_isPart_0 : decode cX7_isPart 0 = .ok (.iload_n 0, 1) := by decide +kernel
theorem dX7_isPart_1 : decode cX7_isPart 1 = .ok (.i2l, 1) := by decide +kernel
theorem dX7_isPart_2 : decode cX7_isPart 2 = .ok (.lconst 0, 1) := by decide +kernel
theorem dX7_isPart_3 : decode cX7_isPart 3 = .ok (.lconst 1, 1) := by decide +kernel
theorem dX7_isPart_4 : decode cX7_isPart 4 = .ok (.invokestatic 72, 3) := by decide +kernel
theorem dX7_isPart_7 : decode cX7_isPart 7 = .ok (.ireturn, 1) := by decide +kernel
theorem dX7_starts_0 : decode cX7_starts 0 = .ok (.iconst 0, 1) := by decide +kernel
theorem dX7_starts_1 : decode cX7_starts 1 = .ok (.istore_n 1, 1) := by decide +kernel
theorem dX7_starts_2 : decode cX7_starts 2 = .ok (.iload_n 1, 1) := by decide +kernel
theorem dX7_starts_3 : decode cX7_starts 3 = .ok (.bipush 41, 2) := by decide +kernel
theorem dX7_starts_5 : decode cX7_starts 5 = .ok (.if_icmp .ge 21, 3) := by decide +kernel
theorem dX7_starts_8 : decode cX7_starts 8 = .ok (.aload_n 0, 1) := by decide +kernel
theorem dX7_starts_9 : decode cX7_starts 9 = .ok (.getfield 13, 3) := by decide +kernel
theorem dX7_starts_12 : decode cX7_starts 12 = .ok (.iload_n 1, 1) := by decide +kernel
theorem dX7_starts_13 : decode cX7_starts 13 = .ok (.aload_n 0, 1) := by decide +kernel
theorem dX7_starts_14 : decode cX7_starts 14 = .ok (.getfield 7, 3) := by decide +kernel
theorem dX7_starts_17 : decode cX7_starts 17 = .ok (.iload_n 1, 1) := by decide +kernel
theorem dX7_starts_18 : decode cX7_starts 18 = .ok (.iaload, 1) := by decide +kernel
theorem dX7_starts_19 : decode cX7_starts 19 = .ok (.iastore, 1) := by decide +kernel
theorem dX7_starts_20 : decode cX7_starts 20 = .ok (.iinc 1 1, 3) := by decide +kernel
theorem dX7_starts_23 : decode cX7_starts 23 = .ok (.goto (-21), 3) := by decide +kernel
theorem dX7_starts_26 : decode cX7_starts 26 = .ok (.return_, 1) := by decide +kernel
theorem dX7_settles_0 : decode cX7_settles 0 = .ok (.iconst 0, 1) := by decide +kernel
theorem dX7_settles_1 : decode cX7_settles 1 = .ok (.istore_n 1, 1) := by decide +kernel
theorem dX7_settles_2 : decode cX7_settles 2 = .ok (.iload_n 1, 1) := by decide +kernel
theorem dX7_settles_3 : decode cX7_settles 3 = .ok (.bipush 41, 2) := by decide +kernel
theorem dX7_settles_5 : decode cX7_settles 5 = .ok (.if_icmp .ge 21, 3) := by decide +kernel
theorem dX7_settles_8 : decode cX7_settles 8 = .ok (.aload_n 0, 1) := by decide +kernel
theorem dX7_settles_9 : decode cX7_settles 9 = .ok (.getfield 7, 3) := by decide +kernel
theorem dX7_settles_12 : decode cX7_settles 12 = .ok (.iload_n 1, 1) := by decide +kernel
theorem dX7_settles_13 : decode cX7_settles 13 = .ok (.aload_n 0, 1) := by decide +kernel
theorem dX7_settles_14 : decode cX7_settles 14 = .ok (.getfield 13, 3) := by decide +kernel
theorem dX7_settles_17 : decode cX7_settles 17 = .ok (.iload_n 1, 1) := by decide +kernel
theorem dX7_settles_18 : decode cX7_settles 18 = .ok (.iaload, 1) := by decide +kernel
theorem dX7_settles_19 : decode cX7_settles 19 = .ok (.iastore, 1) := by decide +kernel
theorem dX7_settles_20 : decode cX7_settles 20 = .ok (.iinc 1 1, 3) := by decide +kernel
theorem dX7_settles_23 : decode cX7_settles 23 = .ok (.goto (-21), 3) := by decide +kernel
theorem dX7_settles_26 : decode cX7_settles 26 = .ok (.return_, 1) := by decide +kernel
theorem dX7_lesser_0 : decode cX7_lesser 0 = .ok (.iload_n 0, 1) := by decide +kernel
theorem dX7_lesser_1 : decode cX7_lesser 1 = .ok (.iload_n 1, 1) := by decide +kernel
theorem dX7_lesser_2 : decode cX7_lesser 2 = .ok (.if_icmp .ge 7, 3) := by decide +kernel
theorem dX7_lesser_5 : decode cX7_lesser 5 = .ok (.iload_n 0, 1) := by decide +kernel
theorem dX7_lesser_6 : decode cX7_lesser 6 = .ok (.goto 4, 3) := by decide +kernel
theorem dX7_lesser_9 : decode cX7_lesser 9 = .ok (.iload_n 1, 1) := by decide +kernel
theorem dX7_lesser_10 : decode cX7_lesser 10 = .ok (.ireturn, 1) := by decide +kernel
theorem dX7_burns_0 : decode cX7_burns 0 = .ok (.iload_n 2, 1) := by decide +kernel
theorem dX7_burns_1 : decode cX7_burns 1 = .ok (.aload_n 0, 1) := by decide +kernel
theorem dX7_burns_2 : decode cX7_burns 2 = .ok (.getfield 13, 3) := by decide +kernel
theorem dX7_burns_5 : decode cX7_burns 5 = .ok (.iconst 5, 1) := by decide +kernel
theorem dX7_burns_6 : decode cX7_burns 6 = .ok (.iload_n 1, 1) := by decide +kernel
theorem dX7_burns_7 : decode cX7_burns 7 = .ok (.iadd, 1) := by decide +kernel
theorem dX7_burns_8 : decode cX7_burns 8 = .ok (.iaload, 1) := by decide +kernel
theorem dX7_burns_9 : decode cX7_burns 9 = .ok (.invokestatic 151, 3) := by decide +kernel
theorem dX7_burns_12 : decode cX7_burns 12 = .ok (.istore_n 3, 1) := by decide +kernel
theorem dX7_burns_13 : decode cX7_burns 13 = .ok (.aload_n 0, 1) := by decide +kernel
theorem dX7_burns_14 : decode cX7_burns 14 = .ok (.getfield 13, 3) := by decide +kernel
theorem dX7_burns_17 : decode cX7_burns 17 = .ok (.iconst 5, 1) := by decide +kernel
theorem dX7_burns_18 : decode cX7_burns 18 = .ok (.iload_n 1, 1) := by decide +kernel
theorem dX7_burns_19 : decode cX7_burns 19 = .ok (.iadd, 1) := by decide +kernel
theorem dX7_burns_20 : decode cX7_burns 20 = .ok (.dup2, 1) := by decide +kernel
theorem dX7_burns_21 : decode cX7_burns 21 = .ok (.iaload, 1) := by decide +kernel
theorem dX7_burns_22 : decode cX7_burns 22 = .ok (.iload_n 3, 1) := by decide +kernel
theorem dX7_burns_23 : decode cX7_burns 23 = .ok (.isub, 1) := by decide +kernel
theorem dX7_burns_24 : decode cX7_burns 24 = .ok (.iastore, 1) := by decide +kernel
theorem dX7_burns_25 : decode cX7_burns 25 = .ok (.aload_n 0, 1) := by decide +kernel
theorem dX7_burns_26 : decode cX7_burns 26 = .ok (.getfield 13, 3) := by decide +kernel
theorem dX7_burns_29 : decode cX7_burns 29 = .ok (.bipush 10, 2) := by decide +kernel
theorem dX7_burns_31 : decode cX7_burns 31 = .ok (.iload_n 1, 1) := by decide +kernel
theorem dX7_burns_32 : decode cX7_burns 32 = .ok (.iadd, 1) := by decide +kernel
theorem dX7_burns_33 : decode cX7_burns 33 = .ok (.dup2, 1) := by decide +kernel
theorem dX7_burns_34 : decode cX7_burns 34 = .ok (.iaload, 1) := by decide +kernel
theorem dX7_burns_35 : decode cX7_burns 35 = .ok (.iload_n 3, 1) := by decide +kernel
theorem dX7_burns_36 : decode cX7_burns 36 = .ok (.iadd, 1) := by decide +kernel
theorem dX7_burns_37 : decode cX7_burns 37 = .ok (.iastore, 1) := by decide +kernel
theorem dX7_burns_38 : decode cX7_burns 38 = .ok (.aload_n 0, 1) := by decide +kernel
theorem dX7_burns_39 : decode cX7_burns 39 = .ok (.getfield 13, 3) := by decide +kernel
theorem dX7_burns_42 : decode cX7_burns 42 = .ok (.bipush 20, 2) := by decide +kernel
theorem dX7_burns_44 : decode cX7_burns 44 = .ok (.dup2, 1) := by decide +kernel
theorem dX7_burns_45 : decode cX7_burns 45 = .ok (.iaload, 1) := by decide +kernel
theorem dX7_burns_46 : decode cX7_burns 46 = .ok (.iload_n 3, 1) := by decide +kernel
theorem dX7_burns_47 : decode cX7_burns 47 = .ok (.iadd, 1) := by decide +kernel
theorem dX7_burns_48 : decode cX7_burns 48 = .ok (.iastore, 1) := by decide +kernel
theorem dX7_burns_49 : decode cX7_burns 49 = .ok (.iload_n 3, 1) := by decide +kernel
theorem dX7_burns_50 : decode cX7_burns 50 = .ok (.ireturn, 1) := by decide +kernel
theorem dX7_gives_0 : decode cX7_gives 0 = .ok (.aload_n 0, 1) := by decide +kernel
theorem dX7_gives_1 : decode cX7_gives 1 = .ok (.getfield 13, 3) := by decide +kernel
theorem dX7_gives_4 : decode cX7_gives 4 = .ok (.iconst 5, 1) := by decide +kernel
theorem dX7_gives_5 : decode cX7_gives 5 = .ok (.iload_n 1, 1) := by decide +kernel
theorem dX7_gives_6 : decode cX7_gives 6 = .ok (.iadd, 1) := by decide +kernel
theorem dX7_gives_7 : decode cX7_gives 7 = .ok (.dup2, 1) := by decide +kernel
theorem dX7_gives_8 : decode cX7_gives 8 = .ok (.iaload, 1) := by decide +kernel
theorem dX7_gives_9 : decode cX7_gives 9 = .ok (.iload_n 2, 1) := by decide +kernel
theorem dX7_gives_10 : decode cX7_gives 10 = .ok (.isub, 1) := by decide +kernel
theorem dX7_gives_11 : decode cX7_gives 11 = .ok (.iastore, 1) := by decide +kernel
theorem dX7_gives_12 : decode cX7_gives 12 = .ok (.aload_n 0, 1) := by decide +kernel
theorem dX7_gives_13 : decode cX7_gives 13 = .ok (.getfield 13, 3) := by decide +kernel
theorem dX7_gives_16 : decode cX7_gives 16 = .ok (.bipush 10, 2) := by decide +kernel
theorem dX7_gives_18 : decode cX7_gives 18 = .ok (.iload_n 1, 1) := by decide +kernel
theorem dX7_gives_19 : decode cX7_gives 19 = .ok (.iadd, 1) := by decide +kernel
theorem dX7_gives_20 : decode cX7_gives 20 = .ok (.dup2, 1) := by decide +kernel
theorem dX7_gives_21 : decode cX7_gives 21 = .ok (.iaload, 1) := by decide +kernel
theorem dX7_gives_22 : decode cX7_gives 22 = .ok (.iload_n 2, 1) := by decide +kernel
theorem dX7_gives_23 : decode cX7_gives 23 = .ok (.iadd, 1) := by decide +kernel
theorem dX7_gives_24 : decode cX7_gives 24 = .ok (.iastore, 1) := by decide +kernel
theorem dX7_gives_25 : decode cX7_gives 25 = .ok (.aload_n 0, 1) := by decide +kernel
theorem dX7_gives_26 : decode cX7_gives 26 = .ok (.getfield 13, 3) := by decide +kernel
theorem dX7_gives_29 : decode cX7_gives 29 = .ok (.bipush 21, 2) := by decide +kernel
theorem dX7_gives_31 : decode cX7_gives 31 = .ok (.dup2, 1) := by decide +kernel
theorem dX7_gives_32 : decode cX7_gives 32 = .ok (.iaload, 1) := by decide +kernel
theorem dX7_gives_33 : decode cX7_gives 33 = .ok (.iload_n 2, 1) := by decide +kernel
theorem dX7_gives_34 : decode cX7_gives 34 = .ok (.iadd, 1) := by decide +kernel
theorem dX7_gives_35 : decode cX7_gives 35 = .ok (.iastore, 1) := by decide +kernel
theorem dX7_gives_36 : decode cX7_gives 36 = .ok (.aload_n 0, 1) := by decide +kernel
theorem dX7_gives_37 : decode cX7_gives 37 = .ok (.getfield 13, 3) := by decide +kernel
theorem dX7_gives_40 : decode cX7_gives 40 = .ok (.bipush 16, 2) := by decide +kernel
theorem dX7_gives_42 : decode cX7_gives 42 = .ok (.aload_n 0, 1) := by decide +kernel
theorem dX7_gives_43 : decode cX7_gives 43 = .ok (.getfield 13, 3) := by decide +kernel
theorem dX7_gives_46 : decode cX7_gives 46 = .ok (.bipush 16, 2) := by decide +kernel
theorem dX7_gives_48 : decode cX7_gives 48 = .ok (.iaload, 1) := by decide +kernel
theorem dX7_gives_49 : decode cX7_gives 49 = .ok (.iload_n 2, 1) := by decide +kernel
theorem dX7_gives_50 : decode cX7_gives 50 = .ok (.if_icmp .le 15, 3) := by decide +kernel
theorem dX7_gives_53 : decode cX7_gives 53 = .ok (.aload_n 0, 1) := by decide +kernel
theorem dX7_gives_54 : decode cX7_gives 54 = .ok (.getfield 13, 3) := by decide +kernel
theorem dX7_gives_57 : decode cX7_gives 57 = .ok (.bipush 16, 2) := by decide +kernel
theorem dX7_gives_59 : decode cX7_gives 59 = .ok (.iaload, 1) := by decide +kernel
theorem dX7_gives_60 : decode cX7_gives 60 = .ok (.iload_n 2, 1) := by decide +kernel
theorem dX7_gives_61 : decode cX7_gives 61 = .ok (.isub, 1) := by decide +kernel
theorem dX7_gives_62 : decode cX7_gives 62 = .ok (.goto 4, 3) := by decide +kernel
theorem dX7_gives_65 : decode cX7_gives 65 = .ok (.iconst 0, 1) := by decide +kernel
theorem dX7_gives_66 : decode cX7_gives 66 = .ok (.iastore, 1) := by decide +kernel
theorem dX7_gives_67 : decode cX7_gives 67 = .ok (.return_, 1) := by decide +kernel
theorem dX7_asks_0 : decode cX7_asks 0 = .ok (.aload_n 0, 1) := by decide +kernel
theorem dX7_asks_1 : decode cX7_asks 1 = .ok (.getfield 13, 3) := by decide +kernel
theorem dX7_asks_4 : decode cX7_asks 4 = .ok (.bipush 15, 2) := by decide +kernel
theorem dX7_asks_6 : decode cX7_asks 6 = .ok (.iaload, 1) := by decide +kernel
theorem dX7_asks_7 : decode cX7_asks 7 = .ok (.istore_n 1, 1) := by decide +kernel
theorem dX7_asks_8 : decode cX7_asks 8 = .ok (.iload_n 1, 1) := by decide +kernel
theorem dX7_asks_9 : decode cX7_asks 9 = .ok (.iconst 1, 1) := by decide +kernel
theorem dX7_asks_10 : decode cX7_asks 10 = .ok (.iadd, 1) := by decide +kernel
theorem dX7_asks_11 : decode cX7_asks 11 = .ok (.aload_n 0, 1) := by decide +kernel
theorem dX7_asks_12 : decode cX7_asks 12 = .ok (.getfield 67, 3) := by decide +kernel
theorem dX7_asks_15 : decode cX7_asks 15 = .ok (.irem, 1) := by decide +kernel
theorem dX7_asks_16 : decode cX7_asks 16 = .ok (.istore_n 2, 1) := by decide +kernel
theorem dX7_asks_17 : decode cX7_asks 17 = .ok (.aload_n 0, 1) := by decide +kernel
theorem dX7_asks_18 : decode cX7_asks 18 = .ok (.getfield 13, 3) := by decide +kernel
theorem dX7_asks_21 : decode cX7_asks 21 = .ok (.iconst 0, 1) := by decide +kernel
theorem dX7_asks_22 : decode cX7_asks 22 = .ok (.iload_n 1, 1) := by decide +kernel
theorem dX7_asks_23 : decode cX7_asks 23 = .ok (.iadd, 1) := by decide +kernel
theorem dX7_asks_24 : decode cX7_asks 24 = .ok (.iaload, 1) := by decide +kernel
theorem dX7_asks_25 : decode cX7_asks 25 = .ok (.istore_n 3, 1) := by decide +kernel
theorem dX7_asks_26 : decode cX7_asks 26 = .ok (.iload_n 3, 1) := by decide +kernel
theorem dX7_asks_27 : decode cX7_asks 27 = .ok (.iconst 1, 1) := by decide +kernel
theorem dX7_asks_28 : decode cX7_asks 28 = .ok (.if_icmp .ne 40, 3) := by decide +kernel
theorem dX7_asks_31 : decode cX7_asks 31 = .ok (.aload_n 0, 1) := by decide +kernel
theorem dX7_asks_32 : decode cX7_asks 32 = .ok (.getfield 13, 3) := by decide +kernel
theorem dX7_asks_35 : decode cX7_asks 35 = .ok (.bipush 17, 2) := by decide +kernel
theorem dX7_asks_37 : decode cX7_asks 37 = .ok (.bipush 9, 2) := by decide +kernel
theorem dX7_asks_39 : decode cX7_asks 39 = .ok (.aload_n 0, 1) := by decide +kernel
theorem dX7_asks_40 : decode cX7_asks 40 = .ok (.getfield 13, 3) := by decide +kernel
theorem dX7_asks_43 : decode cX7_asks 43 = .ok (.bipush 17, 2) := by decide +kernel
theorem dX7_asks_45 : decode cX7_asks 45 = .ok (.iaload, 1) := by decide +kernel
theorem dX7_asks_46 : decode cX7_asks 46 = .ok (.iconst 1, 1) := by decide +kernel
theorem dX7_asks_47 : decode cX7_asks 47 = .ok (.iadd, 1) := by decide +kernel
theorem dX7_asks_48 : decode cX7_asks 48 = .ok (.invokestatic 151, 3) := by decide +kernel
theorem dX7_asks_51 : decode cX7_asks 51 = .ok (.iastore, 1) := by decide +kernel
theorem dX7_asks_52 : decode cX7_asks 52 = .ok (.aload_n 0, 1) := by decide +kernel
theorem dX7_asks_53 : decode cX7_asks 53 = .ok (.iload_n 2, 1) := by decide +kernel
theorem dX7_asks_54 : decode cX7_asks 54 = .ok (.aload_n 0, 1) := by decide +kernel
theorem dX7_asks_55 : decode cX7_asks 55 = .ok (.getfield 13, 3) := by decide +kernel
theorem dX7_asks_58 : decode cX7_asks 58 = .ok (.bipush 17, 2) := by decide +kernel
theorem dX7_asks_60 : decode cX7_asks 60 = .ok (.iaload, 1) := by decide +kernel
theorem dX7_asks_61 : decode cX7_asks 61 = .ok (.invokevirtual 154, 3) := by decide +kernel
theorem dX7_asks_64 : decode cX7_asks 64 = .ok (.pop, 1) := by decide +kernel
theorem dX7_asks_65 : decode cX7_asks 65 = .ok (.goto 109, 3) := by decide +kernel
theorem dX7_asks_68 : decode cX7_asks 68 = .ok (.iload_n 3, 1) := by decide +kernel
theorem dX7_asks_69 : decode cX7_asks 69 = .ok (.iconst 2, 1) := by decide +kernel
theorem dX7_asks_70 : decode cX7_asks 70 = .ok (.if_icmp .ne 28, 3) := by decide +kernel
theorem dX7_asks_73 : decode cX7_asks 73 = .ok (.aload_n 0, 1) := by decide +kernel
theorem dX7_asks_74 : decode cX7_asks 74 = .ok (.getfield 13, 3) := by decide +kernel
theorem dX7_asks_77 : decode cX7_asks 77 = .ok (.bipush 16, 2) := by decide +kernel
theorem dX7_asks_79 : decode cX7_asks 79 = .ok (.dup2, 1) := by decide +kernel
theorem dX7_asks_80 : decode cX7_asks 80 = .ok (.iaload, 1) := by decide +kernel
theorem dX7_asks_81 : decode cX7_asks 81 = .ok (.aload_n 0, 1) := by decide +kernel
theorem dX7_asks_82 : decode cX7_asks 82 = .ok (.iload_n 1, 1) := by decide +kernel
theorem dX7_asks_83 : decode cX7_asks 83 = .ok (.aload_n 0, 1) := by decide +kernel
theorem dX7_asks_84 : decode cX7_asks 84 = .ok (.getfield 13, 3) := by decide +kernel
theorem dX7_asks_87 : decode cX7_asks 87 = .ok (.bipush 16, 2) := by decide +kernel
theorem dX7_asks_89 : decode cX7_asks 89 = .ok (.iaload, 1) := by decide +kernel
theorem dX7_asks_90 : decode cX7_asks 90 = .ok (.invokevirtual 154, 3) := by decide +kernel
theorem dX7_asks_93 : decode cX7_asks 93 = .ok (.isub, 1) := by decide +kernel
theorem dX7_asks_94 : decode cX7_asks 94 = .ok (.iastore, 1) := by decide +kernel
theorem dX7_asks_95 : decode cX7_asks 95 = .ok (.goto 79, 3) := by decide +kernel
theorem dX7_asks_98 : decode cX7_asks 98 = .ok (.iload_n 3, 1) := by decide +kernel
theorem dX7_asks_99 : decode cX7_asks 99 = .ok (.iconst 3, 1) := by decide +kernel
theorem dX7_asks_100 : decode cX7_asks 100 = .ok (.if_icmp .ne 53, 3) := by decide +kernel
theorem dX7_asks_103 : decode cX7_asks 103 = .ok (.aload_n 0, 1) := by decide +kernel
theorem dX7_asks_104 : decode cX7_asks 104 = .ok (.getfield 13, 3) := by decide +kernel
theorem dX7_asks_107 : decode cX7_asks 107 = .ok (.iconst 5, 1) := by decide +kernel
theorem dX7_asks_108 : decode cX7_asks 108 = .ok (.iload_n 1, 1) := by decide +kernel
theorem dX7_asks_109 : decode cX7_asks 109 = .ok (.iadd, 1) := by decide +kernel
theorem dX7_asks_110 : decode cX7_asks 110 = .ok (.iaload, 1) := by decide +kernel
theorem dX7_asks_111 : decode cX7_asks 111 = .ok (.ifCond .le 42, 3) := by decide +kernel
theorem dX7_asks_114 : decode cX7_asks 114 = .ok (.aload_n 0, 1) := by decide +kernel
theorem dX7_asks_115 : decode cX7_asks 115 = .ok (.iload_n 1, 1) := by decide +kernel
theorem dX7_asks_116 : decode cX7_asks 116 = .ok (.iconst 1, 1) := by decide +kernel
theorem dX7_asks_117 : decode cX7_asks 117 = .ok (.invokevirtual 157, 3) := by decide +kernel
theorem dX7_asks_120 : decode cX7_asks 120 = .ok (.aload_n 0, 1) := by decide +kernel
theorem dX7_asks_121 : decode cX7_asks 121 = .ok (.getfield 13, 3) := by decide +kernel
theorem dX7_asks_124 : decode cX7_asks 124 = .ok (.bipush 17, 2) := by decide +kernel
theorem dX7_asks_126 : decode cX7_asks 126 = .ok (.aload_n 0, 1) := by decide +kernel
theorem dX7_asks_127 : decode cX7_asks 127 = .ok (.getfield 13, 3) := by decide +kernel
theorem dX7_asks_130 : decode cX7_asks 130 = .ok (.bipush 17, 2) := by decide +kernel
theorem dX7_asks_132 : decode cX7_asks 132 = .ok (.iaload, 1) := by decide +kernel
theorem dX7_asks_133 : decode cX7_asks 133 = .ok (.ifCond .le 15, 3) := by decide +kernel
theorem dX7_asks_136 : decode cX7_asks 136 = .ok (.aload_n 0, 1) := by decide +kernel
theorem dX7_asks_137 : decode cX7_asks 137 = .ok (.getfield 13, 3) := by decide +kernel
theorem dX7_asks_140 : decode cX7_asks 140 = .ok (.bipush 17, 2) := by decide +kernel
theorem dX7_asks_142 : decode cX7_asks 142 = .ok (.iaload, 1) := by decide +kernel
theorem dX7_asks_143 : decode cX7_asks 143 = .ok (.iconst 1, 1) := by decide +kernel
theorem dX7_asks_144 : decode cX7_asks 144 = .ok (.isub, 1) := by decide +kernel
theorem dX7_asks_145 : decode cX7_asks 145 = .ok (.goto 4, 3) := by decide +kernel
theorem dX7_asks_148 : decode cX7_asks 148 = .ok (.iconst 0, 1) := by decide +kernel
theorem dX7_asks_149 : decode cX7_asks 149 = .ok (.iastore, 1) := by decide +kernel
theorem dX7_asks_150 : decode cX7_asks 150 = .ok (.goto 24, 3) := by decide +kernel
theorem dX7_asks_153 : decode cX7_asks 153 = .ok (.aload_n 0, 1) := by decide +kernel
theorem dX7_asks_154 : decode cX7_asks 154 = .ok (.getfield 13, 3) := by decide +kernel
theorem dX7_asks_157 : decode cX7_asks 157 = .ok (.bipush 16, 2) := by decide +kernel
theorem dX7_asks_159 : decode cX7_asks 159 = .ok (.bipush 20, 2) := by decide +kernel
theorem dX7_asks_161 : decode cX7_asks 161 = .ok (.aload_n 0, 1) := by decide +kernel
theorem dX7_asks_162 : decode cX7_asks 162 = .ok (.getfield 13, 3) := by decide +kernel
theorem dX7_asks_165 : decode cX7_asks 165 = .ok (.bipush 16, 2) := by decide +kernel
theorem dX7_asks_167 : decode cX7_asks 167 = .ok (.iaload, 1) := by decide +kernel
theorem dX7_asks_168 : decode cX7_asks 168 = .ok (.iconst 1, 1) := by decide +kernel
theorem dX7_asks_169 : decode cX7_asks 169 = .ok (.iadd, 1) := by decide +kernel
theorem dX7_asks_170 : decode cX7_asks 170 = .ok (.invokestatic 151, 3) := by decide +kernel
theorem dX7_asks_173 : decode cX7_asks 173 = .ok (.iastore, 1) := by decide +kernel
theorem dX7_asks_174 : decode cX7_asks 174 = .ok (.aload_n 0, 1) := by decide +kernel
theorem dX7_asks_175 : decode cX7_asks 175 = .ok (.getfield 13, 3) := by decide +kernel
theorem dX7_asks_178 : decode cX7_asks 178 = .ok (.bipush 15, 2) := by decide +kernel
theorem dX7_asks_180 : decode cX7_asks 180 = .ok (.iload_n 2, 1) := by decide +kernel
theorem dX7_asks_181 : decode cX7_asks 181 = .ok (.iastore, 1) := by decide +kernel
theorem dX7_asks_182 : decode cX7_asks 182 = .ok (.return_, 1) := by decide +kernel
theorem dX7_nightGoes_0 : decode cX7_nightGoes 0 = .ok (.aload_n 0, 1) := by decide +kernel
theorem dX7_nightGoes_1 : decode cX7_nightGoes 1 = .ok (.getfield 67, 3) := by decide +kernel
theorem dX7_nightGoes_4 : decode cX7_nightGoes 4 = .ok (.ifCond .le 30, 3) := by decide +kernel
theorem dX7_nightGoes_7 : decode cX7_nightGoes 7 = .ok (.aload_n 0, 1) := by decide +kernel
theorem dX7_nightGoes_8 : decode cX7_nightGoes 8 = .ok (.getfield 13, 3) := by decide +kernel
theorem dX7_nightGoes_11 : decode cX7_nightGoes 11 = .ok (.bipush 18, 2) := by decide +kernel
theorem dX7_nightGoes_13 : decode cX7_nightGoes 13 = .ok (.iaload, 1) := by decide +kernel
theorem dX7_nightGoes_14 : decode cX7_nightGoes 14 = .ok (.aload_n 0, 1) := by decide +kernel
theorem dX7_nightGoes_15 : decode cX7_nightGoes 15 = .ok (.getfield 13, 3) := by decide +kernel
theorem dX7_nightGoes_18 : decode cX7_nightGoes 18 = .ok (.bipush 19, 2) := by decide +kernel
theorem dX7_nightGoes_20 : decode cX7_nightGoes 20 = .ok (.iaload, 1) := by decide +kernel
theorem dX7_nightGoes_21 : decode cX7_nightGoes 21 = .ok (.bipush 7, 2) := by decide +kernel
theorem dX7_nightGoes_23 : decode cX7_nightGoes 23 = .ok (.irem, 1) := by decide +kernel
theorem dX7_nightGoes_24 : decode cX7_nightGoes 24 = .ok (.ishr, 1) := by decide +kernel
theorem dX7_nightGoes_25 : decode cX7_nightGoes 25 = .ok (.iconst 1, 1) := by decide +kernel
theorem dX7_nightGoes_26 : decode cX7_nightGoes 26 = .ok (.iand, 1) := by decide +kernel
theorem dX7_nightGoes_27 : decode cX7_nightGoes 27 = .ok (.ifCond .ne 7, 3) := by decide +kernel
theorem dX7_nightGoes_30 : decode cX7_nightGoes 30 = .ok (.aload_n 0, 1) := by decide +kernel
theorem dX7_nightGoes_31 : decode cX7_nightGoes 31 = .ok (.invokevirtual 161, 3) := by decide +kernel
theorem dX7_nightGoes_34 : decode cX7_nightGoes 34 = .ok (.aload_n 0, 1) := by decide +kernel
theorem dX7_nightGoes_35 : decode cX7_nightGoes 35 = .ok (.getfield 13, 3) := by decide +kernel
theorem dX7_nightGoes_38 : decode cX7_nightGoes 38 = .ok (.bipush 19, 2) := by decide +kernel
theorem dX7_nightGoes_40 : decode cX7_nightGoes 40 = .ok (.dup2, 1) := by decide +kernel
theorem dX7_nightGoes_41 : decode cX7_nightGoes 41 = .ok (.iaload, 1) := by decide +kernel
theorem dX7_nightGoes_42 : decode cX7_nightGoes 42 = .ok (.iconst 1, 1) := by decide +kernel
theorem dX7_nightGoes_43 : decode cX7_nightGoes 43 = .ok (.iadd, 1) := by decide +kernel
theorem dX7_nightGoes_44 : decode cX7_nightGoes 44 = .ok (.iastore, 1) := by decide +kernel
theorem dX7_nightGoes_45 : decode cX7_nightGoes 45 = .ok (.return_, 1) := by decide +kernel
theorem dX7_nightsGo_0 : decode cX7_nightsGo 0 = .ok (.iconst 0, 1) := by decide +kernel
theorem dX7_nightsGo_1 : decode cX7_nightsGo 1 = .ok (.istore_n 2, 1) := by decide +kernel
theorem dX7_nightsGo_2 : decode cX7_nightsGo 2 = .ok (.iload_n 2, 1) := by decide +kernel
theorem dX7_nightsGo_3 : decode cX7_nightsGo 3 = .ok (.iload_n 1, 1) := by decide +kernel
theorem dX7_nightsGo_4 : decode cX7_nightsGo 4 = .ok (.if_icmp .ge 13, 3) := by decide +kernel
theorem dX7_nightsGo_7 : decode cX7_nightsGo 7 = .ok (.aload_n 0, 1) := by decide +kernel
theorem dX7_nightsGo_8 : decode cX7_nightsGo 8 = .ok (.invokevirtual 164, 3) := by decide +kernel
theorem dX7_nightsGo_11 : decode cX7_nightsGo 11 = .ok (.iinc 2 1, 3) := by decide +kernel
theorem dX7_nightsGo_14 : decode cX7_nightsGo 14 = .ok (.goto (-12), 3) := by decide +kernel
theorem dX7_nightsGo_17 : decode cX7_nightsGo 17 = .ok (.return_, 1) := by decide +kernel
theorem dX7_lossOf_0 : decode cX7_lossOf 0 = .ok (.aload_n 0, 1) := by decide +kernel
theorem dX7_lossOf_1 : decode cX7_lossOf 1 = .ok (.getfield 13, 3) := by decide +kernel
theorem dX7_lossOf_4 : decode cX7_lossOf 4 = .ok (.bipush 20, 2) := by decide +kernel
theorem dX7_lossOf_6 : decode cX7_lossOf 6 = .ok (.iaload, 1) := by decide +kernel
theorem dX7_lossOf_7 : decode cX7_lossOf 7 = .ok (.aload_n 0, 1) := by decide +kernel
theorem dX7_lossOf_8 : decode cX7_lossOf 8 = .ok (.getfield 13, 3) := by decide +kernel
theorem dX7_lossOf_11 : decode cX7_lossOf 11 = .ok (.bipush 21, 2) := by decide +kernel
theorem dX7_lossOf_13 : decode cX7_lossOf 13 = .ok (.iaload, 1) := by decide +kernel
theorem dX7_lossOf_14 : decode cX7_lossOf 14 = .ok (.iadd, 1) := by decide +kernel
theorem dX7_lossOf_15 : decode cX7_lossOf 15 = .ok (.istore_n 2, 1) := by decide +kernel
theorem dX7_lossOf_16 : decode cX7_lossOf 16 = .ok (.aload_n 0, 1) := by decide +kernel
theorem dX7_lossOf_17 : decode cX7_lossOf 17 = .ok (.iload_n 1, 1) := by decide +kernel
theorem dX7_lossOf_18 : decode cX7_lossOf 18 = .ok (.invokevirtual 167, 3) := by decide +kernel
theorem dX7_lossOf_21 : decode cX7_lossOf 21 = .ok (.aload_n 0, 1) := by decide +kernel
theorem dX7_lossOf_22 : decode cX7_lossOf 22 = .ok (.getfield 13, 3) := by decide +kernel
theorem dX7_lossOf_25 : decode cX7_lossOf 25 = .ok (.bipush 20, 2) := by decide +kernel
theorem dX7_lossOf_27 : decode cX7_lossOf 27 = .ok (.iaload, 1) := by decide +kernel
theorem dX7_lossOf_28 : decode cX7_lossOf 28 = .ok (.aload_n 0, 1) := by decide +kernel
theorem dX7_lossOf_29 : decode cX7_lossOf 29 = .ok (.getfield 13, 3) := by decide +kernel
theorem dX7_lossOf_32 : decode cX7_lossOf 32 = .ok (.bipush 21, 2) := by decide +kernel
theorem dX7_lossOf_34 : decode cX7_lossOf 34 = .ok (.iaload, 1) := by decide +kernel
theorem dX7_lossOf_35 : decode cX7_lossOf 35 = .ok (.iadd, 1) := by decide +kernel
theorem dX7_lossOf_36 : decode cX7_lossOf 36 = .ok (.iload_n 2, 1) := by decide +kernel
theorem dX7_lossOf_37 : decode cX7_lossOf 37 = .ok (.isub, 1) := by decide +kernel
theorem dX7_lossOf_38 : decode cX7_lossOf 38 = .ok (.ireturn, 1) := by decide +kernel
theorem dX7_allOf_0 : decode cX7_allOf 0 = .ok (.iconst 0, 1) := by decide +kernel
theorem dX7_allOf_1 : decode cX7_allOf 1 = .ok (.istore_n 2, 1) := by decide +kernel
theorem dX7_allOf_2 : decode cX7_allOf 2 = .ok (.iconst 0, 1) := by decide +kernel
theorem dX7_allOf_3 : decode cX7_allOf 3 = .ok (.istore_n 3, 1) := by decide +kernel
theorem dX7_allOf_4 : decode cX7_allOf 4 = .ok (.iload_n 3, 1) := by decide +kernel
theorem dX7_allOf_5 : decode cX7_allOf 5 = .ok (.aload_n 0, 1) := by decide +kernel
theorem dX7_allOf_6 : decode cX7_allOf 6 = .ok (.getfield 67, 3) := by decide +kernel
theorem dX7_allOf_9 : decode cX7_allOf 9 = .ok (.if_icmp .ge 20, 3) := by decide +kernel
theorem dX7_allOf_12 : decode cX7_allOf 12 = .ok (.iload_n 2, 1) := by decide +kernel
theorem dX7_allOf_13 : decode cX7_allOf 13 = .ok (.aload_n 0, 1) := by decide +kernel
theorem dX7_allOf_14 : decode cX7_allOf 14 = .ok (.getfield 13, 3) := by decide +kernel
theorem dX7_allOf_17 : decode cX7_allOf 17 = .ok (.iload_n 1, 1) := by decide +kernel
theorem dX7_allOf_18 : decode cX7_allOf 18 = .ok (.iload_n 3, 1) := by decide +kernel
theorem dX7_allOf_19 : decode cX7_allOf 19 = .ok (.iadd, 1) := by decide +kernel
theorem dX7_allOf_20 : decode cX7_allOf 20 = .ok (.iaload, 1) := by decide +kernel
theorem dX7_allOf_21 : decode cX7_allOf 21 = .ok (.iadd, 1) := by decide +kernel
theorem dX7_allOf_22 : decode cX7_allOf 22 = .ok (.istore_n 2, 1) := by decide +kernel
theorem dX7_allOf_23 : decode cX7_allOf 23 = .ok (.iinc 3 1, 3) := by decide +kernel
theorem dX7_allOf_26 : decode cX7_allOf 26 = .ok (.goto (-22), 3) := by decide +kernel
theorem dX7_allOf_29 : decode cX7_allOf 29 = .ok (.iload_n 2, 1) := by decide +kernel
theorem dX7_allOf_30 : decode cX7_allOf 30 = .ok (.ireturn, 1) := by decide +kernel
theorem dX7_rule_0 : decode cX7_rule 0 = .ok (.aload_n 0, 1) := by decide +kernel
theorem dX7_rule_1 : decode cX7_rule 1 = .ok (.invokevirtual 170, 3) := by decide +kernel
theorem dX7_rule_4 : decode cX7_rule 4 = .ok (.iload_n 1, 1) := by decide +kernel
theorem dX7_rule_5 : decode cX7_rule 5 = .ok (.tableswitch 74 0 8 #[51, 56, 56, 56, 56, 56, 56, 56, 68], 51) := by decide +kernel
theorem dX7_rule_56 : decode cX7_rule 56 = .ok (.aload_n 0, 1) := by decide +kernel
theorem dX7_rule_57 : decode cX7_rule 57 = .ok (.getfield 67, 3) := by decide +kernel
theorem dX7_rule_60 : decode cX7_rule 60 = .ok (.ireturn, 1) := by decide +kernel
theorem dX7_rule_61 : decode cX7_rule 61 = .ok (.aload_n 0, 1) := by decide +kernel
theorem dX7_rule_62 : decode cX7_rule 62 = .ok (.getfield 7, 3) := by decide +kernel
theorem dX7_rule_65 : decode cX7_rule 65 = .ok (.bipush 15, 2) := by decide +kernel
theorem dX7_rule_67 : decode cX7_rule 67 = .ok (.iload_n 1, 1) := by decide +kernel
theorem dX7_rule_68 : decode cX7_rule 68 = .ok (.iadd, 1) := by decide +kernel
theorem dX7_rule_69 : decode cX7_rule 69 = .ok (.iconst 1, 1) := by decide +kernel
theorem dX7_rule_70 : decode cX7_rule 70 = .ok (.isub, 1) := by decide +kernel
theorem dX7_rule_71 : decode cX7_rule 71 = .ok (.iaload, 1) := by decide +kernel
theorem dX7_rule_72 : decode cX7_rule 72 = .ok (.ireturn, 1) := by decide +kernel
theorem dX7_rule_73 : decode cX7_rule 73 = .ok (.aload_n 0, 1) := by decide +kernel
theorem dX7_rule_74 : decode cX7_rule 74 = .ok (.iconst 5, 1) := by decide +kernel
theorem dX7_rule_75 : decode cX7_rule 75 = .ok (.invokevirtual 173, 3) := by decide +kernel
theorem dX7_rule_78 : decode cX7_rule 78 = .ok (.ireturn, 1) := by decide +kernel
theorem dX7_rule_79 : decode cX7_rule 79 = .ok (.iconst (-1), 1) := by decide +kernel
theorem dX7_rule_80 : decode cX7_rule 80 = .ok (.ireturn, 1) := by decide +kernel
theorem dX7_house_0 : decode cX7_house 0 = .ok (.aload_n 0, 1) := by decide +kernel
theorem dX7_house_1 : decode cX7_house 1 = .ok (.iload_n 1, 1) := by decide +kernel
theorem dX7_house_2 : decode cX7_house 2 = .ok (.invokevirtual 176, 3) := by decide +kernel
theorem dX7_house_5 : decode cX7_house 5 = .ok (.ifCond .eq 28, 3) := by decide +kernel
theorem dX7_house_8 : decode cX7_house 8 = .ok (.iload_n 2, 1) := by decide +kernel
theorem dX7_house_9 : decode cX7_house 9 = .ok (.i2l, 1) := by decide +kernel
theorem dX7_house_10 : decode cX7_house 10 = .ok (.lconst 0, 1) := by decide +kernel
theorem dX7_house_11 : decode cX7_house 11 = .ok (.ldc2_w 180, 3) := by decide +kernel
theorem dX7_house_14 : decode cX7_house 14 = .ok (.invokestatic 72, 3) := by decide +kernel
theorem dX7_house_17 : decode cX7_house 17 = .ok (.ifCond .eq 16, 3) := by decide +kernel
theorem dX7_house_20 : decode cX7_house 20 = .ok (.aload_n 0, 1) := by decide +kernel
theorem dX7_house_21 : decode cX7_house 21 = .ok (.getfield 7, 3) := by decide +kernel
theorem dX7_house_24 : decode cX7_house 24 = .ok (.iconst 5, 1) := by decide +kernel
theorem dX7_house_25 : decode cX7_house 25 = .ok (.iload_n 2, 1) := by decide +kernel
theorem dX7_house_26 : decode cX7_house 26 = .ok (.imul, 1) := by decide +kernel
theorem dX7_house_27 : decode cX7_house 27 = .ok (.iload_n 1, 1) := by decide +kernel
theorem dX7_house_28 : decode cX7_house 28 = .ok (.iadd, 1) := by decide +kernel
theorem dX7_house_29 : decode cX7_house 29 = .ok (.iaload, 1) := by decide +kernel
theorem dX7_house_30 : decode cX7_house 30 = .ok (.goto 4, 3) := by decide +kernel
theorem dX7_house_33 : decode cX7_house 33 = .ok (.iconst (-1), 1) := by decide +kernel
theorem dX7_house_34 : decode cX7_house 34 = .ok (.ireturn, 1) := by decide +kernel
theorem dX7_becomes_0 : decode cX7_becomes 0 = .ok (.aload_n 0, 1) := by decide +kernel
theorem dX7_becomes_1 : decode cX7_becomes 1 = .ok (.getfield 7, 3) := by decide +kernel
theorem dX7_becomes_4 : decode cX7_becomes 4 = .ok (.iload_n 1, 1) := by decide +kernel
theorem dX7_becomes_5 : decode cX7_becomes 5 = .ok (.iaload, 1) := by decide +kernel
theorem dX7_becomes_6 : decode cX7_becomes 6 = .ok (.istore_n 3, 1) := by decide +kernel
theorem dX7_becomes_7 : decode cX7_becomes 7 = .ok (.aload_n 0, 1) := by decide +kernel
theorem dX7_becomes_8 : decode cX7_becomes 8 = .ok (.getfield 7, 3) := by decide +kernel
theorem dX7_becomes_11 : decode cX7_becomes 11 = .ok (.iload_n 1, 1) := by decide +kernel
theorem dX7_becomes_12 : decode cX7_becomes 12 = .ok (.iload_n 2, 1) := by decide +kernel
theorem dX7_becomes_13 : decode cX7_becomes 13 = .ok (.iastore, 1) := by decide +kernel
theorem dX7_becomes_14 : decode cX7_becomes 14 = .ok (.iload_n 3, 1) := by decide +kernel
theorem dX7_becomes_15 : decode cX7_becomes 15 = .ok (.ireturn, 1) := by decide +kernel
theorem dX7_alter_0 : decode cX7_alter 0 = .ok (.aload_n 0, 1) := by decide +kernel
theorem dX7_alter_1 : decode cX7_alter 1 = .ok (.iload_n 1, 1) := by decide +kernel
theorem dX7_alter_2 : decode cX7_alter 2 = .ok (.invokevirtual 176, 3) := by decide +kernel
theorem dX7_alter_5 : decode cX7_alter 5 = .ok (.ifCond .eq 45, 3) := by decide +kernel
theorem dX7_alter_8 : decode cX7_alter 8 = .ok (.iload_n 2, 1) := by decide +kernel
theorem dX7_alter_9 : decode cX7_alter 9 = .ok (.invokestatic 182, 3) := by decide +kernel
theorem dX7_alter_12 : decode cX7_alter 12 = .ok (.ifCond .eq 38, 3) := by decide +kernel
theorem dX7_alter_15 : decode cX7_alter 15 = .ok (.iload_n 3, 1) := by decide +kernel
theorem dX7_alter_16 : decode cX7_alter 16 = .ok (.i2l, 1) := by decide +kernel
theorem dX7_alter_17 : decode cX7_alter 17 = .ok (.lconst 0, 1) := by decide +kernel
theorem dX7_alter_18 : decode cX7_alter 18 = .ok (.iload_n 2, 1) := by decide +kernel
theorem dX7_alter_19 : decode cX7_alter 19 = .ok (.ifCond .ne 9, 3) := by decide +kernel
theorem dX7_alter_22 : decode cX7_alter 22 = .ok (.ldc2_w 185, 3) := by decide +kernel
theorem dX7_alter_25 : decode cX7_alter 25 = .ok (.goto 6, 3) := by decide +kernel
theorem dX7_alter_28 : decode cX7_alter 28 = .ok (.ldc2_w 187, 3) := by decide +kernel
theorem dX7_alter_31 : decode cX7_alter 31 = .ok (.invokestatic 72, 3) := by decide +kernel
theorem dX7_alter_34 : decode cX7_alter 34 = .ok (.ifCond .eq 16, 3) := by decide +kernel
theorem dX7_alter_37 : decode cX7_alter 37 = .ok (.aload_n 0, 1) := by decide +kernel
theorem dX7_alter_38 : decode cX7_alter 38 = .ok (.iconst 5, 1) := by decide +kernel
theorem dX7_alter_39 : decode cX7_alter 39 = .ok (.iload_n 2, 1) := by decide +kernel
theorem dX7_alter_40 : decode cX7_alter 40 = .ok (.imul, 1) := by decide +kernel
theorem dX7_alter_41 : decode cX7_alter 41 = .ok (.iload_n 1, 1) := by decide +kernel
theorem dX7_alter_42 : decode cX7_alter 42 = .ok (.iadd, 1) := by decide +kernel
theorem dX7_alter_43 : decode cX7_alter 43 = .ok (.iload_n 3, 1) := by decide +kernel
theorem dX7_alter_44 : decode cX7_alter 44 = .ok (.invokevirtual 189, 3) := by decide +kernel
theorem dX7_alter_47 : decode cX7_alter 47 = .ok (.goto 4, 3) := by decide +kernel
theorem dX7_alter_50 : decode cX7_alter 50 = .ok (.iconst (-1), 1) := by decide +kernel
theorem dX7_alter_51 : decode cX7_alter 51 = .ok (.ireturn, 1) := by decide +kernel
theorem dX7_set_0 : decode cX7_set 0 = .ok (.iload_n 1, 1) := by decide +kernel
theorem dX7_set_1 : decode cX7_set 1 = .ok (.iconst 1, 1) := by decide +kernel
theorem dX7_set_2 : decode cX7_set 2 = .ok (.if_icmp .ne 11, 3) := by decide +kernel
theorem dX7_set_5 : decode cX7_set 5 = .ok (.aload_n 0, 1) := by decide +kernel
theorem dX7_set_6 : decode cX7_set 6 = .ok (.iload_n 2, 1) := by decide +kernel
theorem dX7_set_7 : decode cX7_set 7 = .ok (.invokevirtual 176, 3) := by decide +kernel
theorem dX7_set_10 : decode cX7_set 10 = .ok (.goto 42, 3) := by decide +kernel
theorem dX7_set_13 : decode cX7_set 13 = .ok (.iload_n 1, 1) := by decide +kernel
theorem dX7_set_14 : decode cX7_set 14 = .ok (.iconst 2, 1) := by decide +kernel
theorem dX7_set_15 : decode cX7_set 15 = .ok (.if_icmp .ne 15, 3) := by decide +kernel
theorem dX7_set_18 : decode cX7_set 18 = .ok (.iload_n 2, 1) := by decide +kernel
theorem dX7_set_19 : decode cX7_set 19 = .ok (.i2l, 1) := by decide +kernel
theorem dX7_set_20 : decode cX7_set 20 = .ok (.lconst 0, 1) := by decide +kernel
theorem dX7_set_21 : decode cX7_set 21 = .ok (.ldc2_w 192, 3) := by decide +kernel
theorem dX7_set_24 : decode cX7_set 24 = .ok (.invokestatic 72, 3) := by decide +kernel
theorem dX7_set_27 : decode cX7_set 27 = .ok (.goto 25, 3) := by decide +kernel
theorem dX7_set_30 : decode cX7_set 30 = .ok (.iload_n 1, 1) := by decide +kernel
theorem dX7_set_31 : decode cX7_set 31 = .ok (.iconst 3, 1) := by decide +kernel
theorem dX7_set_32 : decode cX7_set 32 = .ok (.if_icmp .ne 19, 3) := by decide +kernel
theorem dX7_set_35 : decode cX7_set 35 = .ok (.iload_n 2, 1) := by decide +kernel
theorem dX7_set_36 : decode cX7_set 36 = .ok (.i2l, 1) := by decide +kernel
theorem dX7_set_37 : decode cX7_set 37 = .ok (.lconst 0, 1) := by decide +kernel
theorem dX7_set_38 : decode cX7_set 38 = .ok (.ldc2_w 194, 3) := by decide +kernel
theorem dX7_set_41 : decode cX7_set 41 = .ok (.invokestatic 72, 3) := by decide +kernel
theorem dX7_set_44 : decode cX7_set 44 = .ok (.ifCond .eq 7, 3) := by decide +kernel
theorem dX7_set_47 : decode cX7_set 47 = .ok (.iconst 1, 1) := by decide +kernel
theorem dX7_set_48 : decode cX7_set 48 = .ok (.goto 4, 3) := by decide +kernel
theorem dX7_set_51 : decode cX7_set 51 = .ok (.iconst 0, 1) := by decide +kernel
theorem dX7_set_52 : decode cX7_set 52 = .ok (.istore_n 3, 1) := by decide +kernel
theorem dX7_set_53 : decode cX7_set 53 = .ok (.iload_n 3, 1) := by decide +kernel
theorem dX7_set_54 : decode cX7_set 54 = .ok (.ifCond .eq 17, 3) := by decide +kernel
theorem dX7_set_57 : decode cX7_set 57 = .ok (.aload_n 0, 1) := by decide +kernel
theorem dX7_set_58 : decode cX7_set 58 = .ok (.bipush 15, 2) := by decide +kernel
theorem dX7_set_60 : decode cX7_set 60 = .ok (.iload_n 1, 1) := by decide +kernel
theorem dX7_set_61 : decode cX7_set 61 = .ok (.iadd, 1) := by decide +kernel
theorem dX7_set_62 : decode cX7_set 62 = .ok (.iconst 1, 1) := by decide +kernel
theorem dX7_set_63 : decode cX7_set 63 = .ok (.isub, 1) := by decide +kernel
theorem dX7_set_64 : decode cX7_set 64 = .ok (.iload_n 2, 1) := by decide +kernel
theorem dX7_set_65 : decode cX7_set 65 = .ok (.invokevirtual 189, 3) := by decide +kernel
theorem dX7_set_68 : decode cX7_set 68 = .ok (.goto 4, 3) := by decide +kernel
theorem dX7_set_71 : decode cX7_set 71 = .ok (.iconst (-1), 1) := by decide +kernel
theorem dX7_set_72 : decode cX7_set 72 = .ok (.ireturn, 1) := by decide +kernel
theorem dX7_rain_0 : decode cX7_rain 0 = .ok (.iload_n 1, 1) := by decide +kernel
theorem dX7_rain_1 : decode cX7_rain 1 = .ok (.i2l, 1) := by decide +kernel
theorem dX7_rain_2 : decode cX7_rain 2 = .ok (.lconst 0, 1) := by decide +kernel
theorem dX7_rain_3 : decode cX7_rain 3 = .ok (.ldc2_w 196, 3) := by decide +kernel
theorem dX7_rain_6 : decode cX7_rain 6 = .ok (.invokestatic 72, 3) := by decide +kernel
theorem dX7_rain_9 : decode cX7_rain 9 = .ok (.ifCond .ne 5, 3) := by decide +kernel
theorem dX7_rain_12 : decode cX7_rain 12 = .ok (.iconst (-1), 1) := by decide +kernel
theorem dX7_rain_13 : decode cX7_rain 13 = .ok (.ireturn, 1) := by decide +kernel
theorem dX7_rain_14 : decode cX7_rain 14 = .ok (.aload_n 0, 1) := by decide +kernel
theorem dX7_rain_15 : decode cX7_rain 15 = .ok (.getfield 7, 3) := by decide +kernel
theorem dX7_rain_18 : decode cX7_rain 18 = .ok (.bipush 18, 2) := by decide +kernel
theorem dX7_rain_20 : decode cX7_rain 20 = .ok (.iaload, 1) := by decide +kernel
theorem dX7_rain_21 : decode cX7_rain 21 = .ok (.istore_n 3, 1) := by decide +kernel
theorem dX7_rain_22 : decode cX7_rain 22 = .ok (.aload_n 0, 1) := by decide +kernel
theorem dX7_rain_23 : decode cX7_rain 23 = .ok (.getfield 7, 3) := by decide +kernel
theorem dX7_rain_26 : decode cX7_rain 26 = .ok (.bipush 18, 2) := by decide +kernel
theorem dX7_rain_28 : decode cX7_rain 28 = .ok (.iload_n 2, 1) := by decide +kernel
theorem dX7_rain_29 : decode cX7_rain 29 = .ok (.ifCond .eq 11, 3) := by decide +kernel
theorem dX7_rain_32 : decode cX7_rain 32 = .ok (.iload_n 3, 1) := by decide +kernel
theorem dX7_rain_33 : decode cX7_rain 33 = .ok (.iconst 1, 1) := by decide +kernel
theorem dX7_rain_34 : decode cX7_rain 34 = .ok (.iload_n 1, 1) := by decide +kernel
theorem dX7_rain_35 : decode cX7_rain 35 = .ok (.ishl, 1) := by decide +kernel
theorem dX7_rain_36 : decode cX7_rain 36 = .ok (.ior, 1) := by decide +kernel
theorem dX7_rain_37 : decode cX7_rain 37 = .ok (.goto 10, 3) := by decide +kernel
theorem dX7_rain_40 : decode cX7_rain 40 = .ok (.iload_n 3, 1) := by decide +kernel
theorem dX7_rain_41 : decode cX7_rain 41 = .ok (.iconst 1, 1) := by decide +kernel
theorem dX7_rain_42 : decode cX7_rain 42 = .ok (.iload_n 1, 1) := by decide +kernel
theorem dX7_rain_43 : decode cX7_rain 43 = .ok (.ishl, 1) := by decide +kernel
theorem dX7_rain_44 : decode cX7_rain 44 = .ok (.iconst (-1), 1) := by decide +kernel
theorem dX7_rain_45 : decode cX7_rain 45 = .ok (.ixor, 1) := by decide +kernel
theorem dX7_rain_46 : decode cX7_rain 46 = .ok (.iand, 1) := by decide +kernel
theorem dX7_rain_47 : decode cX7_rain 47 = .ok (.iastore, 1) := by decide +kernel
theorem dX7_rain_48 : decode cX7_rain 48 = .ok (.iload_n 3, 1) := by decide +kernel
theorem dX7_rain_49 : decode cX7_rain 49 = .ok (.iload_n 1, 1) := by decide +kernel
theorem dX7_rain_50 : decode cX7_rain 50 = .ok (.ishr, 1) := by decide +kernel
theorem dX7_rain_51 : decode cX7_rain 51 = .ok (.iconst 1, 1) := by decide +kernel
theorem dX7_rain_52 : decode cX7_rain 52 = .ok (.iand, 1) := by decide +kernel
theorem dX7_rain_53 : decode cX7_rain 53 = .ok (.ireturn, 1) := by decide +kernel
theorem dX7_offer_0 : decode cX7_offer 0 = .ok (.aload_n 0, 1) := by decide +kernel
theorem dX7_offer_1 : decode cX7_offer 1 = .ok (.iload_n 1, 1) := by decide +kernel
theorem dX7_offer_2 : decode cX7_offer 2 = .ok (.invokevirtual 176, 3) := by decide +kernel
theorem dX7_offer_5 : decode cX7_offer 5 = .ok (.ifCond .eq 15, 3) := by decide +kernel
theorem dX7_offer_8 : decode cX7_offer 8 = .ok (.iload_n 2, 1) := by decide +kernel
theorem dX7_offer_9 : decode cX7_offer 9 = .ok (.i2l, 1) := by decide +kernel
theorem dX7_offer_10 : decode cX7_offer 10 = .ok (.lconst 1, 1) := by decide +kernel
theorem dX7_offer_11 : decode cX7_offer 11 = .ok (.ldc2_w 192, 3) := by decide +kernel
theorem dX7_offer_14 : decode cX7_offer 14 = .ok (.invokestatic 72, 3) := by decide +kernel
theorem dX7_offer_17 : decode cX7_offer 17 = .ok (.ifCond .ne 5, 3) := by decide +kernel
theorem dX7_offer_20 : decode cX7_offer 20 = .ok (.iconst (-1), 1) := by decide +kernel
theorem dX7_offer_21 : decode cX7_offer 21 = .ok (.ireturn, 1) := by decide +kernel
theorem dX7_offer_22 : decode cX7_offer 22 = .ok (.aload_n 0, 1) := by decide +kernel
theorem dX7_offer_23 : decode cX7_offer 23 = .ok (.getfield 7, 3) := by decide +kernel
theorem dX7_offer_26 : decode cX7_offer 26 = .ok (.iconst 5, 1) := by decide +kernel
theorem dX7_offer_27 : decode cX7_offer 27 = .ok (.iload_n 1, 1) := by decide +kernel
theorem dX7_offer_28 : decode cX7_offer 28 = .ok (.iadd, 1) := by decide +kernel
theorem dX7_offer_29 : decode cX7_offer 29 = .ok (.iaload, 1) := by decide +kernel
theorem dX7_offer_30 : decode cX7_offer 30 = .ok (.iload_n 2, 1) := by decide +kernel
theorem dX7_offer_31 : decode cX7_offer 31 = .ok (.if_icmp .ge 6, 3) := by decide +kernel
theorem dX7_offer_34 : decode cX7_offer 34 = .ok (.bipush (-2), 2) := by decide +kernel
theorem dX7_offer_36 : decode cX7_offer 36 = .ok (.ireturn, 1) := by decide +kernel
theorem dX7_offer_37 : decode cX7_offer 37 = .ok (.aload_n 0, 1) := by decide +kernel
theorem dX7_offer_38 : decode cX7_offer 38 = .ok (.invokevirtual 170, 3) := by decide +kernel
theorem dX7_offer_41 : decode cX7_offer 41 = .ok (.aload_n 0, 1) := by decide +kernel
theorem dX7_offer_42 : decode cX7_offer 42 = .ok (.iload_n 1, 1) := by decide +kernel
theorem dX7_offer_43 : decode cX7_offer 43 = .ok (.iload_n 2, 1) := by decide +kernel
theorem dX7_offer_44 : decode cX7_offer 44 = .ok (.invokevirtual 157, 3) := by decide +kernel
theorem dX7_offer_47 : decode cX7_offer 47 = .ok (.aload_n 0, 1) := by decide +kernel
theorem dX7_offer_48 : decode cX7_offer 48 = .ok (.invokevirtual 198, 3) := by decide +kernel
theorem dX7_offer_51 : decode cX7_offer 51 = .ok (.aload_n 0, 1) := by decide +kernel
theorem dX7_offer_52 : decode cX7_offer 52 = .ok (.getfield 7, 3) := by decide +kernel
theorem dX7_offer_55 : decode cX7_offer 55 = .ok (.bipush 16, 2) := by decide +kernel
theorem dX7_offer_57 : decode cX7_offer 57 = .ok (.iaload, 1) := by decide +kernel
theorem dX7_offer_58 : decode cX7_offer 58 = .ok (.ireturn, 1) := by decide +kernel
theorem dX7_go_0 : decode cX7_go 0 = .ok (.iload_n 1, 1) := by decide +kernel
theorem dX7_go_1 : decode cX7_go 1 = .ok (.i2l, 1) := by decide +kernel
theorem dX7_go_2 : decode cX7_go 2 = .ok (.lconst 0, 1) := by decide +kernel
theorem dX7_go_3 : decode cX7_go 3 = .ok (.ldc2_w 201, 3) := by decide +kernel
theorem dX7_go_6 : decode cX7_go 6 = .ok (.invokestatic 72, 3) := by decide +kernel
theorem dX7_go_9 : decode cX7_go 9 = .ok (.ifCond .ne 5, 3) := by decide +kernel
theorem dX7_go_12 : decode cX7_go 12 = .ok (.iconst (-1), 1) := by decide +kernel
theorem dX7_go_13 : decode cX7_go 13 = .ok (.ireturn, 1) := by decide +kernel
theorem dX7_go_14 : decode cX7_go 14 = .ok (.aload_n 0, 1) := by decide +kernel
theorem dX7_go_15 : decode cX7_go 15 = .ok (.getfield 7, 3) := by decide +kernel
theorem dX7_go_18 : decode cX7_go 18 = .ok (.bipush 19, 2) := by decide +kernel
theorem dX7_go_20 : decode cX7_go 20 = .ok (.iaload, 1) := by decide +kernel
theorem dX7_go_21 : decode cX7_go 21 = .ok (.iload_n 1, 1) := by decide +kernel
theorem dX7_go_22 : decode cX7_go 22 = .ok (.iadd, 1) := by decide +kernel
theorem dX7_go_23 : decode cX7_go 23 = .ok (.sipush 999, 3) := by decide +kernel
theorem dX7_go_26 : decode cX7_go 26 = .ok (.if_icmp .le 6, 3) := by decide +kernel
theorem dX7_go_29 : decode cX7_go 29 = .ok (.bipush (-3), 2) := by decide +kernel
theorem dX7_go_31 : decode cX7_go 31 = .ok (.ireturn, 1) := by decide +kernel
theorem dX7_go_32 : decode cX7_go 32 = .ok (.aload_n 0, 1) := by decide +kernel
theorem dX7_go_33 : decode cX7_go 33 = .ok (.getfield 7, 3) := by decide +kernel
theorem dX7_go_36 : decode cX7_go 36 = .ok (.bipush 20, 2) := by decide +kernel
theorem dX7_go_38 : decode cX7_go 38 = .ok (.iaload, 1) := by decide +kernel
theorem dX7_go_39 : decode cX7_go 39 = .ok (.istore_n 2, 1) := by decide +kernel
theorem dX7_go_40 : decode cX7_go 40 = .ok (.aload_n 0, 1) := by decide +kernel
theorem dX7_go_41 : decode cX7_go 41 = .ok (.invokevirtual 170, 3) := by decide +kernel
theorem dX7_go_44 : decode cX7_go 44 = .ok (.aload_n 0, 1) := by decide +kernel
theorem dX7_go_45 : decode cX7_go 45 = .ok (.iload_n 1, 1) := by decide +kernel
theorem dX7_go_46 : decode cX7_go 46 = .ok (.invokevirtual 167, 3) := by decide +kernel
theorem dX7_go_49 : decode cX7_go 49 = .ok (.aload_n 0, 1) := by decide +kernel
theorem dX7_go_50 : decode cX7_go 50 = .ok (.invokevirtual 198, 3) := by decide +kernel
theorem dX7_go_53 : decode cX7_go 53 = .ok (.aload_n 0, 1) := by decide +kernel
theorem dX7_go_54 : decode cX7_go 54 = .ok (.getfield 7, 3) := by decide +kernel
theorem dX7_go_57 : decode cX7_go 57 = .ok (.bipush 20, 2) := by decide +kernel
theorem dX7_go_59 : decode cX7_go 59 = .ok (.iaload, 1) := by decide +kernel
theorem dX7_go_60 : decode cX7_go 60 = .ok (.iload_n 2, 1) := by decide +kernel
theorem dX7_go_61 : decode cX7_go 61 = .ok (.isub, 1) := by decide +kernel
theorem dX7_go_62 : decode cX7_go 62 = .ok (.ireturn, 1) := by decide +kernel
theorem dX7_runs_0 : decode cX7_runs 0 = .ok (.iload_n 1, 1) := by decide +kernel
theorem dX7_runs_1 : decode cX7_runs 1 = .ok (.i2l, 1) := by decide +kernel
theorem dX7_runs_2 : decode cX7_runs 2 = .ok (.lconst 0, 1) := by decide +kernel
theorem dX7_runs_3 : decode cX7_runs 3 = .ok (.ldc2_w 201, 3) := by decide +kernel
theorem dX7_runs_6 : decode cX7_runs 6 = .ok (.invokestatic 72, 3) := by decide +kernel
theorem dX7_runs_9 : decode cX7_runs 9 = .ok (.ifCond .eq 15, 3) := by decide +kernel
theorem dX7_runs_12 : decode cX7_runs 12 = .ok (.iload_n 2, 1) := by decide +kernel
theorem dX7_runs_13 : decode cX7_runs 13 = .ok (.i2l, 1) := by decide +kernel
theorem dX7_runs_14 : decode cX7_runs 14 = .ok (.lconst 0, 1) := by decide +kernel
theorem dX7_runs_15 : decode cX7_runs 15 = .ok (.ldc2_w 203, 3) := by decide +kernel
theorem dX7_runs_18 : decode cX7_runs 18 = .ok (.invokestatic 72, 3) := by decide +kernel
theorem dX7_runs_21 : decode cX7_runs 21 = .ok (.ifCond .ne 5, 3) := by decide +kernel
theorem dX7_runs_24 : decode cX7_runs 24 = .ok (.iconst (-1), 1) := by decide +kernel
theorem dX7_runs_25 : decode cX7_runs 25 = .ok (.ireturn, 1) := by decide +kernel
theorem dX7_runs_26 : decode cX7_runs 26 = .ok (.bipush (-4), 2) := by decide +kernel
theorem dX7_runs_28 : decode cX7_runs 28 = .ok (.istore_n 3, 1) := by decide +kernel
theorem dX7_runs_29 : decode cX7_runs 29 = .ok (.aload_n 0, 1) := by decide +kernel
theorem dX7_runs_30 : decode cX7_runs 30 = .ok (.invokevirtual 170, 3) := by decide +kernel
theorem dX7_runs_33 : decode cX7_runs 33 = .ok (.iconst 1, 1) := by decide +kernel
theorem dX7_runs_34 : decode cX7_runs 34 = .ok (.istore 4, 2) := by decide +kernel
theorem dX7_runs_36 : decode cX7_runs 36 = .ok (.iload 4, 2) := by decide +kernel
theorem dX7_runs_38 : decode cX7_runs 38 = .ok (.iload_n 1, 1) := by decide +kernel
theorem dX7_runs_39 : decode cX7_runs 39 = .ok (.if_icmp .gt 43, 3) := by decide +kernel
theorem dX7_runs_42 : decode cX7_runs 42 = .ok (.aload_n 0, 1) := by decide +kernel
theorem dX7_runs_43 : decode cX7_runs 43 = .ok (.invokevirtual 164, 3) := by decide +kernel
theorem dX7_runs_46 : decode cX7_runs 46 = .ok (.aload_n 0, 1) := by decide +kernel
theorem dX7_runs_47 : decode cX7_runs 47 = .ok (.getfield 13, 3) := by decide +kernel
theorem dX7_runs_50 : decode cX7_runs 50 = .ok (.bipush 20, 2) := by decide +kernel
theorem dX7_runs_52 : decode cX7_runs 52 = .ok (.iaload, 1) := by decide +kernel
theorem dX7_runs_53 : decode cX7_runs 53 = .ok (.aload_n 0, 1) := by decide +kernel
theorem dX7_runs_54 : decode cX7_runs 54 = .ok (.getfield 7, 3) := by decide +kernel
theorem dX7_runs_57 : decode cX7_runs 57 = .ok (.bipush 20, 2) := by decide +kernel
theorem dX7_runs_59 : decode cX7_runs 59 = .ok (.iaload, 1) := by decide +kernel
theorem dX7_runs_60 : decode cX7_runs 60 = .ok (.if_icmp .le 14, 3) := by decide +kernel
theorem dX7_runs_63 : decode cX7_runs 63 = .ok (.iload_n 3, 1) := by decide +kernel
theorem dX7_runs_64 : decode cX7_runs 64 = .ok (.bipush (-4), 2) := by decide +kernel
theorem dX7_runs_66 : decode cX7_runs 66 = .ok (.if_icmp .ne 8, 3) := by decide +kernel
theorem dX7_runs_69 : decode cX7_runs 69 = .ok (.iload 4, 2) := by decide +kernel
theorem dX7_runs_71 : decode cX7_runs 71 = .ok (.goto 4, 3) := by decide +kernel
theorem dX7_runs_74 : decode cX7_runs 74 = .ok (.iload_n 3, 1) := by decide +kernel
theorem dX7_runs_75 : decode cX7_runs 75 = .ok (.istore_n 3, 1) := by decide +kernel
theorem dX7_runs_76 : decode cX7_runs 76 = .ok (.iinc 4 1, 3) := by decide +kernel
theorem dX7_runs_79 : decode cX7_runs 79 = .ok (.goto (-43), 3) := by decide +kernel
theorem dX7_runs_82 : decode cX7_runs 82 = .ok (.iload_n 2, 1) := by decide +kernel
theorem dX7_runs_83 : decode cX7_runs 83 = .ok (.tableswitch 89 0 4 #[33, 49, 65, 73, 81], 33) := by decide +kernel
theorem dX7_runs_116 : decode cX7_runs 116 = .ok (.aload_n 0, 1) := by decide +kernel
theorem dX7_runs_117 : decode cX7_runs 117 = .ok (.getfield 13, 3) := by decide +kernel
theorem dX7_runs_120 : decode cX7_runs 120 = .ok (.bipush 20, 2) := by decide +kernel
theorem dX7_runs_122 : decode cX7_runs 122 = .ok (.iaload, 1) := by decide +kernel
theorem dX7_runs_123 : decode cX7_runs 123 = .ok (.aload_n 0, 1) := by decide +kernel
theorem dX7_runs_124 : decode cX7_runs 124 = .ok (.getfield 7, 3) := by decide +kernel
theorem dX7_runs_127 : decode cX7_runs 127 = .ok (.bipush 20, 2) := by decide +kernel
theorem dX7_runs_129 : decode cX7_runs 129 = .ok (.iaload, 1) := by decide +kernel
theorem dX7_runs_130 : decode cX7_runs 130 = .ok (.isub, 1) := by decide +kernel
theorem dX7_runs_131 : decode cX7_runs 131 = .ok (.ireturn, 1) := by decide +kernel
theorem dX7_runs_132 : decode cX7_runs 132 = .ok (.aload_n 0, 1) := by decide +kernel
theorem dX7_runs_133 : decode cX7_runs 133 = .ok (.getfield 13, 3) := by decide +kernel
theorem dX7_runs_136 : decode cX7_runs 136 = .ok (.bipush 21, 2) := by decide +kernel
theorem dX7_runs_138 : decode cX7_runs 138 = .ok (.iaload, 1) := by decide +kernel
theorem dX7_runs_139 : decode cX7_runs 139 = .ok (.aload_n 0, 1) := by decide +kernel
theorem dX7_runs_140 : decode cX7_runs 140 = .ok (.getfield 7, 3) := by decide +kernel
theorem dX7_runs_143 : decode cX7_runs 143 = .ok (.bipush 21, 2) := by decide +kernel
theorem dX7_runs_145 : decode cX7_runs 145 = .ok (.iaload, 1) := by decide +kernel
theorem dX7_runs_146 : decode cX7_runs 146 = .ok (.isub, 1) := by decide +kernel
theorem dX7_runs_147 : decode cX7_runs 147 = .ok (.ireturn, 1) := by decide +kernel
theorem dX7_runs_148 : decode cX7_runs 148 = .ok (.aload_n 0, 1) := by decide +kernel
theorem dX7_runs_149 : decode cX7_runs 149 = .ok (.getfield 13, 3) := by decide +kernel
theorem dX7_runs_152 : decode cX7_runs 152 = .ok (.bipush 16, 2) := by decide +kernel
theorem dX7_runs_154 : decode cX7_runs 154 = .ok (.iaload, 1) := by decide +kernel
theorem dX7_runs_155 : decode cX7_runs 155 = .ok (.ireturn, 1) := by decide +kernel
theorem dX7_runs_156 : decode cX7_runs 156 = .ok (.aload_n 0, 1) := by decide +kernel
theorem dX7_runs_157 : decode cX7_runs 157 = .ok (.getfield 13, 3) := by decide +kernel
theorem dX7_runs_160 : decode cX7_runs 160 = .ok (.bipush 17, 2) := by decide +kernel
theorem dX7_runs_162 : decode cX7_runs 162 = .ok (.iaload, 1) := by decide +kernel
theorem dX7_runs_163 : decode cX7_runs 163 = .ok (.ireturn, 1) := by decide +kernel
theorem dX7_runs_164 : decode cX7_runs 164 = .ok (.aload_n 0, 1) := by decide +kernel
theorem dX7_runs_165 : decode cX7_runs 165 = .ok (.getfield 13, 3) := by decide +kernel
theorem dX7_runs_168 : decode cX7_runs 168 = .ok (.bipush 15, 2) := by decide +kernel
theorem dX7_runs_170 : decode cX7_runs 170 = .ok (.iaload, 1) := by decide +kernel
theorem dX7_runs_171 : decode cX7_runs 171 = .ok (.ireturn, 1) := by decide +kernel
theorem dX7_runs_172 : decode cX7_runs 172 = .ok (.iload_n 3, 1) := by decide +kernel
theorem dX7_runs_173 : decode cX7_runs 173 = .ok (.ireturn, 1) := by decide +kernel
theorem dX7_ahead_0 : decode cX7_ahead 0 = .ok (.aload_n 0, 1) := by decide +kernel
theorem dX7_ahead_1 : decode cX7_ahead 1 = .ok (.iload_n 1, 1) := by decide +kernel
theorem dX7_ahead_2 : decode cX7_ahead 2 = .ok (.invokevirtual 176, 3) := by decide +kernel
theorem dX7_ahead_5 : decode cX7_ahead 5 = .ok (.ifCond .eq 15, 3) := by decide +kernel
theorem dX7_ahead_8 : decode cX7_ahead 8 = .ok (.iload_n 2, 1) := by decide +kernel
theorem dX7_ahead_9 : decode cX7_ahead 9 = .ok (.i2l, 1) := by decide +kernel
theorem dX7_ahead_10 : decode cX7_ahead 10 = .ok (.lconst 0, 1) := by decide +kernel
theorem dX7_ahead_11 : decode cX7_ahead 11 = .ok (.ldc2_w 201, 3) := by decide +kernel
theorem dX7_ahead_14 : decode cX7_ahead 14 = .ok (.invokestatic 72, 3) := by decide +kernel
theorem dX7_ahead_17 : decode cX7_ahead 17 = .ok (.ifCond .ne 5, 3) := by decide +kernel
theorem dX7_ahead_20 : decode cX7_ahead 20 = .ok (.iconst (-1), 1) := by decide +kernel
theorem dX7_ahead_21 : decode cX7_ahead 21 = .ok (.ireturn, 1) := by decide +kernel
theorem dX7_ahead_22 : decode cX7_ahead 22 = .ok (.aload_n 0, 1) := by decide +kernel
theorem dX7_ahead_23 : decode cX7_ahead 23 = .ok (.invokevirtual 170, 3) := by decide +kernel
theorem dX7_ahead_26 : decode cX7_ahead 26 = .ok (.aload_n 0, 1) := by decide +kernel
theorem dX7_ahead_27 : decode cX7_ahead 27 = .ok (.iload_n 2, 1) := by decide +kernel
theorem dX7_ahead_28 : decode cX7_ahead 28 = .ok (.invokevirtual 167, 3) := by decide +kernel
theorem dX7_ahead_31 : decode cX7_ahead 31 = .ok (.aload_n 0, 1) := by decide +kernel
theorem dX7_ahead_32 : decode cX7_ahead 32 = .ok (.getfield 13, 3) := by decide +kernel
theorem dX7_ahead_35 : decode cX7_ahead 35 = .ok (.iconst 5, 1) := by decide +kernel
theorem dX7_ahead_36 : decode cX7_ahead 36 = .ok (.iload_n 1, 1) := by decide +kernel
theorem dX7_ahead_37 : decode cX7_ahead 37 = .ok (.iadd, 1) := by decide +kernel
theorem dX7_ahead_38 : decode cX7_ahead 38 = .ok (.iaload, 1) := by decide +kernel
theorem dX7_ahead_39 : decode cX7_ahead 39 = .ok (.ireturn, 1) := by decide +kernel
theorem dX7_bare_0 : decode cX7_bare 0 = .ok (.aload_n 0, 1) := by decide +kernel
theorem dX7_bare_1 : decode cX7_bare 1 = .ok (.iload_n 1, 1) := by decide +kernel
theorem dX7_bare_2 : decode cX7_bare 2 = .ok (.invokevirtual 176, 3) := by decide +kernel
theorem dX7_bare_5 : decode cX7_bare 5 = .ok (.ifCond .ne 5, 3) := by decide +kernel
theorem dX7_bare_8 : decode cX7_bare 8 = .ok (.iconst (-1), 1) := by decide +kernel
theorem dX7_bare_9 : decode cX7_bare 9 = .ok (.ireturn, 1) := by decide +kernel
theorem dX7_bare_10 : decode cX7_bare 10 = .ok (.aload_n 0, 1) := by decide +kernel
theorem dX7_bare_11 : decode cX7_bare 11 = .ok (.invokevirtual 170, 3) := by decide +kernel
theorem dX7_bare_14 : decode cX7_bare 14 = .ok (.iconst 0, 1) := by decide +kernel
theorem dX7_bare_15 : decode cX7_bare 15 = .ok (.istore_n 2, 1) := by decide +kernel
theorem dX7_bare_16 : decode cX7_bare 16 = .ok (.iload_n 2, 1) := by decide +kernel
theorem dX7_bare_17 : decode cX7_bare 17 = .ok (.bipush 60, 2) := by decide +kernel
theorem dX7_bare_19 : decode cX7_bare 19 = .ok (.if_icmp .gt 26, 3) := by decide +kernel
theorem dX7_bare_22 : decode cX7_bare 22 = .ok (.aload_n 0, 1) := by decide +kernel
theorem dX7_bare_23 : decode cX7_bare 23 = .ok (.getfield 13, 3) := by decide +kernel
theorem dX7_bare_26 : decode cX7_bare 26 = .ok (.iconst 5, 1) := by decide +kernel
theorem dX7_bare_27 : decode cX7_bare 27 = .ok (.iload_n 1, 1) := by decide +kernel
theorem dX7_bare_28 : decode cX7_bare 28 = .ok (.iadd, 1) := by decide +kernel
theorem dX7_bare_29 : decode cX7_bare 29 = .ok (.iaload, 1) := by decide +kernel
theorem dX7_bare_30 : decode cX7_bare 30 = .ok (.ifCond .ne 5, 3) := by decide +kernel
theorem dX7_bare_33 : decode cX7_bare 33 = .ok (.iload_n 2, 1) := by decide +kernel
theorem dX7_bare_34 : decode cX7_bare 34 = .ok (.ireturn, 1) := by decide +kernel
theorem dX7_bare_35 : decode cX7_bare 35 = .ok (.aload_n 0, 1) := by decide +kernel
theorem dX7_bare_36 : decode cX7_bare 36 = .ok (.invokevirtual 164, 3) := by decide +kernel
theorem dX7_bare_39 : decode cX7_bare 39 = .ok (.iinc 2 1, 3) := by decide +kernel
theorem dX7_bare_42 : decode cX7_bare 42 = .ok (.goto (-26), 3) := by decide +kernel
theorem dX7_bare_45 : decode cX7_bare 45 = .ok (.bipush (-4), 2) := by decide +kernel
theorem dX7_bare_47 : decode cX7_bare 47 = .ok (.ireturn, 1) := by decide +kernel
theorem dX7_numbers_0 : decode cX7_numbers 0 = .ok (.iconst 1, 1) := by decide +kernel
theorem dX7_numbers_1 : decode cX7_numbers 1 = .ok (.iconst 2, 1) := by decide +kernel
theorem dX7_numbers_2 : decode cX7_numbers 2 = .ok (.aload_n 0, 1) := by decide +kernel
theorem dX7_numbers_3 : decode cX7_numbers 3 = .ok (.getfield 67, 3) := by decide +kernel
theorem dX7_numbers_6 : decode cX7_numbers 6 = .ok (.imul, 1) := by decide +kernel
theorem dX7_numbers_7 : decode cX7_numbers 7 = .ok (.ishl, 1) := by decide +kernel
theorem dX7_numbers_8 : decode cX7_numbers 8 = .ok (.ireturn, 1) := by decide +kernel
theorem dX7_startsBy_0 : decode cX7_startsBy 0 = .ok (.iload_n 1, 1) := by decide +kernel
theorem dX7_startsBy_1 : decode cX7_startsBy 1 = .ok (.istore_n 2, 1) := by decide +kernel
theorem dX7_startsBy_2 : decode cX7_startsBy 2 = .ok (.aload_n 0, 1) := by decide +kernel
theorem dX7_startsBy_3 : decode cX7_startsBy 3 = .ok (.invokevirtual 170, 3) := by decide +kernel
theorem dX7_startsBy_6 : decode cX7_startsBy 6 = .ok (.aload_n 0, 1) := by decide +kernel
theorem dX7_startsBy_7 : decode cX7_startsBy 7 = .ok (.getfield 67, 3) := by decide +kernel
theorem dX7_startsBy_10 : decode cX7_startsBy 10 = .ok (.iconst 1, 1) := by decide +kernel
theorem dX7_startsBy_11 : decode cX7_startsBy 11 = .ok (.isub, 1) := by decide +kernel
theorem dX7_startsBy_12 : decode cX7_startsBy 12 = .ok (.istore_n 3, 1) := by decide +kernel
theorem dX7_startsBy_13 : decode cX7_startsBy 13 = .ok (.iload_n 3, 1) := by decide +kernel
theorem dX7_startsBy_14 : decode cX7_startsBy 14 = .ok (.ifCond .lt 24, 3) := by decide +kernel
theorem dX7_startsBy_17 : decode cX7_startsBy 17 = .ok (.aload_n 0, 1) := by decide +kernel
theorem dX7_startsBy_18 : decode cX7_startsBy 18 = .ok (.getfield 13, 3) := by decide +kernel
theorem dX7_startsBy_21 : decode cX7_startsBy 21 = .ok (.iconst 0, 1) := by decide +kernel
theorem dX7_startsBy_22 : decode cX7_startsBy 22 = .ok (.iload_n 3, 1) := by decide +kernel
theorem dX7_startsBy_23 : decode cX7_startsBy 23 = .ok (.iadd, 1) := by decide +kernel
theorem dX7_startsBy_24 : decode cX7_startsBy 24 = .ok (.iload_n 2, 1) := by decide +kernel
theorem dX7_startsBy_25 : decode cX7_startsBy 25 = .ok (.iconst 4, 1) := by decide +kernel
theorem dX7_startsBy_26 : decode cX7_startsBy 26 = .ok (.irem, 1) := by decide +kernel
theorem dX7_startsBy_27 : decode cX7_startsBy 27 = .ok (.iastore, 1) := by decide +kernel
theorem dX7_startsBy_28 : decode cX7_startsBy 28 = .ok (.iload_n 2, 1) := by decide +kernel
theorem dX7_startsBy_29 : decode cX7_startsBy 29 = .ok (.iconst 4, 1) := by decide +kernel
theorem dX7_startsBy_30 : decode cX7_startsBy 30 = .ok (.idiv, 1) := by decide +kernel
theorem dX7_startsBy_31 : decode cX7_startsBy 31 = .ok (.istore_n 2, 1) := by decide +kernel
theorem dX7_startsBy_32 : decode cX7_startsBy 32 = .ok (.iinc 3 (-1), 3) := by decide +kernel
theorem dX7_startsBy_35 : decode cX7_startsBy 35 = .ok (.goto (-22), 3) := by decide +kernel
theorem dX7_startsBy_38 : decode cX7_startsBy 38 = .ok (.return_, 1) := by decide +kernel
theorem dX7_best_0 : decode cX7_best 0 = .ok (.iload_n 1, 1) := by decide +kernel
theorem dX7_best_1 : decode cX7_best 1 = .ok (.i2l, 1) := by decide +kernel
theorem dX7_best_2 : decode cX7_best 2 = .ok (.lconst 0, 1) := by decide +kernel
theorem dX7_best_3 : decode cX7_best 3 = .ok (.ldc2_w 192, 3) := by decide +kernel
theorem dX7_best_6 : decode cX7_best 6 = .ok (.invokestatic 72, 3) := by decide +kernel
theorem dX7_best_9 : decode cX7_best 9 = .ok (.ifCond .eq 18, 3) := by decide +kernel
theorem dX7_best_12 : decode cX7_best 12 = .ok (.iload_n 2, 1) := by decide +kernel
theorem dX7_best_13 : decode cX7_best 13 = .ok (.ifCond .eq 16, 3) := by decide +kernel
theorem dX7_best_16 : decode cX7_best 16 = .ok (.aload_n 0, 1) := by decide +kernel
theorem dX7_best_17 : decode cX7_best 17 = .ok (.iload_n 2, 1) := by decide +kernel
theorem dX7_best_18 : decode cX7_best 18 = .ok (.bipush 10, 2) := by decide +kernel
theorem dX7_best_20 : decode cX7_best 20 = .ok (.isub, 1) := by decide +kernel
theorem dX7_best_21 : decode cX7_best 21 = .ok (.invokevirtual 176, 3) := by decide +kernel
theorem dX7_best_24 : decode cX7_best 24 = .ok (.ifCond .ne 5, 3) := by decide +kernel
theorem dX7_best_27 : decode cX7_best 27 = .ok (.iconst (-1), 1) := by decide +kernel
theorem dX7_best_28 : decode cX7_best 28 = .ok (.ireturn, 1) := by decide +kernel
theorem dX7_best_29 : decode cX7_best 29 = .ok (.ldc 205, 2) := by decide +kernel
theorem dX7_best_31 : decode cX7_best 31 = .ok (.istore_n 3, 1) := by decide +kernel
theorem dX7_best_32 : decode cX7_best 32 = .ok (.iconst 0, 1) := by decide +kernel
theorem dX7_best_33 : decode cX7_best 33 = .ok (.istore 4, 2) := by decide +kernel
theorem dX7_best_35 : decode cX7_best 35 = .ok (.iconst 0, 1) := by decide +kernel
theorem dX7_best_36 : decode cX7_best 36 = .ok (.istore 5, 2) := by decide +kernel
theorem dX7_best_38 : decode cX7_best 38 = .ok (.iload 5, 2) := by decide +kernel
theorem dX7_best_40 : decode cX7_best 40 = .ok (.aload_n 0, 1) := by decide +kernel
theorem dX7_best_41 : decode cX7_best 41 = .ok (.invokevirtual 206, 3) := by decide +kernel
theorem dX7_best_44 : decode cX7_best 44 = .ok (.if_icmp .ge 44, 3) := by decide +kernel
theorem dX7_best_47 : decode cX7_best 47 = .ok (.aload_n 0, 1) := by decide +kernel
theorem dX7_best_48 : decode cX7_best 48 = .ok (.iload 5, 2) := by decide +kernel
theorem dX7_best_50 : decode cX7_best 50 = .ok (.invokevirtual 209, 3) := by decide +kernel
theorem dX7_best_53 : decode cX7_best 53 = .ok (.aload_n 0, 1) := by decide +kernel
theorem dX7_best_54 : decode cX7_best 54 = .ok (.iload_n 1, 1) := by decide +kernel
theorem dX7_best_55 : decode cX7_best 55 = .ok (.invokevirtual 212, 3) := by decide +kernel
theorem dX7_best_58 : decode cX7_best 58 = .ok (.istore 6, 2) := by decide +kernel
theorem dX7_best_60 : decode cX7_best 60 = .ok (.iload 6, 2) := by decide +kernel
theorem dX7_best_62 : decode cX7_best 62 = .ok (.iload_n 3, 1) := by decide +kernel
theorem dX7_best_63 : decode cX7_best 63 = .ok (.if_icmp .ge 8, 3) := by decide +kernel
theorem dX7_best_66 : decode cX7_best 66 = .ok (.iload 5, 2) := by decide +kernel
theorem dX7_best_68 : decode cX7_best 68 = .ok (.goto 5, 3) := by decide +kernel
theorem dX7_best_71 : decode cX7_best 71 = .ok (.iload 4, 2) := by decide +kernel
theorem dX7_best_73 : decode cX7_best 73 = .ok (.istore 4, 2) := by decide +kernel
theorem dX7_best_75 : decode cX7_best 75 = .ok (.iload 6, 2) := by decide +kernel
theorem dX7_best_77 : decode cX7_best 77 = .ok (.iload_n 3, 1) := by decide +kernel
theorem dX7_best_78 : decode cX7_best 78 = .ok (.invokestatic 151, 3) := by decide +kernel
theorem dX7_best_81 : decode cX7_best 81 = .ok (.istore_n 3, 1) := by decide +kernel
theorem dX7_best_82 : decode cX7_best 82 = .ok (.iinc 5 1, 3) := by decide +kernel
theorem dX7_best_85 : decode cX7_best 85 = .ok (.goto (-47), 3) := by decide +kernel
theorem dX7_best_88 : decode cX7_best 88 = .ok (.aload_n 0, 1) := by decide +kernel
theorem dX7_best_89 : decode cX7_best 89 = .ok (.iload 4, 2) := by decide +kernel
theorem dX7_best_91 : decode cX7_best 91 = .ok (.invokevirtual 209, 3) := by decide +kernel
theorem dX7_best_94 : decode cX7_best 94 = .ok (.iload_n 2, 1) := by decide +kernel
theorem dX7_best_95 : decode cX7_best 95 = .ok (.ifCond .ne 7, 3) := by decide +kernel
theorem dX7_best_98 : decode cX7_best 98 = .ok (.iload_n 3, 1) := by decide +kernel
theorem dX7_best_99 : decode cX7_best 99 = .ok (.goto 14, 3) := by decide +kernel
theorem dX7_best_102 : decode cX7_best 102 = .ok (.aload_n 0, 1) := by decide +kernel
theorem dX7_best_103 : decode cX7_best 103 = .ok (.getfield 13, 3) := by decide +kernel
theorem dX7_best_106 : decode cX7_best 106 = .ok (.iconst 0, 1) := by decide +kernel
theorem dX7_best_107 : decode cX7_best 107 = .ok (.iload_n 2, 1) := by decide +kernel
theorem dX7_best_108 : decode cX7_best 108 = .ok (.iadd, 1) := by decide +kernel
theorem dX7_best_109 : decode cX7_best 109 = .ok (.bipush 10, 2) := by decide +kernel
theorem dX7_best_111 : decode cX7_best 111 = .ok (.isub, 1) := by decide +kernel
theorem dX7_best_112 : decode cX7_best 112 = .ok (.iaload, 1) := by decide +kernel
theorem dX7_best_113 : decode cX7_best 113 = .ok (.ireturn, 1) := by decide +kernel
theorem dX7_change_0 : decode cX7_change 0 = .ok (.iload_n 1, 1) := by decide +kernel
theorem dX7_change_1 : decode cX7_change 1 = .ok (.i2l, 1) := by decide +kernel
theorem dX7_change_2 : decode cX7_change 2 = .ok (.lconst 0, 1) := by decide +kernel
theorem dX7_change_3 : decode cX7_change 3 = .ok (.ldc2_w 192, 3) := by decide +kernel
theorem dX7_change_6 : decode cX7_change 6 = .ok (.invokestatic 72, 3) := by decide +kernel
theorem dX7_change_9 : decode cX7_change 9 = .ok (.ifCond .eq 10, 3) := by decide +kernel
theorem dX7_change_12 : decode cX7_change 12 = .ok (.iload_n 2, 1) := by decide +kernel
theorem dX7_change_13 : decode cX7_change 13 = .ok (.invokestatic 182, 3) := by decide +kernel
theorem dX7_change_16 : decode cX7_change 16 = .ok (.ifCond .ne 5, 3) := by decide +kernel
theorem dX7_change_19 : decode cX7_change 19 = .ok (.iconst (-1), 1) := by decide +kernel
theorem dX7_change_20 : decode cX7_change 20 = .ok (.ireturn, 1) := by decide +kernel
theorem dX7_change_21 : decode cX7_change 21 = .ok (.aload_n 0, 1) := by decide +kernel
theorem dX7_change_22 : decode cX7_change 22 = .ok (.invokevirtual 170, 3) := by decide +kernel
theorem dX7_change_25 : decode cX7_change 25 = .ok (.aload_n 0, 1) := by decide +kernel
theorem dX7_change_26 : decode cX7_change 26 = .ok (.iload_n 1, 1) := by decide +kernel
theorem dX7_change_27 : decode cX7_change 27 = .ok (.invokevirtual 212, 3) := by decide +kernel
theorem dX7_change_30 : decode cX7_change 30 = .ok (.istore_n 3, 1) := by decide +kernel
theorem dX7_change_31 : decode cX7_change 31 = .ok (.bipush (-4), 2) := by decide +kernel
theorem dX7_change_33 : decode cX7_change 33 = .ok (.istore 4, 2) := by decide +kernel
theorem dX7_change_35 : decode cX7_change 35 = .ok (.iconst 0, 1) := by decide +kernel
theorem dX7_change_36 : decode cX7_change 36 = .ok (.istore 5, 2) := by decide +kernel
theorem dX7_change_38 : decode cX7_change 38 = .ok (.iload 5, 2) := by decide +kernel
theorem dX7_change_40 : decode cX7_change 40 = .ok (.aload_n 0, 1) := by decide +kernel
theorem dX7_change_41 : decode cX7_change 41 = .ok (.getfield 67, 3) := by decide +kernel
theorem dX7_change_44 : decode cX7_change 44 = .ok (.if_icmp .ge 74, 3) := by decide +kernel
theorem dX7_change_47 : decode cX7_change 47 = .ok (.iconst 0, 1) := by decide +kernel
theorem dX7_change_48 : decode cX7_change 48 = .ok (.istore 6, 2) := by decide +kernel
theorem dX7_change_50 : decode cX7_change 50 = .ok (.iload 6, 2) := by decide +kernel
theorem dX7_change_52 : decode cX7_change 52 = .ok (.iconst 4, 1) := by decide +kernel
theorem dX7_change_53 : decode cX7_change 53 = .ok (.if_icmp .ge 59, 3) := by decide +kernel
theorem dX7_change_56 : decode cX7_change 56 = .ok (.aload_n 0, 1) := by decide +kernel
theorem dX7_change_57 : decode cX7_change 57 = .ok (.invokevirtual 170, 3) := by decide +kernel
theorem dX7_change_60 : decode cX7_change 60 = .ok (.aload_n 0, 1) := by decide +kernel
theorem dX7_change_61 : decode cX7_change 61 = .ok (.getfield 13, 3) := by decide +kernel
theorem dX7_change_64 : decode cX7_change 64 = .ok (.iconst 0, 1) := by decide +kernel
theorem dX7_change_65 : decode cX7_change 65 = .ok (.iload 5, 2) := by decide +kernel
theorem dX7_change_67 : decode cX7_change 67 = .ok (.iadd, 1) := by decide +kernel
theorem dX7_change_68 : decode cX7_change 68 = .ok (.iload 6, 2) := by decide +kernel
theorem dX7_change_70 : decode cX7_change 70 = .ok (.iastore, 1) := by decide +kernel
theorem dX7_change_71 : decode cX7_change 71 = .ok (.aload_n 0, 1) := by decide +kernel
theorem dX7_change_72 : decode cX7_change 72 = .ok (.iload_n 1, 1) := by decide +kernel
theorem dX7_change_73 : decode cX7_change 73 = .ok (.invokevirtual 212, 3) := by decide +kernel
theorem dX7_change_76 : decode cX7_change 76 = .ok (.istore 7, 2) := by decide +kernel
theorem dX7_change_78 : decode cX7_change 78 = .ok (.iload 7, 2) := by decide +kernel
theorem dX7_change_80 : decode cX7_change 80 = .ok (.iload_n 3, 1) := by decide +kernel
theorem dX7_change_81 : decode cX7_change 81 = .ok (.if_icmp .ge 14, 3) := by decide +kernel
theorem dX7_change_84 : decode cX7_change 84 = .ok (.bipush 10, 2) := by decide +kernel
theorem dX7_change_86 : decode cX7_change 86 = .ok (.iload 5, 2) := by decide +kernel
theorem dX7_change_88 : decode cX7_change 88 = .ok (.imul, 1) := by decide +kernel
theorem dX7_change_89 : decode cX7_change 89 = .ok (.iload 6, 2) := by decide +kernel
theorem dX7_change_91 : decode cX7_change 91 = .ok (.iadd, 1) := by decide +kernel
theorem dX7_change_92 : decode cX7_change 92 = .ok (.goto 5, 3) := by decide +kernel
theorem dX7_change_95 : decode cX7_change 95 = .ok (.iload 4, 2) := by decide +kernel
theorem dX7_change_97 : decode cX7_change 97 = .ok (.istore 4, 2) := by decide +kernel
theorem dX7_change_99 : decode cX7_change 99 = .ok (.iload 7, 2) := by decide +kernel
theorem dX7_change_101 : decode cX7_change 101 = .ok (.iload_n 3, 1) := by decide +kernel
theorem dX7_change_102 : decode cX7_change 102 = .ok (.invokestatic 151, 3) := by decide +kernel
theorem dX7_change_105 : decode cX7_change 105 = .ok (.istore_n 3, 1) := by decide +kernel
theorem dX7_change_106 : decode cX7_change 106 = .ok (.iinc 6 1, 3) := by decide +kernel
theorem dX7_change_109 : decode cX7_change 109 = .ok (.goto (-59), 3) := by decide +kernel
theorem dX7_change_112 : decode cX7_change 112 = .ok (.iinc 5 1, 3) := by decide +kernel
theorem dX7_change_115 : decode cX7_change 115 = .ok (.goto (-77), 3) := by decide +kernel
theorem dX7_change_118 : decode cX7_change 118 = .ok (.iload 4, 2) := by decide +kernel
theorem dX7_change_120 : decode cX7_change 120 = .ok (.bipush (-4), 2) := by decide +kernel
theorem dX7_change_122 : decode cX7_change 122 = .ok (.if_icmp .ne 8, 3) := by decide +kernel
theorem dX7_change_125 : decode cX7_change 125 = .ok (.bipush (-4), 2) := by decide +kernel
theorem dX7_change_127 : decode cX7_change 127 = .ok (.goto 13, 3) := by decide +kernel
theorem dX7_change_130 : decode cX7_change 130 = .ok (.iload_n 2, 1) := by decide +kernel
theorem dX7_change_131 : decode cX7_change 131 = .ok (.ifCond .ne 8, 3) := by decide +kernel
theorem dX7_change_134 : decode cX7_change 134 = .ok (.iload 4, 2) := by decide +kernel
theorem dX7_change_136 : decode cX7_change 136 = .ok (.goto 4, 3) := by decide +kernel
theorem dX7_change_139 : decode cX7_change 139 = .ok (.iload_n 3, 1) := by decide +kernel
theorem dX7_change_140 : decode cX7_change 140 = .ok (.ireturn, 1) := by decide +kernel
theorem dX7_bitsOf_0 : decode cX7_bitsOf 0 = .ok (.iconst 0, 1) := by decide +kernel
theorem dX7_bitsOf_1 : decode cX7_bitsOf 1 = .ok (.istore_n 1, 1) := by decide +kernel
theorem dX7_bitsOf_2 : decode cX7_bitsOf 2 = .ok (.iconst 0, 1) := by decide +kernel
theorem dX7_bitsOf_3 : decode cX7_bitsOf 3 = .ok (.istore_n 2, 1) := by decide +kernel
theorem dX7_bitsOf_4 : decode cX7_bitsOf 4 = .ok (.iload_n 2, 1) := by decide +kernel
theorem dX7_bitsOf_5 : decode cX7_bitsOf 5 = .ok (.iconst 5, 1) := by decide +kernel
theorem dX7_bitsOf_6 : decode cX7_bitsOf 6 = .ok (.if_icmp .ge 17, 3) := by decide +kernel
theorem dX7_bitsOf_9 : decode cX7_bitsOf 9 = .ok (.iload_n 1, 1) := by decide +kernel
theorem dX7_bitsOf_10 : decode cX7_bitsOf 10 = .ok (.iload_n 0, 1) := by decide +kernel
theorem dX7_bitsOf_11 : decode cX7_bitsOf 11 = .ok (.iload_n 2, 1) := by decide +kernel
theorem dX7_bitsOf_12 : decode cX7_bitsOf 12 = .ok (.ishr, 1) := by decide +kernel
theorem dX7_bitsOf_13 : decode cX7_bitsOf 13 = .ok (.iconst 1, 1) := by decide +kernel
theorem dX7_bitsOf_14 : decode cX7_bitsOf 14 = .ok (.iand, 1) := by decide +kernel
theorem dX7_bitsOf_15 : decode cX7_bitsOf 15 = .ok (.iadd, 1) := by decide +kernel
theorem dX7_bitsOf_16 : decode cX7_bitsOf 16 = .ok (.istore_n 1, 1) := by decide +kernel
theorem dX7_bitsOf_17 : decode cX7_bitsOf 17 = .ok (.iinc 2 1, 3) := by decide +kernel
theorem dX7_bitsOf_20 : decode cX7_bitsOf 20 = .ok (.goto (-16), 3) := by decide +kernel
theorem dX7_bitsOf_23 : decode cX7_bitsOf 23 = .ok (.iload_n 1, 1) := by decide +kernel
theorem dX7_bitsOf_24 : decode cX7_bitsOf 24 = .ok (.ireturn, 1) := by decide +kernel
theorem dX7_startsWithCooks_0 : decode cX7_startsWithCooks 0 = .ok (.aload_n 0, 1) := by decide +kernel
theorem dX7_startsWithCooks_1 : decode cX7_startsWithCooks 1 = .ok (.invokevirtual 170, 3) := by decide +kernel
theorem dX7_startsWithCooks_4 : decode cX7_startsWithCooks 4 = .ok (.iconst 0, 1) := by decide +kernel
theorem dX7_startsWithCooks_5 : decode cX7_startsWithCooks 5 = .ok (.istore_n 2, 1) := by decide +kernel
theorem dX7_startsWithCooks_6 : decode cX7_startsWithCooks 6 = .ok (.iload_n 2, 1) := by decide +kernel
theorem dX7_startsWithCooks_7 : decode cX7_startsWithCooks 7 = .ok (.aload_n 0, 1) := by decide +kernel
theorem dX7_startsWithCooks_8 : decode cX7_startsWithCooks 8 = .ok (.getfield 67, 3) := by decide +kernel
theorem dX7_startsWithCooks_11 : decode cX7_startsWithCooks 11 = .ok (.if_icmp .ge 38, 3) := by decide +kernel
theorem dX7_startsWithCooks_14 : decode cX7_startsWithCooks 14 = .ok (.aload_n 0, 1) := by decide +kernel
theorem dX7_startsWithCooks_15 : decode cX7_startsWithCooks 15 = .ok (.getfield 13, 3) := by decide +kernel
theorem dX7_startsWithCooks_18 : decode cX7_startsWithCooks 18 = .ok (.iconst 0, 1) := by decide +kernel
theorem dX7_startsWithCooks_19 : decode cX7_startsWithCooks 19 = .ok (.iload_n 2, 1) := by decide +kernel
theorem dX7_startsWithCooks_20 : decode cX7_startsWithCooks 20 = .ok (.iadd, 1) := by decide +kernel
theorem dX7_startsWithCooks_21 : decode cX7_startsWithCooks 21 = .ok (.iload_n 1, 1) := by decide +kernel
theorem dX7_startsWithCooks_22 : decode cX7_startsWithCooks 22 = .ok (.iload_n 2, 1) := by decide +kernel
theorem dX7_startsWithCooks_23 : decode cX7_startsWithCooks 23 = .ok (.ishr, 1) := by decide +kernel
theorem dX7_startsWithCooks_24 : decode cX7_startsWithCooks 24 = .ok (.iconst 1, 1) := by decide +kernel
theorem dX7_startsWithCooks_25 : decode cX7_startsWithCooks 25 = .ok (.iand, 1) := by decide +kernel
theorem dX7_startsWithCooks_26 : decode cX7_startsWithCooks 26 = .ok (.iconst 1, 1) := by decide +kernel
theorem dX7_startsWithCooks_27 : decode cX7_startsWithCooks 27 = .ok (.if_icmp .ne 7, 3) := by decide +kernel
theorem dX7_startsWithCooks_30 : decode cX7_startsWithCooks 30 = .ok (.iconst 3, 1) := by decide +kernel
theorem dX7_startsWithCooks_31 : decode cX7_startsWithCooks 31 = .ok (.goto 11, 3) := by decide +kernel
theorem dX7_startsWithCooks_34 : decode cX7_startsWithCooks 34 = .ok (.aload_n 0, 1) := by decide +kernel
theorem dX7_startsWithCooks_35 : decode cX7_startsWithCooks 35 = .ok (.getfield 13, 3) := by decide +kernel
theorem dX7_startsWithCooks_38 : decode cX7_startsWithCooks 38 = .ok (.iconst 0, 1) := by decide +kernel
theorem dX7_startsWithCooks_39 : decode cX7_startsWithCooks 39 = .ok (.iload_n 2, 1) := by decide +kernel
theorem dX7_startsWithCooks_40 : decode cX7_startsWithCooks 40 = .ok (.iadd, 1) := by decide +kernel
theorem dX7_startsWithCooks_41 : decode cX7_startsWithCooks 41 = .ok (.iaload, 1) := by decide +kernel
theorem dX7_startsWithCooks_42 : decode cX7_startsWithCooks 42 = .ok (.iastore, 1) := by decide +kernel
theorem dX7_startsWithCooks_43 : decode cX7_startsWithCooks 43 = .ok (.iinc 2 1, 3) := by decide +kernel
theorem dX7_startsWithCooks_46 : decode cX7_startsWithCooks 46 = .ok (.goto (-40), 3) := by decide +kernel
theorem dX7_startsWithCooks_49 : decode cX7_startsWithCooks 49 = .ok (.return_, 1) := by decide +kernel
theorem dX7_cooks_0 : decode cX7_cooks 0 = .ok (.iload_n 1, 1) := by decide +kernel
theorem dX7_cooks_1 : decode cX7_cooks 1 = .ok (.i2l, 1) := by decide +kernel
theorem dX7_cooks_2 : decode cX7_cooks 2 = .ok (.lconst 0, 1) := by decide +kernel
theorem dX7_cooks_3 : decode cX7_cooks 3 = .ok (.ldc2_w 192, 3) := by decide +kernel
theorem dX7_cooks_6 : decode cX7_cooks 6 = .ok (.invokestatic 72, 3) := by decide +kernel
theorem dX7_cooks_9 : decode cX7_cooks 9 = .ok (.ifCond .eq 10, 3) := by decide +kernel
theorem dX7_cooks_12 : decode cX7_cooks 12 = .ok (.iload_n 2, 1) := by decide +kernel
theorem dX7_cooks_13 : decode cX7_cooks 13 = .ok (.invokestatic 182, 3) := by decide +kernel
theorem dX7_cooks_16 : decode cX7_cooks 16 = .ok (.ifCond .ne 5, 3) := by decide +kernel
theorem dX7_cooks_19 : decode cX7_cooks 19 = .ok (.iconst (-1), 1) := by decide +kernel
theorem dX7_cooks_20 : decode cX7_cooks 20 = .ok (.ireturn, 1) := by decide +kernel
theorem dX7_cooks_21 : decode cX7_cooks 21 = .ok (.iconst 0, 1) := by decide +kernel
theorem dX7_cooks_22 : decode cX7_cooks 22 = .ok (.istore_n 3, 1) := by decide +kernel
theorem dX7_cooks_23 : decode cX7_cooks 23 = .ok (.iconst 0, 1) := by decide +kernel
theorem dX7_cooks_24 : decode cX7_cooks 24 = .ok (.istore 4, 2) := by decide +kernel
theorem dX7_cooks_26 : decode cX7_cooks 26 = .ok (.iload 4, 2) := by decide +kernel
theorem dX7_cooks_28 : decode cX7_cooks 28 = .ok (.aload_n 0, 1) := by decide +kernel
theorem dX7_cooks_29 : decode cX7_cooks 29 = .ok (.getfield 67, 3) := by decide +kernel
theorem dX7_cooks_32 : decode cX7_cooks 32 = .ok (.if_icmp .ge 36, 3) := by decide +kernel
theorem dX7_cooks_35 : decode cX7_cooks 35 = .ok (.iload_n 3, 1) := by decide +kernel
theorem dX7_cooks_36 : decode cX7_cooks 36 = .ok (.aload_n 0, 1) := by decide +kernel
theorem dX7_cooks_37 : decode cX7_cooks 37 = .ok (.getfield 7, 3) := by decide +kernel
theorem dX7_cooks_40 : decode cX7_cooks 40 = .ok (.iconst 0, 1) := by decide +kernel
theorem dX7_cooks_41 : decode cX7_cooks 41 = .ok (.iload 4, 2) := by decide +kernel
theorem dX7_cooks_43 : decode cX7_cooks 43 = .ok (.iadd, 1) := by decide +kernel
theorem dX7_cooks_44 : decode cX7_cooks 44 = .ok (.iaload, 1) := by decide +kernel
theorem dX7_cooks_45 : decode cX7_cooks 45 = .ok (.iconst 3, 1) := by decide +kernel
theorem dX7_cooks_46 : decode cX7_cooks 46 = .ok (.if_icmp .ne 7, 3) := by decide +kernel
theorem dX7_cooks_49 : decode cX7_cooks 49 = .ok (.iconst 1, 1) := by decide +kernel
theorem dX7_cooks_50 : decode cX7_cooks 50 = .ok (.goto 4, 3) := by decide +kernel
theorem dX7_cooks_53 : decode cX7_cooks 53 = .ok (.iconst 0, 1) := by decide +kernel
theorem dX7_cooks_54 : decode cX7_cooks 54 = .ok (.invokestatic 215, 3) := by decide +kernel
theorem dX7_cooks_57 : decode cX7_cooks 57 = .ok (.iload 4, 2) := by decide +kernel
theorem dX7_cooks_59 : decode cX7_cooks 59 = .ok (.ishl, 1) := by decide +kernel
theorem dX7_cooks_60 : decode cX7_cooks 60 = .ok (.ior, 1) := by decide +kernel
theorem dX7_cooks_61 : decode cX7_cooks 61 = .ok (.istore_n 3, 1) := by decide +kernel
theorem dX7_cooks_62 : decode cX7_cooks 62 = .ok (.iinc 4 1, 3) := by decide +kernel
theorem dX7_cooks_65 : decode cX7_cooks 65 = .ok (.goto (-39), 3) := by decide +kernel
theorem dX7_cooks_68 : decode cX7_cooks 68 = .ok (.ldc 205, 2) := by decide +kernel
theorem dX7_cooks_70 : decode cX7_cooks 70 = .ok (.istore 4, 2) := by decide +kernel
theorem dX7_cooks_72 : decode cX7_cooks 72 = .ok (.bipush (-4), 2) := by decide +kernel
theorem dX7_cooks_74 : decode cX7_cooks 74 = .ok (.istore 5, 2) := by decide +kernel
theorem dX7_cooks_76 : decode cX7_cooks 76 = .ok (.iconst 0, 1) := by decide +kernel
theorem dX7_cooks_77 : decode cX7_cooks 77 = .ok (.istore 6, 2) := by decide +kernel
theorem dX7_cooks_79 : decode cX7_cooks 79 = .ok (.iload 6, 2) := by decide +kernel
theorem dX7_cooks_81 : decode cX7_cooks 81 = .ok (.iconst 1, 1) := by decide +kernel
theorem dX7_cooks_82 : decode cX7_cooks 82 = .ok (.aload_n 0, 1) := by decide +kernel
theorem dX7_cooks_83 : decode cX7_cooks 83 = .ok (.getfield 67, 3) := by decide +kernel
theorem dX7_cooks_86 : decode cX7_cooks 86 = .ok (.ishl, 1) := by decide +kernel
theorem dX7_cooks_87 : decode cX7_cooks 87 = .ok (.if_icmp .ge 92, 3) := by decide +kernel
theorem dX7_cooks_90 : decode cX7_cooks 90 = .ok (.iload 6, 2) := by decide +kernel
theorem dX7_cooks_92 : decode cX7_cooks 92 = .ok (.iload_n 3, 1) := by decide +kernel
theorem dX7_cooks_93 : decode cX7_cooks 93 = .ok (.iand, 1) := by decide +kernel
theorem dX7_cooks_94 : decode cX7_cooks 94 = .ok (.ifCond .ne 79, 3) := by decide +kernel
theorem dX7_cooks_97 : decode cX7_cooks 97 = .ok (.iload 6, 2) := by decide +kernel
theorem dX7_cooks_99 : decode cX7_cooks 99 = .ok (.invokestatic 219, 3) := by decide +kernel
theorem dX7_cooks_102 : decode cX7_cooks 102 = .ok (.iload 4, 2) := by decide +kernel
theorem dX7_cooks_104 : decode cX7_cooks 104 = .ok (.if_icmp .ge 69, 3) := by decide +kernel
theorem dX7_cooks_107 : decode cX7_cooks 107 = .ok (.aload_n 0, 1) := by decide +kernel
theorem dX7_cooks_108 : decode cX7_cooks 108 = .ok (.iload 6, 2) := by decide +kernel
theorem dX7_cooks_110 : decode cX7_cooks 110 = .ok (.invokevirtual 222, 3) := by decide +kernel
theorem dX7_cooks_113 : decode cX7_cooks 113 = .ok (.aload_n 0, 1) := by decide +kernel
theorem dX7_cooks_114 : decode cX7_cooks 114 = .ok (.iload_n 1, 1) := by decide +kernel
theorem dX7_cooks_115 : decode cX7_cooks 115 = .ok (.invokevirtual 167, 3) := by decide +kernel
theorem dX7_cooks_118 : decode cX7_cooks 118 = .ok (.aload_n 0, 1) := by decide +kernel
theorem dX7_cooks_119 : decode cX7_cooks 119 = .ok (.getfield 13, 3) := by decide +kernel
theorem dX7_cooks_122 : decode cX7_cooks 122 = .ok (.bipush 20, 2) := by decide +kernel
theorem dX7_cooks_124 : decode cX7_cooks 124 = .ok (.iaload, 1) := by decide +kernel
theorem dX7_cooks_125 : decode cX7_cooks 125 = .ok (.aload_n 0, 1) := by decide +kernel
theorem dX7_cooks_126 : decode cX7_cooks 126 = .ok (.getfield 7, 3) := by decide +kernel
theorem dX7_cooks_129 : decode cX7_cooks 129 = .ok (.bipush 20, 2) := by decide +kernel
theorem dX7_cooks_131 : decode cX7_cooks 131 = .ok (.iaload, 1) := by decide +kernel
theorem dX7_cooks_132 : decode cX7_cooks 132 = .ok (.if_icmp .ne 7, 3) := by decide +kernel
theorem dX7_cooks_135 : decode cX7_cooks 135 = .ok (.iconst 1, 1) := by decide +kernel
theorem dX7_cooks_136 : decode cX7_cooks 136 = .ok (.goto 4, 3) := by decide +kernel
theorem dX7_cooks_139 : decode cX7_cooks 139 = .ok (.iconst 0, 1) := by decide +kernel
theorem dX7_cooks_140 : decode cX7_cooks 140 = .ok (.istore 7, 2) := by decide +kernel
theorem dX7_cooks_142 : decode cX7_cooks 142 = .ok (.iload 7, 2) := by decide +kernel
theorem dX7_cooks_144 : decode cX7_cooks 144 = .ok (.ifCond .eq 8, 3) := by decide +kernel
theorem dX7_cooks_147 : decode cX7_cooks 147 = .ok (.iload 6, 2) := by decide +kernel
theorem dX7_cooks_149 : decode cX7_cooks 149 = .ok (.goto 5, 3) := by decide +kernel
theorem dX7_cooks_152 : decode cX7_cooks 152 = .ok (.iload 5, 2) := by decide +kernel
theorem dX7_cooks_154 : decode cX7_cooks 154 = .ok (.istore 5, 2) := by decide +kernel
theorem dX7_cooks_156 : decode cX7_cooks 156 = .ok (.iload 7, 2) := by decide +kernel
theorem dX7_cooks_158 : decode cX7_cooks 158 = .ok (.ifCond .eq 11, 3) := by decide +kernel
theorem dX7_cooks_161 : decode cX7_cooks 161 = .ok (.iload 6, 2) := by decide +kernel
theorem dX7_cooks_163 : decode cX7_cooks 163 = .ok (.invokestatic 219, 3) := by decide +kernel
theorem dX7_cooks_166 : decode cX7_cooks 166 = .ok (.goto 5, 3) := by decide +kernel
theorem dX7_cooks_169 : decode cX7_cooks 169 = .ok (.iload 4, 2) := by decide +kernel
theorem dX7_cooks_171 : decode cX7_cooks 171 = .ok (.istore 4, 2) := by decide +kernel
theorem dX7_cooks_173 : decode cX7_cooks 173 = .ok (.iinc 6 1, 3) := by decide +kernel
theorem dX7_cooks_176 : decode cX7_cooks 176 = .ok (.goto (-97), 3) := by decide +kernel
theorem dX7_cooks_179 : decode cX7_cooks 179 = .ok (.iload 5, 2) := by decide +kernel
theorem dX7_cooks_181 : decode cX7_cooks 181 = .ok (.bipush (-4), 2) := by decide +kernel
theorem dX7_cooks_183 : decode cX7_cooks 183 = .ok (.if_icmp .ne 8, 3) := by decide +kernel
theorem dX7_cooks_186 : decode cX7_cooks 186 = .ok (.bipush (-4), 2) := by decide +kernel
theorem dX7_cooks_188 : decode cX7_cooks 188 = .ok (.goto 14, 3) := by decide +kernel
theorem dX7_cooks_191 : decode cX7_cooks 191 = .ok (.iload_n 2, 1) := by decide +kernel
theorem dX7_cooks_192 : decode cX7_cooks 192 = .ok (.ifCond .ne 8, 3) := by decide +kernel
theorem dX7_cooks_195 : decode cX7_cooks 195 = .ok (.iload 4, 2) := by decide +kernel
theorem dX7_cooks_197 : decode cX7_cooks 197 = .ok (.goto 5, 3) := by decide +kernel
theorem dX7_cooks_200 : decode cX7_cooks 200 = .ok (.iload 5, 2) := by decide +kernel
theorem dX7_cooks_202 : decode cX7_cooks 202 = .ok (.ireturn, 1) := by decide +kernel
theorem dX7_appease_0 : decode cX7_appease 0 = .ok (.aload_n 0, 1) := by decide +kernel
theorem dX7_appease_1 : decode cX7_appease 1 = .ok (.iload_n 1, 1) := by decide +kernel
theorem dX7_appease_2 : decode cX7_appease 2 = .ok (.invokevirtual 176, 3) := by decide +kernel
theorem dX7_appease_5 : decode cX7_appease 5 = .ok (.ifCond .eq 15, 3) := by decide +kernel
theorem dX7_appease_8 : decode cX7_appease 8 = .ok (.iload_n 2, 1) := by decide +kernel
theorem dX7_appease_9 : decode cX7_appease 9 = .ok (.i2l, 1) := by decide +kernel
theorem dX7_appease_10 : decode cX7_appease 10 = .ok (.lconst 0, 1) := by decide +kernel
theorem dX7_appease_11 : decode cX7_appease 11 = .ok (.ldc2_w 192, 3) := by decide +kernel
theorem dX7_appease_14 : decode cX7_appease 14 = .ok (.invokestatic 72, 3) := by decide +kernel
theorem dX7_appease_17 : decode cX7_appease 17 = .ok (.ifCond .ne 5, 3) := by decide +kernel
theorem dX7_appease_20 : decode cX7_appease 20 = .ok (.iconst (-1), 1) := by decide +kernel
theorem dX7_appease_21 : decode cX7_appease 21 = .ok (.ireturn, 1) := by decide +kernel
theorem dX7_appease_22 : decode cX7_appease 22 = .ok (.iconst 0, 1) := by decide +kernel
theorem dX7_appease_23 : decode cX7_appease 23 = .ok (.istore_n 3, 1) := by decide +kernel
theorem dX7_appease_24 : decode cX7_appease 24 = .ok (.iload_n 3, 1) := by decide +kernel
theorem dX7_appease_25 : decode cX7_appease 25 = .ok (.bipush 20, 2) := by decide +kernel
theorem dX7_appease_27 : decode cX7_appease 27 = .ok (.if_icmp .gt 127, 3) := by decide +kernel
theorem dX7_appease_30 : decode cX7_appease 30 = .ok (.iload_n 3, 1) := by decide +kernel
theorem dX7_appease_31 : decode cX7_appease 31 = .ok (.aload_n 0, 1) := by decide +kernel
theorem dX7_appease_32 : decode cX7_appease 32 = .ok (.getfield 7, 3) := by decide +kernel
theorem dX7_appease_35 : decode cX7_appease 35 = .ok (.iconst 5, 1) := by decide +kernel
theorem dX7_appease_36 : decode cX7_appease 36 = .ok (.iload_n 1, 1) := by decide +kernel
theorem dX7_appease_37 : decode cX7_appease 37 = .ok (.iadd, 1) := by decide +kernel
theorem dX7_appease_38 : decode cX7_appease 38 = .ok (.iaload, 1) := by decide +kernel
theorem dX7_appease_39 : decode cX7_appease 39 = .ok (.if_icmp .gt 115, 3) := by decide +kernel
theorem dX7_appease_42 : decode cX7_appease 42 = .ok (.aload_n 0, 1) := by decide +kernel
theorem dX7_appease_43 : decode cX7_appease 43 = .ok (.invokevirtual 170, 3) := by decide +kernel
theorem dX7_appease_46 : decode cX7_appease 46 = .ok (.aload_n 0, 1) := by decide +kernel
theorem dX7_appease_47 : decode cX7_appease 47 = .ok (.iload_n 1, 1) := by decide +kernel
theorem dX7_appease_48 : decode cX7_appease 48 = .ok (.iload_n 3, 1) := by decide +kernel
theorem dX7_appease_49 : decode cX7_appease 49 = .ok (.invokevirtual 157, 3) := by decide +kernel
theorem dX7_appease_52 : decode cX7_appease 52 = .ok (.iconst 0, 1) := by decide +kernel
theorem dX7_appease_53 : decode cX7_appease 53 = .ok (.istore 4, 2) := by decide +kernel
theorem dX7_appease_55 : decode cX7_appease 55 = .ok (.iconst 0, 1) := by decide +kernel
theorem dX7_appease_56 : decode cX7_appease 56 = .ok (.istore 5, 2) := by decide +kernel
theorem dX7_appease_58 : decode cX7_appease 58 = .ok (.iload 5, 2) := by decide +kernel
theorem dX7_appease_60 : decode cX7_appease 60 = .ok (.iload_n 2, 1) := by decide +kernel
theorem dX7_appease_61 : decode cX7_appease 61 = .ok (.if_icmp .ge 80, 3) := by decide +kernel
theorem dX7_appease_64 : decode cX7_appease 64 = .ok (.aload_n 0, 1) := by decide +kernel
theorem dX7_appease_65 : decode cX7_appease 65 = .ok (.getfield 13, 3) := by decide +kernel
theorem dX7_appease_68 : decode cX7_appease 68 = .ok (.bipush 10, 2) := by decide +kernel
theorem dX7_appease_70 : decode cX7_appease 70 = .ok (.iload_n 1, 1) := by decide +kernel
theorem dX7_appease_71 : decode cX7_appease 71 = .ok (.iadd, 1) := by decide +kernel
theorem dX7_appease_72 : decode cX7_appease 72 = .ok (.iaload, 1) := by decide +kernel
theorem dX7_appease_73 : decode cX7_appease 73 = .ok (.istore 6, 2) := by decide +kernel
theorem dX7_appease_75 : decode cX7_appease 75 = .ok (.aload_n 0, 1) := by decide +kernel
theorem dX7_appease_76 : decode cX7_appease 76 = .ok (.getfield 13, 3) := by decide +kernel
theorem dX7_appease_79 : decode cX7_appease 79 = .ok (.bipush 21, 2) := by decide +kernel
theorem dX7_appease_81 : decode cX7_appease 81 = .ok (.iaload, 1) := by decide +kernel
theorem dX7_appease_82 : decode cX7_appease 82 = .ok (.istore 7, 2) := by decide +kernel
theorem dX7_appease_84 : decode cX7_appease 84 = .ok (.aload_n 0, 1) := by decide +kernel
theorem dX7_appease_85 : decode cX7_appease 85 = .ok (.getfield 13, 3) := by decide +kernel
theorem dX7_appease_88 : decode cX7_appease 88 = .ok (.bipush 15, 2) := by decide +kernel
theorem dX7_appease_90 : decode cX7_appease 90 = .ok (.iaload, 1) := by decide +kernel
theorem dX7_appease_91 : decode cX7_appease 91 = .ok (.istore 8, 2) := by decide +kernel
theorem dX7_appease_93 : decode cX7_appease 93 = .ok (.aload_n 0, 1) := by decide +kernel
theorem dX7_appease_94 : decode cX7_appease 94 = .ok (.invokevirtual 164, 3) := by decide +kernel
theorem dX7_appease_97 : decode cX7_appease 97 = .ok (.iload 4, 2) := by decide +kernel
theorem dX7_appease_99 : decode cX7_appease 99 = .ok (.aload_n 0, 1) := by decide +kernel
theorem dX7_appease_100 : decode cX7_appease 100 = .ok (.getfield 13, 3) := by decide +kernel
theorem dX7_appease_103 : decode cX7_appease 103 = .ok (.bipush 10, 2) := by decide +kernel
theorem dX7_appease_105 : decode cX7_appease 105 = .ok (.iload_n 1, 1) := by decide +kernel
theorem dX7_appease_106 : decode cX7_appease 106 = .ok (.iadd, 1) := by decide +kernel
theorem dX7_appease_107 : decode cX7_appease 107 = .ok (.iaload, 1) := by decide +kernel
theorem dX7_appease_108 : decode cX7_appease 108 = .ok (.iload 6, 2) := by decide +kernel
theorem dX7_appease_110 : decode cX7_appease 110 = .ok (.isub, 1) := by decide +kernel
theorem dX7_appease_111 : decode cX7_appease 111 = .ok (.iload 8, 2) := by decide +kernel
theorem dX7_appease_113 : decode cX7_appease 113 = .ok (.iload_n 1, 1) := by decide +kernel
theorem dX7_appease_114 : decode cX7_appease 114 = .ok (.if_icmp .ne 16, 3) := by decide +kernel
theorem dX7_appease_117 : decode cX7_appease 117 = .ok (.aload_n 0, 1) := by decide +kernel
theorem dX7_appease_118 : decode cX7_appease 118 = .ok (.getfield 13, 3) := by decide +kernel
theorem dX7_appease_121 : decode cX7_appease 121 = .ok (.bipush 21, 2) := by decide +kernel
theorem dX7_appease_123 : decode cX7_appease 123 = .ok (.iaload, 1) := by decide +kernel
theorem dX7_appease_124 : decode cX7_appease 124 = .ok (.iload 7, 2) := by decide +kernel
theorem dX7_appease_126 : decode cX7_appease 126 = .ok (.isub, 1) := by decide +kernel
theorem dX7_appease_127 : decode cX7_appease 127 = .ok (.goto 4, 3) := by decide +kernel
theorem dX7_appease_130 : decode cX7_appease 130 = .ok (.iconst 0, 1) := by decide +kernel
theorem dX7_appease_131 : decode cX7_appease 131 = .ok (.isub, 1) := by decide +kernel
theorem dX7_appease_132 : decode cX7_appease 132 = .ok (.iadd, 1) := by decide +kernel
theorem dX7_appease_133 : decode cX7_appease 133 = .ok (.istore 4, 2) := by decide +kernel
theorem dX7_appease_135 : decode cX7_appease 135 = .ok (.iinc 5 1, 3) := by decide +kernel
theorem dX7_appease_138 : decode cX7_appease 138 = .ok (.goto (-80), 3) := by decide +kernel
theorem dX7_appease_141 : decode cX7_appease 141 = .ok (.iload 4, 2) := by decide +kernel
theorem dX7_appease_143 : decode cX7_appease 143 = .ok (.ifCond .ne 5, 3) := by decide +kernel
theorem dX7_appease_146 : decode cX7_appease 146 = .ok (.iload_n 3, 1) := by decide +kernel
theorem dX7_appease_147 : decode cX7_appease 147 = .ok (.ireturn, 1) := by decide +kernel
theorem dX7_appease_148 : decode cX7_appease 148 = .ok (.iinc 3 1, 3) := by decide +kernel
theorem dX7_appease_151 : decode cX7_appease 151 = .ok (.goto (-127), 3) := by decide +kernel
theorem dX7_appease_154 : decode cX7_appease 154 = .ok (.bipush (-4), 2) := by decide +kernel
theorem dX7_appease_156 : decode cX7_appease 156 = .ok (.ireturn, 1) := by decide +kernel
theorem dX7_pray_0 : decode cX7_pray 0 = .ok (.iload_n 1, 1) := by decide +kernel
theorem dX7_pray_1 : decode cX7_pray 1 = .ok (.i2l, 1) := by decide +kernel
theorem dX7_pray_2 : decode cX7_pray 2 = .ok (.lconst 0, 1) := by decide +kernel
theorem dX7_pray_3 : decode cX7_pray 3 = .ok (.ldc2_w 192, 3) := by decide +kernel
theorem dX7_pray_6 : decode cX7_pray 6 = .ok (.invokestatic 72, 3) := by decide +kernel
theorem dX7_pray_9 : decode cX7_pray 9 = .ok (.ifCond .ne 5, 3) := by decide +kernel
theorem dX7_pray_12 : decode cX7_pray 12 = .ok (.iconst (-1), 1) := by decide +kernel
theorem dX7_pray_13 : decode cX7_pray 13 = .ok (.ireturn, 1) := by decide +kernel
theorem dX7_pray_14 : decode cX7_pray 14 = .ok (.aload_n 0, 1) := by decide +kernel
theorem dX7_pray_15 : decode cX7_pray 15 = .ok (.invokevirtual 170, 3) := by decide +kernel
theorem dX7_pray_18 : decode cX7_pray 18 = .ok (.aload_n 0, 1) := by decide +kernel
theorem dX7_pray_19 : decode cX7_pray 19 = .ok (.iload_n 1, 1) := by decide +kernel
theorem dX7_pray_20 : decode cX7_pray 20 = .ok (.invokevirtual 212, 3) := by decide +kernel
theorem dX7_pray_23 : decode cX7_pray 23 = .ok (.istore_n 2, 1) := by decide +kernel
theorem dX7_pray_24 : decode cX7_pray 24 = .ok (.iconst 0, 1) := by decide +kernel
theorem dX7_pray_25 : decode cX7_pray 25 = .ok (.istore_n 3, 1) := by decide +kernel
theorem dX7_pray_26 : decode cX7_pray 26 = .ok (.iconst 0, 1) := by decide +kernel
theorem dX7_pray_27 : decode cX7_pray 27 = .ok (.istore 4, 2) := by decide +kernel
theorem dX7_pray_29 : decode cX7_pray 29 = .ok (.iload 4, 2) := by decide +kernel
theorem dX7_pray_31 : decode cX7_pray 31 = .ok (.bipush 7, 2) := by decide +kernel
theorem dX7_pray_33 : decode cX7_pray 33 = .ok (.if_icmp .ge 50, 3) := by decide +kernel
theorem dX7_pray_36 : decode cX7_pray 36 = .ok (.aload_n 0, 1) := by decide +kernel
theorem dX7_pray_37 : decode cX7_pray 37 = .ok (.invokevirtual 170, 3) := by decide +kernel
theorem dX7_pray_40 : decode cX7_pray 40 = .ok (.aload_n 0, 1) := by decide +kernel
theorem dX7_pray_41 : decode cX7_pray 41 = .ok (.getfield 13, 3) := by decide +kernel
theorem dX7_pray_44 : decode cX7_pray 44 = .ok (.bipush 18, 2) := by decide +kernel
theorem dX7_pray_46 : decode cX7_pray 46 = .ok (.dup2, 1) := by decide +kernel
theorem dX7_pray_47 : decode cX7_pray 47 = .ok (.iaload, 1) := by decide +kernel
theorem dX7_pray_48 : decode cX7_pray 48 = .ok (.iconst 1, 1) := by decide +kernel
theorem dX7_pray_49 : decode cX7_pray 49 = .ok (.iload 4, 2) := by decide +kernel
theorem dX7_pray_51 : decode cX7_pray 51 = .ok (.ishl, 1) := by decide +kernel
theorem dX7_pray_52 : decode cX7_pray 52 = .ok (.ior, 1) := by decide +kernel
theorem dX7_pray_53 : decode cX7_pray 53 = .ok (.iastore, 1) := by decide +kernel
theorem dX7_pray_54 : decode cX7_pray 54 = .ok (.iload_n 3, 1) := by decide +kernel
theorem dX7_pray_55 : decode cX7_pray 55 = .ok (.aload_n 0, 1) := by decide +kernel
theorem dX7_pray_56 : decode cX7_pray 56 = .ok (.iload_n 1, 1) := by decide +kernel
theorem dX7_pray_57 : decode cX7_pray 57 = .ok (.invokevirtual 212, 3) := by decide +kernel
theorem dX7_pray_60 : decode cX7_pray 60 = .ok (.iload_n 2, 1) := by decide +kernel
theorem dX7_pray_61 : decode cX7_pray 61 = .ok (.if_icmp .ge 7, 3) := by decide +kernel
theorem dX7_pray_64 : decode cX7_pray 64 = .ok (.iconst 1, 1) := by decide +kernel
theorem dX7_pray_65 : decode cX7_pray 65 = .ok (.goto 4, 3) := by decide +kernel
theorem dX7_pray_68 : decode cX7_pray 68 = .ok (.iconst 0, 1) := by decide +kernel
theorem dX7_pray_69 : decode cX7_pray 69 = .ok (.invokestatic 215, 3) := by decide +kernel
theorem dX7_pray_72 : decode cX7_pray 72 = .ok (.iload 4, 2) := by decide +kernel
theorem dX7_pray_74 : decode cX7_pray 74 = .ok (.ishl, 1) := by decide +kernel
theorem dX7_pray_75 : decode cX7_pray 75 = .ok (.ior, 1) := by decide +kernel
theorem dX7_pray_76 : decode cX7_pray 76 = .ok (.istore_n 3, 1) := by decide +kernel
theorem dX7_pray_77 : decode cX7_pray 77 = .ok (.iinc 4 1, 3) := by decide +kernel
theorem dX7_pray_80 : decode cX7_pray 80 = .ok (.goto (-51), 3) := by decide +kernel
theorem dX7_pray_83 : decode cX7_pray 83 = .ok (.iload_n 3, 1) := by decide +kernel
theorem dX7_pray_84 : decode cX7_pray 84 = .ok (.ireturn, 1) := by decide +kernel
theorem dX7_valueOf_0 : decode cX7_valueOf 0 = .ok (.aload_n 0, 1) := by decide +kernel
theorem dX7_valueOf_1 : decode cX7_valueOf 1 = .ok (.invokevirtual 170, 3) := by decide +kernel
theorem dX7_valueOf_4 : decode cX7_valueOf 4 = .ok (.aload_n 0, 1) := by decide +kernel
theorem dX7_valueOf_5 : decode cX7_valueOf 5 = .ok (.iload_n 2, 1) := by decide +kernel
theorem dX7_valueOf_6 : decode cX7_valueOf 6 = .ok (.invokevirtual 212, 3) := by decide +kernel
theorem dX7_valueOf_9 : decode cX7_valueOf 9 = .ok (.istore_n 3, 1) := by decide +kernel
theorem dX7_valueOf_10 : decode cX7_valueOf 10 = .ok (.aload_n 0, 1) := by decide +kernel
theorem dX7_valueOf_11 : decode cX7_valueOf 11 = .ok (.iload_n 1, 1) := by decide +kernel
theorem dX7_valueOf_12 : decode cX7_valueOf 12 = .ok (.invokevirtual 222, 3) := by decide +kernel
theorem dX7_valueOf_15 : decode cX7_valueOf 15 = .ok (.iload_n 3, 1) := by decide +kernel
theorem dX7_valueOf_16 : decode cX7_valueOf 16 = .ok (.aload_n 0, 1) := by decide +kernel
theorem dX7_valueOf_17 : decode cX7_valueOf 17 = .ok (.iload_n 2, 1) := by decide +kernel
theorem dX7_valueOf_18 : decode cX7_valueOf 18 = .ok (.invokevirtual 212, 3) := by decide +kernel
theorem dX7_valueOf_21 : decode cX7_valueOf 21 = .ok (.isub, 1) := by decide +kernel
theorem dX7_valueOf_22 : decode cX7_valueOf 22 = .ok (.ireturn, 1) := by decide +kernel
theorem dX7_value_0 : decode cX7_value 0 = .ok (.iload_n 1, 1) := by decide +kernel
theorem dX7_value_1 : decode cX7_value 1 = .ok (.i2l, 1) := by decide +kernel
theorem dX7_value_2 : decode cX7_value 2 = .ok (.lconst 0, 1) := by decide +kernel
theorem dX7_value_3 : decode cX7_value 3 = .ok (.iconst 1, 1) := by decide +kernel
theorem dX7_value_4 : decode cX7_value 4 = .ok (.aload_n 0, 1) := by decide +kernel
theorem dX7_value_5 : decode cX7_value 5 = .ok (.getfield 67, 3) := by decide +kernel
theorem dX7_value_8 : decode cX7_value 8 = .ok (.ishl, 1) := by decide +kernel
theorem dX7_value_9 : decode cX7_value 9 = .ok (.iconst 1, 1) := by decide +kernel
theorem dX7_value_10 : decode cX7_value 10 = .ok (.isub, 1) := by decide +kernel
theorem dX7_value_11 : decode cX7_value 11 = .ok (.i2l, 1) := by decide +kernel
theorem dX7_value_12 : decode cX7_value 12 = .ok (.invokestatic 72, 3) := by decide +kernel
theorem dX7_value_15 : decode cX7_value 15 = .ok (.ifCond .eq 28, 3) := by decide +kernel
theorem dX7_value_18 : decode cX7_value 18 = .ok (.iload_n 2, 1) := by decide +kernel
theorem dX7_value_19 : decode cX7_value 19 = .ok (.i2l, 1) := by decide +kernel
theorem dX7_value_20 : decode cX7_value 20 = .ok (.lconst 0, 1) := by decide +kernel
theorem dX7_value_21 : decode cX7_value 21 = .ok (.ldc2_w 192, 3) := by decide +kernel
theorem dX7_value_24 : decode cX7_value 24 = .ok (.invokestatic 72, 3) := by decide +kernel
theorem dX7_value_27 : decode cX7_value 27 = .ok (.ifCond .eq 16, 3) := by decide +kernel
theorem dX7_value_30 : decode cX7_value 30 = .ok (.sipush 1000, 3) := by decide +kernel
theorem dX7_value_33 : decode cX7_value 33 = .ok (.aload_n 0, 1) := by decide +kernel
theorem dX7_value_34 : decode cX7_value 34 = .ok (.iload_n 1, 1) := by decide +kernel
theorem dX7_value_35 : decode cX7_value 35 = .ok (.iload_n 2, 1) := by decide +kernel
theorem dX7_value_36 : decode cX7_value 36 = .ok (.invokevirtual 225, 3) := by decide +kernel
theorem dX7_value_39 : decode cX7_value 39 = .ok (.iadd, 1) := by decide +kernel
theorem dX7_value_40 : decode cX7_value 40 = .ok (.goto 4, 3) := by decide +kernel
theorem dX7_value_43 : decode cX7_value 43 = .ok (.iconst (-1), 1) := by decide +kernel
theorem dX7_value_44 : decode cX7_value 44 = .ok (.ireturn, 1) := by decide +kernel
theorem dX7_common_0 : decode cX7_common 0 = .ok (.lload_n 0, 1) := by decide +kernel
theorem dX7_common_1 : decode cX7_common 1 = .ok (.lstore 4, 2) := by decide +kernel
theorem dX7_common_3 : decode cX7_common 3 = .ok (.lload_n 2, 1) := by decide +kernel
theorem dX7_common_4 : decode cX7_common 4 = .ok (.lconst 0, 1) := by decide +kernel
theorem dX7_common_5 : decode cX7_common 5 = .ok (.lcmp, 1) := by decide +kernel
theorem dX7_common_6 : decode cX7_common 6 = .ok (.ifCond .ge 8, 3) := by decide +kernel
theorem dX7_common_9 : decode cX7_common 9 = .ok (.lload_n 2, 1) := by decide +kernel
theorem dX7_common_10 : decode cX7_common 10 = .ok (.lneg, 1) := by decide +kernel
theorem dX7_common_11 : decode cX7_common 11 = .ok (.goto 4, 3) := by decide +kernel
theorem dX7_common_14 : decode cX7_common 14 = .ok (.lload_n 2, 1) := by decide +kernel
theorem dX7_common_15 : decode cX7_common 15 = .ok (.lstore 6, 2) := by decide +kernel
theorem dX7_common_17 : decode cX7_common 17 = .ok (.lload 6, 2) := by decide +kernel
theorem dX7_common_19 : decode cX7_common 19 = .ok (.lconst 0, 1) := by decide +kernel
theorem dX7_common_20 : decode cX7_common 20 = .ok (.lcmp, 1) := by decide +kernel
theorem dX7_common_21 : decode cX7_common 21 = .ok (.ifCond .eq 21, 3) := by decide +kernel
theorem dX7_common_24 : decode cX7_common 24 = .ok (.lload 4, 2) := by decide +kernel
theorem dX7_common_26 : decode cX7_common 26 = .ok (.lload 6, 2) := by decide +kernel
theorem dX7_common_28 : decode cX7_common 28 = .ok (.lrem, 1) := by decide +kernel
theorem dX7_common_29 : decode cX7_common 29 = .ok (.lstore 8, 2) := by decide +kernel
theorem dX7_common_31 : decode cX7_common 31 = .ok (.lload 6, 2) := by decide +kernel
theorem dX7_common_33 : decode cX7_common 33 = .ok (.lstore 4, 2) := by decide +kernel
theorem dX7_common_35 : decode cX7_common 35 = .ok (.lload 8, 2) := by decide +kernel
theorem dX7_common_37 : decode cX7_common 37 = .ok (.lstore 6, 2) := by decide +kernel
theorem dX7_common_39 : decode cX7_common 39 = .ok (.goto (-22), 3) := by decide +kernel
theorem dX7_common_42 : decode cX7_common 42 = .ok (.lload 4, 2) := by decide +kernel
theorem dX7_common_44 : decode cX7_common 44 = .ok (.lreturn, 1) := by decide +kernel
theorem dX7_told_0 : decode cX7_told 0 = .ok (.lload_n 2, 1) := by decide +kernel
theorem dX7_told_1 : decode cX7_told 1 = .ok (.lload_n 0, 1) := by decide +kernel
theorem dX7_told_2 : decode cX7_told 2 = .ok (.invokestatic 228, 3) := by decide +kernel
theorem dX7_told_5 : decode cX7_told 5 = .ok (.lstore 5, 2) := by decide +kernel
theorem dX7_told_7 : decode cX7_told 7 = .ok (.iload 4, 2) := by decide +kernel
theorem dX7_told_9 : decode cX7_told 9 = .ok (.ifCond .ne 10, 3) := by decide +kernel
theorem dX7_told_12 : decode cX7_told 12 = .ok (.lload_n 0, 1) := by decide +kernel
theorem dX7_told_13 : decode cX7_told 13 = .ok (.lload 5, 2) := by decide +kernel
theorem dX7_told_15 : decode cX7_told 15 = .ok (.ldiv, 1) := by decide +kernel
theorem dX7_told_16 : decode cX7_told 16 = .ok (.goto 7, 3) := by decide +kernel
theorem dX7_told_19 : decode cX7_told 19 = .ok (.lload_n 2, 1) := by decide +kernel
theorem dX7_told_20 : decode cX7_told 20 = .ok (.lload 5, 2) := by decide +kernel
theorem dX7_told_22 : decode cX7_told 22 = .ok (.ldiv, 1) := by decide +kernel
theorem dX7_told_23 : decode cX7_told 23 = .ok (.lreturn, 1) := by decide +kernel
theorem dX7_orders_0 : decode cX7_orders 0 = .ok (.lconst 1, 1) := by decide +kernel
theorem dX7_orders_1 : decode cX7_orders 1 = .ok (.lstore_n 1, 1) := by decide +kernel
theorem dX7_orders_2 : decode cX7_orders 2 = .ok (.iconst 2, 1) := by decide +kernel
theorem dX7_orders_3 : decode cX7_orders 3 = .ok (.istore_n 3, 1) := by decide +kernel
theorem dX7_orders_4 : decode cX7_orders 4 = .ok (.iload_n 3, 1) := by decide +kernel
theorem dX7_orders_5 : decode cX7_orders 5 = .ok (.iload_n 0, 1) := by decide +kernel
theorem dX7_orders_6 : decode cX7_orders 6 = .ok (.if_icmp .gt 14, 3) := by decide +kernel
theorem dX7_orders_9 : decode cX7_orders 9 = .ok (.lload_n 1, 1) := by decide +kernel
theorem dX7_orders_10 : decode cX7_orders 10 = .ok (.iload_n 3, 1) := by decide +kernel
theorem dX7_orders_11 : decode cX7_orders 11 = .ok (.i2l, 1) := by decide +kernel
theorem dX7_orders_12 : decode cX7_orders 12 = .ok (.lmul, 1) := by decide +kernel
theorem dX7_orders_13 : decode cX7_orders 13 = .ok (.lstore_n 1, 1) := by decide +kernel
theorem dX7_orders_14 : decode cX7_orders 14 = .ok (.iinc 3 1, 3) := by decide +kernel
theorem dX7_orders_17 : decode cX7_orders 17 = .ok (.goto (-13), 3) := by decide +kernel
theorem dX7_orders_20 : decode cX7_orders 20 = .ok (.lload_n 1, 1) := by decide +kernel
theorem dX7_orders_21 : decode cX7_orders 21 = .ok (.lreturn, 1) := by decide +kernel
theorem dX7_share_0 : decode cX7_share 0 = .ok (.aload_n 0, 1) := by decide +kernel
theorem dX7_share_1 : decode cX7_share 1 = .ok (.iload_n 1, 1) := by decide +kernel
theorem dX7_share_2 : decode cX7_share 2 = .ok (.invokevirtual 176, 3) := by decide +kernel
theorem dX7_share_5 : decode cX7_share 5 = .ok (.ifCond .eq 22, 3) := by decide +kernel
theorem dX7_share_8 : decode cX7_share 8 = .ok (.iload_n 2, 1) := by decide +kernel
theorem dX7_share_9 : decode cX7_share 9 = .ok (.i2l, 1) := by decide +kernel
theorem dX7_share_10 : decode cX7_share 10 = .ok (.lconst 0, 1) := by decide +kernel
theorem dX7_share_11 : decode cX7_share 11 = .ok (.ldc2_w 192, 3) := by decide +kernel
theorem dX7_share_14 : decode cX7_share 14 = .ok (.invokestatic 72, 3) := by decide +kernel
theorem dX7_share_17 : decode cX7_share 17 = .ok (.ifCond .eq 10, 3) := by decide +kernel
theorem dX7_share_20 : decode cX7_share 20 = .ok (.iload_n 3, 1) := by decide +kernel
theorem dX7_share_21 : decode cX7_share 21 = .ok (.invokestatic 182, 3) := by decide +kernel
theorem dX7_share_24 : decode cX7_share 24 = .ok (.ifCond .ne 7, 3) := by decide +kernel
theorem dX7_share_27 : decode cX7_share 27 = .ok (.ldc2_w 232, 3) := by decide +kernel
theorem dX7_share_30 : decode cX7_share 30 = .ok (.lreturn, 1) := by decide +kernel
theorem dX7_share_31 : decode cX7_share 31 = .ok (.lconst 0, 1) := by decide +kernel
theorem dX7_share_32 : decode cX7_share 32 = .ok (.lstore 4, 2) := by decide +kernel
theorem dX7_share_34 : decode cX7_share 34 = .ok (.iconst 0, 1) := by decide +kernel
theorem dX7_share_35 : decode cX7_share 35 = .ok (.istore 6, 2) := by decide +kernel
theorem dX7_share_37 : decode cX7_share 37 = .ok (.iload 6, 2) := by decide +kernel
theorem dX7_share_39 : decode cX7_share 39 = .ok (.iconst 1, 1) := by decide +kernel
theorem dX7_share_40 : decode cX7_share 40 = .ok (.aload_n 0, 1) := by decide +kernel
theorem dX7_share_41 : decode cX7_share 41 = .ok (.getfield 67, 3) := by decide +kernel
theorem dX7_share_44 : decode cX7_share 44 = .ok (.ishl, 1) := by decide +kernel
theorem dX7_share_45 : decode cX7_share 45 = .ok (.if_icmp .ge 69, 3) := by decide +kernel
theorem dX7_share_48 : decode cX7_share 48 = .ok (.iload 6, 2) := by decide +kernel
theorem dX7_share_50 : decode cX7_share 50 = .ok (.iload_n 1, 1) := by decide +kernel
theorem dX7_share_51 : decode cX7_share 51 = .ok (.ishr, 1) := by decide +kernel
theorem dX7_share_52 : decode cX7_share 52 = .ok (.iconst 1, 1) := by decide +kernel
theorem dX7_share_53 : decode cX7_share 53 = .ok (.iand, 1) := by decide +kernel
theorem dX7_share_54 : decode cX7_share 54 = .ok (.ifCond .ne 54, 3) := by decide +kernel
theorem dX7_share_57 : decode cX7_share 57 = .ok (.iload 6, 2) := by decide +kernel
theorem dX7_share_59 : decode cX7_share 59 = .ok (.invokestatic 219, 3) := by decide +kernel
theorem dX7_share_62 : decode cX7_share 62 = .ok (.istore 7, 2) := by decide +kernel
theorem dX7_share_64 : decode cX7_share 64 = .ok (.lload 4, 2) := by decide +kernel
theorem dX7_share_66 : decode cX7_share 66 = .ok (.aload_n 0, 1) := by decide +kernel
theorem dX7_share_67 : decode cX7_share 67 = .ok (.iload 6, 2) := by decide +kernel
theorem dX7_share_69 : decode cX7_share 69 = .ok (.iconst 1, 1) := by decide +kernel
theorem dX7_share_70 : decode cX7_share 70 = .ok (.iload_n 1, 1) := by decide +kernel
theorem dX7_share_71 : decode cX7_share 71 = .ok (.ishl, 1) := by decide +kernel
theorem dX7_share_72 : decode cX7_share 72 = .ok (.ior, 1) := by decide +kernel
theorem dX7_share_73 : decode cX7_share 73 = .ok (.iload_n 2, 1) := by decide +kernel
theorem dX7_share_74 : decode cX7_share 74 = .ok (.invokevirtual 225, 3) := by decide +kernel
theorem dX7_share_77 : decode cX7_share 77 = .ok (.aload_n 0, 1) := by decide +kernel
theorem dX7_share_78 : decode cX7_share 78 = .ok (.iload 6, 2) := by decide +kernel
theorem dX7_share_80 : decode cX7_share 80 = .ok (.iload_n 2, 1) := by decide +kernel
theorem dX7_share_81 : decode cX7_share 81 = .ok (.invokevirtual 225, 3) := by decide +kernel
theorem dX7_share_84 : decode cX7_share 84 = .ok (.isub, 1) := by decide +kernel
theorem dX7_share_85 : decode cX7_share 85 = .ok (.i2l, 1) := by decide +kernel
theorem dX7_share_86 : decode cX7_share 86 = .ok (.iload 7, 2) := by decide +kernel
theorem dX7_share_88 : decode cX7_share 88 = .ok (.invokestatic 234, 3) := by decide +kernel
theorem dX7_share_91 : decode cX7_share 91 = .ok (.lmul, 1) := by decide +kernel
theorem dX7_share_92 : decode cX7_share 92 = .ok (.aload_n 0, 1) := by decide +kernel
theorem dX7_share_93 : decode cX7_share 93 = .ok (.getfield 67, 3) := by decide +kernel
theorem dX7_share_96 : decode cX7_share 96 = .ok (.iconst 1, 1) := by decide +kernel
theorem dX7_share_97 : decode cX7_share 97 = .ok (.isub, 1) := by decide +kernel
theorem dX7_share_98 : decode cX7_share 98 = .ok (.iload 7, 2) := by decide +kernel
theorem dX7_share_100 : decode cX7_share 100 = .ok (.isub, 1) := by decide +kernel
theorem dX7_share_101 : decode cX7_share 101 = .ok (.invokestatic 234, 3) := by decide +kernel
theorem dX7_share_104 : decode cX7_share 104 = .ok (.lmul, 1) := by decide +kernel
theorem dX7_share_105 : decode cX7_share 105 = .ok (.ladd, 1) := by decide +kernel
theorem dX7_share_106 : decode cX7_share 106 = .ok (.lstore 4, 2) := by decide +kernel
theorem dX7_share_108 : decode cX7_share 108 = .ok (.iinc 6 1, 3) := by decide +kernel
theorem dX7_share_111 : decode cX7_share 111 = .ok (.goto (-74), 3) := by decide +kernel
theorem dX7_share_114 : decode cX7_share 114 = .ok (.lload 4, 2) := by decide +kernel
theorem dX7_share_116 : decode cX7_share 116 = .ok (.aload_n 0, 1) := by decide +kernel
theorem dX7_share_117 : decode cX7_share 117 = .ok (.getfield 67, 3) := by decide +kernel
theorem dX7_share_120 : decode cX7_share 120 = .ok (.invokestatic 234, 3) := by decide +kernel
theorem dX7_share_123 : decode cX7_share 123 = .ok (.iload_n 3, 1) := by decide +kernel
theorem dX7_share_124 : decode cX7_share 124 = .ok (.invokestatic 238, 3) := by decide +kernel
theorem dX7_share_127 : decode cX7_share 127 = .ok (.lreturn, 1) := by decide +kernel
theorem dX7_findOdds_0 : decode cX7_findOdds 0 = .ok (.aload_n 0, 1) := by decide +kernel
theorem dX7_findOdds_1 : decode cX7_findOdds 1 = .ok (.lconst 0, 1) := by decide +kernel
theorem dX7_findOdds_2 : decode cX7_findOdds 2 = .ok (.putfield 242, 3) := by decide +kernel
theorem dX7_findOdds_5 : decode cX7_findOdds 5 = .ok (.aload_n 0, 1) := by decide +kernel
theorem dX7_findOdds_6 : decode cX7_findOdds 6 = .ok (.lconst 0, 1) := by decide +kernel
theorem dX7_findOdds_7 : decode cX7_findOdds 7 = .ok (.putfield 246, 3) := by decide +kernel
theorem dX7_findOdds_10 : decode cX7_findOdds 10 = .ok (.aload_n 0, 1) := by decide +kernel
theorem dX7_findOdds_11 : decode cX7_findOdds 11 = .ok (.lconst 1, 1) := by decide +kernel
theorem dX7_findOdds_12 : decode cX7_findOdds 12 = .ok (.putfield 249, 3) := by decide +kernel
theorem dX7_findOdds_15 : decode cX7_findOdds 15 = .ok (.iconst 0, 1) := by decide +kernel
theorem dX7_findOdds_16 : decode cX7_findOdds 16 = .ok (.istore_n 3, 1) := by decide +kernel
theorem dX7_findOdds_17 : decode cX7_findOdds 17 = .ok (.iload_n 3, 1) := by decide +kernel
theorem dX7_findOdds_18 : decode cX7_findOdds 18 = .ok (.aload_n 0, 1) := by decide +kernel
theorem dX7_findOdds_19 : decode cX7_findOdds 19 = .ok (.getfield 67, 3) := by decide +kernel
theorem dX7_findOdds_22 : decode cX7_findOdds 22 = .ok (.if_icmp .ge 21, 3) := by decide +kernel
theorem dX7_findOdds_25 : decode cX7_findOdds 25 = .ok (.aload_n 0, 1) := by decide +kernel
theorem dX7_findOdds_26 : decode cX7_findOdds 26 = .ok (.dup, 1) := by decide +kernel
theorem dX7_findOdds_27 : decode cX7_findOdds 27 = .ok (.getfield 249, 3) := by decide +kernel
theorem dX7_findOdds_30 : decode cX7_findOdds 30 = .ok (.ldc2_w 252, 3) := by decide +kernel
theorem dX7_findOdds_33 : decode cX7_findOdds 33 = .ok (.lmul, 1) := by decide +kernel
theorem dX7_findOdds_34 : decode cX7_findOdds 34 = .ok (.putfield 249, 3) := by decide +kernel
theorem dX7_findOdds_37 : decode cX7_findOdds 37 = .ok (.iinc 3 1, 3) := by decide +kernel
theorem dX7_findOdds_40 : decode cX7_findOdds 40 = .ok (.goto (-23), 3) := by decide +kernel
theorem dX7_findOdds_43 : decode cX7_findOdds 43 = .ok (.iconst 0, 1) := by decide +kernel
theorem dX7_findOdds_44 : decode cX7_findOdds 44 = .ok (.istore_n 3, 1) := by decide +kernel
theorem dX7_findOdds_45 : decode cX7_findOdds 45 = .ok (.iload_n 3, 1) := by decide +kernel
theorem dX7_findOdds_46 : decode cX7_findOdds 46 = .ok (.iconst 1, 1) := by decide +kernel
theorem dX7_findOdds_47 : decode cX7_findOdds 47 = .ok (.aload_n 0, 1) := by decide +kernel
theorem dX7_findOdds_48 : decode cX7_findOdds 48 = .ok (.getfield 67, 3) := by decide +kernel
theorem dX7_findOdds_51 : decode cX7_findOdds 51 = .ok (.ishl, 1) := by decide +kernel
theorem dX7_findOdds_52 : decode cX7_findOdds 52 = .ok (.if_icmp .ge 152, 3) := by decide +kernel
theorem dX7_findOdds_55 : decode cX7_findOdds 55 = .ok (.lconst 1, 1) := by decide +kernel
theorem dX7_findOdds_56 : decode cX7_findOdds 56 = .ok (.lstore 4, 2) := by decide +kernel
theorem dX7_findOdds_58 : decode cX7_findOdds 58 = .ok (.aload_n 0, 1) := by decide +kernel
theorem dX7_findOdds_59 : decode cX7_findOdds 59 = .ok (.invokevirtual 170, 3) := by decide +kernel
theorem dX7_findOdds_62 : decode cX7_findOdds 62 = .ok (.iconst 0, 1) := by decide +kernel
theorem dX7_findOdds_63 : decode cX7_findOdds 63 = .ok (.istore 6, 2) := by decide +kernel
theorem dX7_findOdds_65 : decode cX7_findOdds 65 = .ok (.iload 6, 2) := by decide +kernel
theorem dX7_findOdds_67 : decode cX7_findOdds 67 = .ok (.aload_n 0, 1) := by decide +kernel
theorem dX7_findOdds_68 : decode cX7_findOdds 68 = .ok (.getfield 67, 3) := by decide +kernel
theorem dX7_findOdds_71 : decode cX7_findOdds 71 = .ok (.if_icmp .ge 73, 3) := by decide +kernel
theorem dX7_findOdds_74 : decode cX7_findOdds 74 = .ok (.iload_n 3, 1) := by decide +kernel
theorem dX7_findOdds_75 : decode cX7_findOdds 75 = .ok (.iload 6, 2) := by decide +kernel
theorem dX7_findOdds_77 : decode cX7_findOdds 77 = .ok (.ishr, 1) := by decide +kernel
theorem dX7_findOdds_78 : decode cX7_findOdds 78 = .ok (.iconst 1, 1) := by decide +kernel
theorem dX7_findOdds_79 : decode cX7_findOdds 79 = .ok (.iand, 1) := by decide +kernel
theorem dX7_findOdds_80 : decode cX7_findOdds 80 = .ok (.iconst 1, 1) := by decide +kernel
theorem dX7_findOdds_81 : decode cX7_findOdds 81 = .ok (.if_icmp .ne 7, 3) := by decide +kernel
theorem dX7_findOdds_84 : decode cX7_findOdds 84 = .ok (.iconst 1, 1) := by decide +kernel
theorem dX7_findOdds_85 : decode cX7_findOdds 85 = .ok (.goto 4, 3) := by decide +kernel
theorem dX7_findOdds_88 : decode cX7_findOdds 88 = .ok (.iconst 0, 1) := by decide +kernel
theorem dX7_findOdds_89 : decode cX7_findOdds 89 = .ok (.istore 7, 2) := by decide +kernel
theorem dX7_findOdds_91 : decode cX7_findOdds 91 = .ok (.lload 4, 2) := by decide +kernel
theorem dX7_findOdds_93 : decode cX7_findOdds 93 = .ok (.iload 7, 2) := by decide +kernel
theorem dX7_findOdds_95 : decode cX7_findOdds 95 = .ok (.ifCond .eq 8, 3) := by decide +kernel
theorem dX7_findOdds_98 : decode cX7_findOdds 98 = .ok (.iload_n 1, 1) := by decide +kernel
theorem dX7_findOdds_99 : decode cX7_findOdds 99 = .ok (.i2l, 1) := by decide +kernel
theorem dX7_findOdds_100 : decode cX7_findOdds 100 = .ok (.goto 8, 3) := by decide +kernel
theorem dX7_findOdds_103 : decode cX7_findOdds 103 = .ok (.bipush 10, 2) := by decide +kernel
theorem dX7_findOdds_105 : decode cX7_findOdds 105 = .ok (.iload_n 1, 1) := by decide +kernel
theorem dX7_findOdds_106 : decode cX7_findOdds 106 = .ok (.isub, 1) := by decide +kernel
theorem dX7_findOdds_107 : decode cX7_findOdds 107 = .ok (.i2l, 1) := by decide +kernel
theorem dX7_findOdds_108 : decode cX7_findOdds 108 = .ok (.lmul, 1) := by decide +kernel
theorem dX7_findOdds_109 : decode cX7_findOdds 109 = .ok (.lstore 4, 2) := by decide +kernel
theorem dX7_findOdds_111 : decode cX7_findOdds 111 = .ok (.aload_n 0, 1) := by decide +kernel
theorem dX7_findOdds_112 : decode cX7_findOdds 112 = .ok (.getfield 13, 3) := by decide +kernel
theorem dX7_findOdds_115 : decode cX7_findOdds 115 = .ok (.iconst 0, 1) := by decide +kernel
theorem dX7_findOdds_116 : decode cX7_findOdds 116 = .ok (.iload 6, 2) := by decide +kernel
theorem dX7_findOdds_118 : decode cX7_findOdds 118 = .ok (.iadd, 1) := by decide +kernel
theorem dX7_findOdds_119 : decode cX7_findOdds 119 = .ok (.iload 7, 2) := by decide +kernel
theorem dX7_findOdds_121 : decode cX7_findOdds 121 = .ok (.ifCond .eq 7, 3) := by decide +kernel
theorem dX7_findOdds_124 : decode cX7_findOdds 124 = .ok (.iconst 2, 1) := by decide +kernel
theorem dX7_findOdds_125 : decode cX7_findOdds 125 = .ok (.goto 12, 3) := by decide +kernel
theorem dX7_findOdds_128 : decode cX7_findOdds 128 = .ok (.aload_n 0, 1) := by decide +kernel
theorem dX7_findOdds_129 : decode cX7_findOdds 129 = .ok (.getfield 13, 3) := by decide +kernel
theorem dX7_findOdds_132 : decode cX7_findOdds 132 = .ok (.iconst 0, 1) := by decide +kernel
theorem dX7_findOdds_133 : decode cX7_findOdds 133 = .ok (.iload 6, 2) := by decide +kernel
theorem dX7_findOdds_135 : decode cX7_findOdds 135 = .ok (.iadd, 1) := by decide +kernel
theorem dX7_findOdds_136 : decode cX7_findOdds 136 = .ok (.iaload, 1) := by decide +kernel
theorem dX7_findOdds_137 : decode cX7_findOdds 137 = .ok (.iastore, 1) := by decide +kernel
theorem dX7_findOdds_138 : decode cX7_findOdds 138 = .ok (.iinc 6 1, 3) := by decide +kernel
theorem dX7_findOdds_141 : decode cX7_findOdds 141 = .ok (.goto (-76), 3) := by decide +kernel
theorem dX7_findOdds_144 : decode cX7_findOdds 144 = .ok (.aload_n 0, 1) := by decide +kernel
theorem dX7_findOdds_145 : decode cX7_findOdds 145 = .ok (.iload_n 2, 1) := by decide +kernel
theorem dX7_findOdds_146 : decode cX7_findOdds 146 = .ok (.invokevirtual 212, 3) := by decide +kernel
theorem dX7_findOdds_149 : decode cX7_findOdds 149 = .ok (.istore 6, 2) := by decide +kernel
theorem dX7_findOdds_151 : decode cX7_findOdds 151 = .ok (.aload_n 0, 1) := by decide +kernel
theorem dX7_findOdds_152 : decode cX7_findOdds 152 = .ok (.dup, 1) := by decide +kernel
theorem dX7_findOdds_153 : decode cX7_findOdds 153 = .ok (.getfield 242, 3) := by decide +kernel
theorem dX7_findOdds_156 : decode cX7_findOdds 156 = .ok (.aload_n 0, 1) := by decide +kernel
theorem dX7_findOdds_157 : decode cX7_findOdds 157 = .ok (.getfield 13, 3) := by decide +kernel
theorem dX7_findOdds_160 : decode cX7_findOdds 160 = .ok (.bipush 20, 2) := by decide +kernel
theorem dX7_findOdds_162 : decode cX7_findOdds 162 = .ok (.iaload, 1) := by decide +kernel
theorem dX7_findOdds_163 : decode cX7_findOdds 163 = .ok (.aload_n 0, 1) := by decide +kernel
theorem dX7_findOdds_164 : decode cX7_findOdds 164 = .ok (.getfield 7, 3) := by decide +kernel
theorem dX7_findOdds_167 : decode cX7_findOdds 167 = .ok (.bipush 20, 2) := by decide +kernel
theorem dX7_findOdds_169 : decode cX7_findOdds 169 = .ok (.iaload, 1) := by decide +kernel
theorem dX7_findOdds_170 : decode cX7_findOdds 170 = .ok (.if_icmp .ne 8, 3) := by decide +kernel
theorem dX7_findOdds_173 : decode cX7_findOdds 173 = .ok (.lload 4, 2) := by decide +kernel
theorem dX7_findOdds_175 : decode cX7_findOdds 175 = .ok (.goto 4, 3) := by decide +kernel
theorem dX7_findOdds_178 : decode cX7_findOdds 178 = .ok (.lconst 0, 1) := by decide +kernel
theorem dX7_findOdds_179 : decode cX7_findOdds 179 = .ok (.ladd, 1) := by decide +kernel
theorem dX7_findOdds_180 : decode cX7_findOdds 180 = .ok (.putfield 242, 3) := by decide +kernel
theorem dX7_findOdds_183 : decode cX7_findOdds 183 = .ok (.aload_n 0, 1) := by decide +kernel
theorem dX7_findOdds_184 : decode cX7_findOdds 184 = .ok (.dup, 1) := by decide +kernel
theorem dX7_findOdds_185 : decode cX7_findOdds 185 = .ok (.getfield 246, 3) := by decide +kernel
theorem dX7_findOdds_188 : decode cX7_findOdds 188 = .ok (.lload 4, 2) := by decide +kernel
theorem dX7_findOdds_190 : decode cX7_findOdds 190 = .ok (.iload 6, 2) := by decide +kernel
theorem dX7_findOdds_192 : decode cX7_findOdds 192 = .ok (.i2l, 1) := by decide +kernel
theorem dX7_findOdds_193 : decode cX7_findOdds 193 = .ok (.lmul, 1) := by decide +kernel
theorem dX7_findOdds_194 : decode cX7_findOdds 194 = .ok (.ladd, 1) := by decide +kernel
theorem dX7_findOdds_195 : decode cX7_findOdds 195 = .ok (.putfield 246, 3) := by decide +kernel
theorem dX7_findOdds_198 : decode cX7_findOdds 198 = .ok (.iinc 3 1, 3) := by decide +kernel
theorem dX7_findOdds_201 : decode cX7_findOdds 201 = .ok (.goto (-156), 3) := by decide +kernel
theorem dX7_findOdds_204 : decode cX7_findOdds 204 = .ok (.return_, 1) := by decide +kernel
theorem dX7_luck_0 : decode cX7_luck 0 = .ok (.iload_n 1, 1) := by decide +kernel
theorem dX7_luck_1 : decode cX7_luck 1 = .ok (.i2l, 1) := by decide +kernel
theorem dX7_luck_2 : decode cX7_luck 2 = .ok (.lconst 0, 1) := by decide +kernel
theorem dX7_luck_3 : decode cX7_luck 3 = .ok (.ldc2_w 252, 3) := by decide +kernel
theorem dX7_luck_6 : decode cX7_luck 6 = .ok (.invokestatic 72, 3) := by decide +kernel
theorem dX7_luck_9 : decode cX7_luck 9 = .ok (.ifCond .eq 22, 3) := by decide +kernel
theorem dX7_luck_12 : decode cX7_luck 12 = .ok (.iload_n 2, 1) := by decide +kernel
theorem dX7_luck_13 : decode cX7_luck 13 = .ok (.i2l, 1) := by decide +kernel
theorem dX7_luck_14 : decode cX7_luck 14 = .ok (.lconst 0, 1) := by decide +kernel
theorem dX7_luck_15 : decode cX7_luck 15 = .ok (.ldc2_w 192, 3) := by decide +kernel
theorem dX7_luck_18 : decode cX7_luck 18 = .ok (.invokestatic 72, 3) := by decide +kernel
theorem dX7_luck_21 : decode cX7_luck 21 = .ok (.ifCond .eq 10, 3) := by decide +kernel
theorem dX7_luck_24 : decode cX7_luck 24 = .ok (.iload_n 3, 1) := by decide +kernel
theorem dX7_luck_25 : decode cX7_luck 25 = .ok (.invokestatic 182, 3) := by decide +kernel
theorem dX7_luck_28 : decode cX7_luck 28 = .ok (.ifCond .ne 7, 3) := by decide +kernel
theorem dX7_luck_31 : decode cX7_luck 31 = .ok (.ldc2_w 232, 3) := by decide +kernel
theorem dX7_luck_34 : decode cX7_luck 34 = .ok (.lreturn, 1) := by decide +kernel
theorem dX7_luck_35 : decode cX7_luck 35 = .ok (.aload_n 0, 1) := by decide +kernel
theorem dX7_luck_36 : decode cX7_luck 36 = .ok (.iload_n 1, 1) := by decide +kernel
theorem dX7_luck_37 : decode cX7_luck 37 = .ok (.iload_n 2, 1) := by decide +kernel
theorem dX7_luck_38 : decode cX7_luck 38 = .ok (.invokevirtual 254, 3) := by decide +kernel
theorem dX7_luck_41 : decode cX7_luck 41 = .ok (.aload_n 0, 1) := by decide +kernel
theorem dX7_luck_42 : decode cX7_luck 42 = .ok (.getfield 242, 3) := by decide +kernel
theorem dX7_luck_45 : decode cX7_luck 45 = .ok (.aload_n 0, 1) := by decide +kernel
theorem dX7_luck_46 : decode cX7_luck 46 = .ok (.getfield 249, 3) := by decide +kernel
theorem dX7_luck_49 : decode cX7_luck 49 = .ok (.iload_n 3, 1) := by decide +kernel
theorem dX7_luck_50 : decode cX7_luck 50 = .ok (.invokestatic 238, 3) := by decide +kernel
theorem dX7_luck_53 : decode cX7_luck 53 = .ok (.lreturn, 1) := by decide +kernel
theorem dX7_mean_0 : decode cX7_mean 0 = .ok (.iload_n 1, 1) := by decide +kernel
theorem dX7_mean_1 : decode cX7_mean 1 = .ok (.i2l, 1) := by decide +kernel
theorem dX7_mean_2 : decode cX7_mean 2 = .ok (.lconst 0, 1) := by decide +kernel
theorem dX7_mean_3 : decode cX7_mean 3 = .ok (.ldc2_w 252, 3) := by decide +kernel
theorem dX7_mean_6 : decode cX7_mean 6 = .ok (.invokestatic 72, 3) := by decide +kernel
theorem dX7_mean_9 : decode cX7_mean 9 = .ok (.ifCond .eq 22, 3) := by decide +kernel
theorem dX7_mean_12 : decode cX7_mean 12 = .ok (.iload_n 2, 1) := by decide +kernel
theorem dX7_mean_13 : decode cX7_mean 13 = .ok (.i2l, 1) := by decide +kernel
theorem dX7_mean_14 : decode cX7_mean 14 = .ok (.lconst 0, 1) := by decide +kernel
theorem dX7_mean_15 : decode cX7_mean 15 = .ok (.ldc2_w 192, 3) := by decide +kernel
theorem dX7_mean_18 : decode cX7_mean 18 = .ok (.invokestatic 72, 3) := by decide +kernel
theorem dX7_mean_21 : decode cX7_mean 21 = .ok (.ifCond .eq 10, 3) := by decide +kernel
theorem dX7_mean_24 : decode cX7_mean 24 = .ok (.iload_n 3, 1) := by decide +kernel
theorem dX7_mean_25 : decode cX7_mean 25 = .ok (.invokestatic 182, 3) := by decide +kernel
theorem dX7_mean_28 : decode cX7_mean 28 = .ok (.ifCond .ne 7, 3) := by decide +kernel
theorem dX7_mean_31 : decode cX7_mean 31 = .ok (.ldc2_w 232, 3) := by decide +kernel
theorem dX7_mean_34 : decode cX7_mean 34 = .ok (.lreturn, 1) := by decide +kernel
theorem dX7_mean_35 : decode cX7_mean 35 = .ok (.aload_n 0, 1) := by decide +kernel
theorem dX7_mean_36 : decode cX7_mean 36 = .ok (.iload_n 1, 1) := by decide +kernel
theorem dX7_mean_37 : decode cX7_mean 37 = .ok (.iload_n 2, 1) := by decide +kernel
theorem dX7_mean_38 : decode cX7_mean 38 = .ok (.invokevirtual 254, 3) := by decide +kernel
theorem dX7_mean_41 : decode cX7_mean 41 = .ok (.aload_n 0, 1) := by decide +kernel
theorem dX7_mean_42 : decode cX7_mean 42 = .ok (.getfield 246, 3) := by decide +kernel
theorem dX7_mean_45 : decode cX7_mean 45 = .ok (.aload_n 0, 1) := by decide +kernel
theorem dX7_mean_46 : decode cX7_mean 46 = .ok (.getfield 249, 3) := by decide +kernel
theorem dX7_mean_49 : decode cX7_mean 49 = .ok (.iload_n 3, 1) := by decide +kernel
theorem dX7_mean_50 : decode cX7_mean 50 = .ok (.invokestatic 238, 3) := by decide +kernel
theorem dX7_mean_53 : decode cX7_mean 53 = .ok (.lreturn, 1) := by decide +kernel
theorem dX7_see_0 : decode cX7_see 0 = .ok (.aload_n 0, 1) := by decide +kernel
theorem dX7_see_1 : decode cX7_see 1 = .ok (.iload_n 1, 1) := by decide +kernel
theorem dX7_see_2 : decode cX7_see 2 = .ok (.invokevirtual 176, 3) := by decide +kernel
theorem dX7_see_5 : decode cX7_see 5 = .ok (.ifCond .eq 27, 3) := by decide +kernel
theorem dX7_see_8 : decode cX7_see 8 = .ok (.iload_n 2, 1) := by decide +kernel
theorem dX7_see_9 : decode cX7_see 9 = .ok (.i2l, 1) := by decide +kernel
theorem dX7_see_10 : decode cX7_see 10 = .ok (.lconst 1, 1) := by decide +kernel
theorem dX7_see_11 : decode cX7_see 11 = .ok (.ldc2_w 194, 3) := by decide +kernel
theorem dX7_see_14 : decode cX7_see 14 = .ok (.invokestatic 72, 3) := by decide +kernel
theorem dX7_see_17 : decode cX7_see 17 = .ok (.ifCond .eq 15, 3) := by decide +kernel
theorem dX7_see_20 : decode cX7_see 20 = .ok (.iload_n 3, 1) := by decide +kernel
theorem dX7_see_21 : decode cX7_see 21 = .ok (.i2l, 1) := by decide +kernel
theorem dX7_see_22 : decode cX7_see 22 = .ok (.lconst 0, 1) := by decide +kernel
theorem dX7_see_23 : decode cX7_see 23 = .ok (.ldc2_w 187, 3) := by decide +kernel
theorem dX7_see_26 : decode cX7_see 26 = .ok (.invokestatic 72, 3) := by decide +kernel
theorem dX7_see_29 : decode cX7_see 29 = .ok (.ifCond .ne 5, 3) := by decide +kernel
theorem dX7_see_32 : decode cX7_see 32 = .ok (.iconst (-1), 1) := by decide +kernel
theorem dX7_see_33 : decode cX7_see 33 = .ok (.ireturn, 1) := by decide +kernel
theorem dX7_see_34 : decode cX7_see 34 = .ok (.aload_n 0, 1) := by decide +kernel
theorem dX7_see_35 : decode cX7_see 35 = .ok (.getfield 7, 3) := by decide +kernel
theorem dX7_see_38 : decode cX7_see 38 = .ok (.bipush 22, 2) := by decide +kernel
theorem dX7_see_40 : decode cX7_see 40 = .ok (.iaload, 1) := by decide +kernel
theorem dX7_see_41 : decode cX7_see 41 = .ok (.bipush 6, 2) := by decide +kernel
theorem dX7_see_43 : decode cX7_see 43 = .ok (.if_icmp .ne 6, 3) := by decide +kernel
theorem dX7_see_46 : decode cX7_see 46 = .ok (.bipush (-3), 2) := by decide +kernel
theorem dX7_see_48 : decode cX7_see 48 = .ok (.ireturn, 1) := by decide +kernel
theorem dX7_see_49 : decode cX7_see 49 = .ok (.bipush 23, 2) := by decide +kernel
theorem dX7_see_51 : decode cX7_see 51 = .ok (.iconst 3, 1) := by decide +kernel
theorem dX7_see_52 : decode cX7_see 52 = .ok (.aload_n 0, 1) := by decide +kernel
theorem dX7_see_53 : decode cX7_see 53 = .ok (.getfield 7, 3) := by decide +kernel
theorem dX7_see_56 : decode cX7_see 56 = .ok (.bipush 22, 2) := by decide +kernel
theorem dX7_see_58 : decode cX7_see 58 = .ok (.iaload, 1) := by decide +kernel
theorem dX7_see_59 : decode cX7_see 59 = .ok (.imul, 1) := by decide +kernel
theorem dX7_see_60 : decode cX7_see 60 = .ok (.iadd, 1) := by decide +kernel
theorem dX7_see_61 : decode cX7_see 61 = .ok (.istore 4, 2) := by decide +kernel
theorem dX7_see_63 : decode cX7_see 63 = .ok (.aload_n 0, 1) := by decide +kernel
theorem dX7_see_64 : decode cX7_see 64 = .ok (.getfield 7, 3) := by decide +kernel
theorem dX7_see_67 : decode cX7_see 67 = .ok (.iload 4, 2) := by decide +kernel
theorem dX7_see_69 : decode cX7_see 69 = .ok (.iload_n 1, 1) := by decide +kernel
theorem dX7_see_70 : decode cX7_see 70 = .ok (.iastore, 1) := by decide +kernel
theorem dX7_see_71 : decode cX7_see 71 = .ok (.aload_n 0, 1) := by decide +kernel
theorem dX7_see_72 : decode cX7_see 72 = .ok (.getfield 7, 3) := by decide +kernel
theorem dX7_see_75 : decode cX7_see 75 = .ok (.iload 4, 2) := by decide +kernel
theorem dX7_see_77 : decode cX7_see 77 = .ok (.iconst 1, 1) := by decide +kernel
theorem dX7_see_78 : decode cX7_see 78 = .ok (.iadd, 1) := by decide +kernel
theorem dX7_see_79 : decode cX7_see 79 = .ok (.iload_n 2, 1) := by decide +kernel
theorem dX7_see_80 : decode cX7_see 80 = .ok (.iastore, 1) := by decide +kernel
theorem dX7_see_81 : decode cX7_see 81 = .ok (.aload_n 0, 1) := by decide +kernel
theorem dX7_see_82 : decode cX7_see 82 = .ok (.getfield 7, 3) := by decide +kernel
theorem dX7_see_85 : decode cX7_see 85 = .ok (.iload 4, 2) := by decide +kernel
theorem dX7_see_87 : decode cX7_see 87 = .ok (.iconst 2, 1) := by decide +kernel
theorem dX7_see_88 : decode cX7_see 88 = .ok (.iadd, 1) := by decide +kernel
theorem dX7_see_89 : decode cX7_see 89 = .ok (.iload_n 3, 1) := by decide +kernel
theorem dX7_see_90 : decode cX7_see 90 = .ok (.iastore, 1) := by decide +kernel
theorem dX7_see_91 : decode cX7_see 91 = .ok (.aload_n 0, 1) := by decide +kernel
theorem dX7_see_92 : decode cX7_see 92 = .ok (.getfield 7, 3) := by decide +kernel
theorem dX7_see_95 : decode cX7_see 95 = .ok (.bipush 22, 2) := by decide +kernel
theorem dX7_see_97 : decode cX7_see 97 = .ok (.dup2, 1) := by decide +kernel
theorem dX7_see_98 : decode cX7_see 98 = .ok (.iaload, 1) := by decide +kernel
theorem dX7_see_99 : decode cX7_see 99 = .ok (.iconst 1, 1) := by decide +kernel
theorem dX7_see_100 : decode cX7_see 100 = .ok (.iadd, 1) := by decide +kernel
theorem dX7_see_101 : decode cX7_see 101 = .ok (.iastore, 1) := by decide +kernel
theorem dX7_see_102 : decode cX7_see 102 = .ok (.aload_n 0, 1) := by decide +kernel
theorem dX7_see_103 : decode cX7_see 103 = .ok (.getfield 7, 3) := by decide +kernel
theorem dX7_see_106 : decode cX7_see 106 = .ok (.bipush 22, 2) := by decide +kernel
theorem dX7_see_108 : decode cX7_see 108 = .ok (.iaload, 1) := by decide +kernel
theorem dX7_see_109 : decode cX7_see 109 = .ok (.ireturn, 1) := by decide +kernel
theorem dX7_forget_0 : decode cX7_forget 0 = .ok (.iload_n 1, 1) := by decide +kernel
theorem dX7_forget_1 : decode cX7_forget 1 = .ok (.i2l, 1) := by decide +kernel
theorem dX7_forget_2 : decode cX7_forget 2 = .ok (.lconst 0, 1) := by decide +kernel
theorem dX7_forget_3 : decode cX7_forget 3 = .ok (.aload_n 0, 1) := by decide +kernel
theorem dX7_forget_4 : decode cX7_forget 4 = .ok (.getfield 7, 3) := by decide +kernel
theorem dX7_forget_7 : decode cX7_forget 7 = .ok (.bipush 22, 2) := by decide +kernel
theorem dX7_forget_9 : decode cX7_forget 9 = .ok (.iaload, 1) := by decide +kernel
theorem dX7_forget_10 : decode cX7_forget 10 = .ok (.i2l, 1) := by decide +kernel
theorem dX7_forget_11 : decode cX7_forget 11 = .ok (.invokestatic 72, 3) := by decide +kernel
theorem dX7_forget_14 : decode cX7_forget 14 = .ok (.ifCond .eq 13, 3) := by decide +kernel
theorem dX7_forget_17 : decode cX7_forget 17 = .ok (.aload_n 0, 1) := by decide +kernel
theorem dX7_forget_18 : decode cX7_forget 18 = .ok (.bipush 22, 2) := by decide +kernel
theorem dX7_forget_20 : decode cX7_forget 20 = .ok (.iload_n 1, 1) := by decide +kernel
theorem dX7_forget_21 : decode cX7_forget 21 = .ok (.invokevirtual 189, 3) := by decide +kernel
theorem dX7_forget_24 : decode cX7_forget 24 = .ok (.goto 4, 3) := by decide +kernel
theorem dX7_forget_27 : decode cX7_forget 27 = .ok (.iconst (-1), 1) := by decide +kernel
theorem dX7_forget_28 : decode cX7_forget 28 = .ok (.ireturn, 1) := by decide +kernel
theorem dX7_isFit_0 : decode cX7_isFit 0 = .ok (.iconst 1, 1) := by decide +kernel
theorem dX7_isFit_1 : decode cX7_isFit 1 = .ok (.istore_n 2, 1) := by decide +kernel
theorem dX7_isFit_2 : decode cX7_isFit 2 = .ok (.aload_n 0, 1) := by decide +kernel
theorem dX7_isFit_3 : decode cX7_isFit 3 = .ok (.iload_n 1, 1) := by decide +kernel
theorem dX7_isFit_4 : decode cX7_isFit 4 = .ok (.invokevirtual 209, 3) := by decide +kernel
theorem dX7_isFit_7 : decode cX7_isFit 7 = .ok (.iconst 1, 1) := by decide +kernel
theorem dX7_isFit_8 : decode cX7_isFit 8 = .ok (.istore_n 3, 1) := by decide +kernel
theorem dX7_isFit_9 : decode cX7_isFit 9 = .ok (.iload_n 3, 1) := by decide +kernel
theorem dX7_isFit_10 : decode cX7_isFit 10 = .ok (.bipush 9, 2) := by decide +kernel
theorem dX7_isFit_12 : decode cX7_isFit 12 = .ok (.if_icmp .gt 52, 3) := by decide +kernel
theorem dX7_isFit_15 : decode cX7_isFit 15 = .ok (.aload_n 0, 1) := by decide +kernel
theorem dX7_isFit_16 : decode cX7_isFit 16 = .ok (.invokevirtual 164, 3) := by decide +kernel
theorem dX7_isFit_19 : decode cX7_isFit 19 = .ok (.iconst 0, 1) := by decide +kernel
theorem dX7_isFit_20 : decode cX7_isFit 20 = .ok (.istore 4, 2) := by decide +kernel
theorem dX7_isFit_22 : decode cX7_isFit 22 = .ok (.iload 4, 2) := by decide +kernel
theorem dX7_isFit_24 : decode cX7_isFit 24 = .ok (.aload_n 0, 1) := by decide +kernel
theorem dX7_isFit_25 : decode cX7_isFit 25 = .ok (.getfield 67, 3) := by decide +kernel
theorem dX7_isFit_28 : decode cX7_isFit 28 = .ok (.if_icmp .ge 30, 3) := by decide +kernel
theorem dX7_isFit_31 : decode cX7_isFit 31 = .ok (.aload_n 0, 1) := by decide +kernel
theorem dX7_isFit_32 : decode cX7_isFit 32 = .ok (.getfield 29, 3) := by decide +kernel
theorem dX7_isFit_35 : decode cX7_isFit 35 = .ok (.bipush 10, 2) := by decide +kernel
theorem dX7_isFit_37 : decode cX7_isFit 37 = .ok (.iload 4, 2) := by decide +kernel
theorem dX7_isFit_39 : decode cX7_isFit 39 = .ok (.imul, 1) := by decide +kernel
theorem dX7_isFit_40 : decode cX7_isFit 40 = .ok (.iload_n 3, 1) := by decide +kernel
theorem dX7_isFit_41 : decode cX7_isFit 41 = .ok (.iadd, 1) := by decide +kernel
theorem dX7_isFit_42 : decode cX7_isFit 42 = .ok (.aload_n 0, 1) := by decide +kernel
theorem dX7_isFit_43 : decode cX7_isFit 43 = .ok (.getfield 13, 3) := by decide +kernel
theorem dX7_isFit_46 : decode cX7_isFit 46 = .ok (.iconst 5, 1) := by decide +kernel
theorem dX7_isFit_47 : decode cX7_isFit 47 = .ok (.iload 4, 2) := by decide +kernel
theorem dX7_isFit_49 : decode cX7_isFit 49 = .ok (.iadd, 1) := by decide +kernel
theorem dX7_isFit_50 : decode cX7_isFit 50 = .ok (.iaload, 1) := by decide +kernel
theorem dX7_isFit_51 : decode cX7_isFit 51 = .ok (.iastore, 1) := by decide +kernel
theorem dX7_isFit_52 : decode cX7_isFit 52 = .ok (.iinc 4 1, 3) := by decide +kernel
theorem dX7_isFit_55 : decode cX7_isFit 55 = .ok (.goto (-33), 3) := by decide +kernel
theorem dX7_isFit_58 : decode cX7_isFit 58 = .ok (.iinc 3 1, 3) := by decide +kernel
theorem dX7_isFit_61 : decode cX7_isFit 61 = .ok (.goto (-52), 3) := by decide +kernel
theorem dX7_isFit_64 : decode cX7_isFit 64 = .ok (.iconst 0, 1) := by decide +kernel
theorem dX7_isFit_65 : decode cX7_isFit 65 = .ok (.istore_n 3, 1) := by decide +kernel
theorem dX7_isFit_66 : decode cX7_isFit 66 = .ok (.iload_n 3, 1) := by decide +kernel
theorem dX7_isFit_67 : decode cX7_isFit 67 = .ok (.aload_n 0, 1) := by decide +kernel
theorem dX7_isFit_68 : decode cX7_isFit 68 = .ok (.getfield 7, 3) := by decide +kernel
theorem dX7_isFit_71 : decode cX7_isFit 71 = .ok (.bipush 22, 2) := by decide +kernel
theorem dX7_isFit_73 : decode cX7_isFit 73 = .ok (.iaload, 1) := by decide +kernel
theorem dX7_isFit_74 : decode cX7_isFit 74 = .ok (.if_icmp .ge 64, 3) := by decide +kernel
theorem dX7_isFit_77 : decode cX7_isFit 77 = .ok (.bipush 23, 2) := by decide +kernel
theorem dX7_isFit_79 : decode cX7_isFit 79 = .ok (.iconst 3, 1) := by decide +kernel
theorem dX7_isFit_80 : decode cX7_isFit 80 = .ok (.iload_n 3, 1) := by decide +kernel
theorem dX7_isFit_81 : decode cX7_isFit 81 = .ok (.imul, 1) := by decide +kernel
theorem dX7_isFit_82 : decode cX7_isFit 82 = .ok (.iadd, 1) := by decide +kernel
theorem dX7_isFit_83 : decode cX7_isFit 83 = .ok (.istore 4, 2) := by decide +kernel
theorem dX7_isFit_85 : decode cX7_isFit 85 = .ok (.iload_n 2, 1) := by decide +kernel
theorem dX7_isFit_86 : decode cX7_isFit 86 = .ok (.ifCond .eq 44, 3) := by decide +kernel
theorem dX7_isFit_89 : decode cX7_isFit 89 = .ok (.aload_n 0, 1) := by decide +kernel
theorem dX7_isFit_90 : decode cX7_isFit 90 = .ok (.getfield 29, 3) := by decide +kernel
theorem dX7_isFit_93 : decode cX7_isFit 93 = .ok (.bipush 10, 2) := by decide +kernel
theorem dX7_isFit_95 : decode cX7_isFit 95 = .ok (.aload_n 0, 1) := by decide +kernel
theorem dX7_isFit_96 : decode cX7_isFit 96 = .ok (.getfield 7, 3) := by decide +kernel
theorem dX7_isFit_99 : decode cX7_isFit 99 = .ok (.iload 4, 2) := by decide +kernel
theorem dX7_isFit_101 : decode cX7_isFit 101 = .ok (.iaload, 1) := by decide +kernel
theorem dX7_isFit_102 : decode cX7_isFit 102 = .ok (.imul, 1) := by decide +kernel
theorem dX7_isFit_103 : decode cX7_isFit 103 = .ok (.aload_n 0, 1) := by decide +kernel
theorem dX7_isFit_104 : decode cX7_isFit 104 = .ok (.getfield 7, 3) := by decide +kernel
theorem dX7_isFit_107 : decode cX7_isFit 107 = .ok (.iload 4, 2) := by decide +kernel
theorem dX7_isFit_109 : decode cX7_isFit 109 = .ok (.iconst 1, 1) := by decide +kernel
theorem dX7_isFit_110 : decode cX7_isFit 110 = .ok (.iadd, 1) := by decide +kernel
theorem dX7_isFit_111 : decode cX7_isFit 111 = .ok (.iaload, 1) := by decide +kernel
theorem dX7_isFit_112 : decode cX7_isFit 112 = .ok (.iadd, 1) := by decide +kernel
theorem dX7_isFit_113 : decode cX7_isFit 113 = .ok (.iaload, 1) := by decide +kernel
theorem dX7_isFit_114 : decode cX7_isFit 114 = .ok (.aload_n 0, 1) := by decide +kernel
theorem dX7_isFit_115 : decode cX7_isFit 115 = .ok (.getfield 7, 3) := by decide +kernel
theorem dX7_isFit_118 : decode cX7_isFit 118 = .ok (.iload 4, 2) := by decide +kernel
theorem dX7_isFit_120 : decode cX7_isFit 120 = .ok (.iconst 2, 1) := by decide +kernel
theorem dX7_isFit_121 : decode cX7_isFit 121 = .ok (.iadd, 1) := by decide +kernel
theorem dX7_isFit_122 : decode cX7_isFit 122 = .ok (.iaload, 1) := by decide +kernel
theorem dX7_isFit_123 : decode cX7_isFit 123 = .ok (.if_icmp .ne 7, 3) := by decide +kernel
theorem dX7_isFit_126 : decode cX7_isFit 126 = .ok (.iconst 1, 1) := by decide +kernel
theorem dX7_isFit_127 : decode cX7_isFit 127 = .ok (.goto 4, 3) := by decide +kernel
theorem dX7_isFit_130 : decode cX7_isFit 130 = .ok (.iconst 0, 1) := by decide +kernel
theorem dX7_isFit_131 : decode cX7_isFit 131 = .ok (.istore_n 2, 1) := by decide +kernel
theorem dX7_isFit_132 : decode cX7_isFit 132 = .ok (.iinc 3 1, 3) := by decide +kernel
theorem dX7_isFit_135 : decode cX7_isFit 135 = .ok (.goto (-69), 3) := by decide +kernel
theorem dX7_isFit_138 : decode cX7_isFit 138 = .ok (.iload_n 2, 1) := by decide +kernel
theorem dX7_isFit_139 : decode cX7_isFit 139 = .ok (.ireturn, 1) := by decide +kernel
theorem dX7_fits_0 : decode cX7_fits 0 = .ok (.iload_n 1, 1) := by decide +kernel
theorem dX7_fits_1 : decode cX7_fits 1 = .ok (.invokestatic 182, 3) := by decide +kernel
theorem dX7_fits_4 : decode cX7_fits 4 = .ok (.ifCond .ne 16, 3) := by decide +kernel
theorem dX7_fits_7 : decode cX7_fits 7 = .ok (.aload_n 0, 1) := by decide +kernel
theorem dX7_fits_8 : decode cX7_fits 8 = .ok (.iload_n 1, 1) := by decide +kernel
theorem dX7_fits_9 : decode cX7_fits 9 = .ok (.bipush 10, 2) := by decide +kernel
theorem dX7_fits_11 : decode cX7_fits 11 = .ok (.isub, 1) := by decide +kernel
theorem dX7_fits_12 : decode cX7_fits 12 = .ok (.invokevirtual 176, 3) := by decide +kernel
theorem dX7_fits_15 : decode cX7_fits 15 = .ok (.ifCond .ne 5, 3) := by decide +kernel
theorem dX7_fits_18 : decode cX7_fits 18 = .ok (.iconst (-1), 1) := by decide +kernel
theorem dX7_fits_19 : decode cX7_fits 19 = .ok (.ireturn, 1) := by decide +kernel
theorem dX7_fits_20 : decode cX7_fits 20 = .ok (.iconst 0, 1) := by decide +kernel
theorem dX7_fits_21 : decode cX7_fits 21 = .ok (.istore_n 2, 1) := by decide +kernel
theorem dX7_fits_22 : decode cX7_fits 22 = .ok (.bipush (-4), 2) := by decide +kernel
theorem dX7_fits_24 : decode cX7_fits 24 = .ok (.istore_n 3, 1) := by decide +kernel
theorem dX7_fits_25 : decode cX7_fits 25 = .ok (.iconst 0, 1) := by decide +kernel
theorem dX7_fits_26 : decode cX7_fits 26 = .ok (.istore 4, 2) := by decide +kernel
theorem dX7_fits_28 : decode cX7_fits 28 = .ok (.iconst 0, 1) := by decide +kernel
theorem dX7_fits_29 : decode cX7_fits 29 = .ok (.istore 5, 2) := by decide +kernel
theorem dX7_fits_31 : decode cX7_fits 31 = .ok (.iload 5, 2) := by decide +kernel
theorem dX7_fits_33 : decode cX7_fits 33 = .ok (.aload_n 0, 1) := by decide +kernel
theorem dX7_fits_34 : decode cX7_fits 34 = .ok (.invokevirtual 206, 3) := by decide +kernel
theorem dX7_fits_37 : decode cX7_fits 37 = .ok (.if_icmp .ge 60, 3) := by decide +kernel
theorem dX7_fits_40 : decode cX7_fits 40 = .ok (.aload_n 0, 1) := by decide +kernel
theorem dX7_fits_41 : decode cX7_fits 41 = .ok (.iload 5, 2) := by decide +kernel
theorem dX7_fits_43 : decode cX7_fits 43 = .ok (.invokevirtual 257, 3) := by decide +kernel
theorem dX7_fits_46 : decode cX7_fits 46 = .ok (.ifCond .eq 45, 3) := by decide +kernel
theorem dX7_fits_49 : decode cX7_fits 49 = .ok (.iload_n 2, 1) := by decide +kernel
theorem dX7_fits_50 : decode cX7_fits 50 = .ok (.ifCond .ne 8, 3) := by decide +kernel
theorem dX7_fits_53 : decode cX7_fits 53 = .ok (.iload 5, 2) := by decide +kernel
theorem dX7_fits_55 : decode cX7_fits 55 = .ok (.goto 4, 3) := by decide +kernel
theorem dX7_fits_58 : decode cX7_fits 58 = .ok (.iload_n 3, 1) := by decide +kernel
theorem dX7_fits_59 : decode cX7_fits 59 = .ok (.istore_n 3, 1) := by decide +kernel
theorem dX7_fits_60 : decode cX7_fits 60 = .ok (.iload 4, 2) := by decide +kernel
theorem dX7_fits_62 : decode cX7_fits 62 = .ok (.iload_n 1, 1) := by decide +kernel
theorem dX7_fits_63 : decode cX7_fits 63 = .ok (.bipush 10, 2) := by decide +kernel
theorem dX7_fits_65 : decode cX7_fits 65 = .ok (.if_icmp .ge 7, 3) := by decide +kernel
theorem dX7_fits_68 : decode cX7_fits 68 = .ok (.iconst 0, 1) := by decide +kernel
theorem dX7_fits_69 : decode cX7_fits 69 = .ok (.goto 16, 3) := by decide +kernel
theorem dX7_fits_72 : decode cX7_fits 72 = .ok (.iconst 1, 1) := by decide +kernel
theorem dX7_fits_73 : decode cX7_fits 73 = .ok (.aload_n 0, 1) := by decide +kernel
theorem dX7_fits_74 : decode cX7_fits 74 = .ok (.getfield 13, 3) := by decide +kernel
theorem dX7_fits_77 : decode cX7_fits 77 = .ok (.iconst 0, 1) := by decide +kernel
theorem dX7_fits_78 : decode cX7_fits 78 = .ok (.iload_n 1, 1) := by decide +kernel
theorem dX7_fits_79 : decode cX7_fits 79 = .ok (.iadd, 1) := by decide +kernel
theorem dX7_fits_80 : decode cX7_fits 80 = .ok (.bipush 10, 2) := by decide +kernel
theorem dX7_fits_82 : decode cX7_fits 82 = .ok (.isub, 1) := by decide +kernel
theorem dX7_fits_83 : decode cX7_fits 83 = .ok (.iaload, 1) := by decide +kernel
theorem dX7_fits_84 : decode cX7_fits 84 = .ok (.ishl, 1) := by decide +kernel
theorem dX7_fits_85 : decode cX7_fits 85 = .ok (.ior, 1) := by decide +kernel
theorem dX7_fits_86 : decode cX7_fits 86 = .ok (.istore 4, 2) := by decide +kernel
theorem dX7_fits_88 : decode cX7_fits 88 = .ok (.iinc 2 1, 3) := by decide +kernel
theorem dX7_fits_91 : decode cX7_fits 91 = .ok (.iinc 5 1, 3) := by decide +kernel
theorem dX7_fits_94 : decode cX7_fits 94 = .ok (.goto (-63), 3) := by decide +kernel
theorem dX7_fits_97 : decode cX7_fits 97 = .ok (.iload_n 1, 1) := by decide +kernel
theorem dX7_fits_98 : decode cX7_fits 98 = .ok (.ifCond .ne 7, 3) := by decide +kernel
theorem dX7_fits_101 : decode cX7_fits 101 = .ok (.iload_n 2, 1) := by decide +kernel
theorem dX7_fits_102 : decode cX7_fits 102 = .ok (.goto 14, 3) := by decide +kernel
theorem dX7_fits_105 : decode cX7_fits 105 = .ok (.iload_n 1, 1) := by decide +kernel
theorem dX7_fits_106 : decode cX7_fits 106 = .ok (.iconst 1, 1) := by decide +kernel
theorem dX7_fits_107 : decode cX7_fits 107 = .ok (.if_icmp .ne 7, 3) := by decide +kernel
theorem dX7_fits_110 : decode cX7_fits 110 = .ok (.iload_n 3, 1) := by decide +kernel
theorem dX7_fits_111 : decode cX7_fits 111 = .ok (.goto 5, 3) := by decide +kernel
theorem dX7_fits_114 : decode cX7_fits 114 = .ok (.iload 4, 2) := by decide +kernel
theorem dX7_fits_116 : decode cX7_fits 116 = .ok (.ireturn, 1) := by decide +kernel
theorem dX7_look_0 : decode cX7_look 0 = .ok (.iload_n 1, 1) := by decide +kernel
theorem dX7_look_1 : decode cX7_look 1 = .ok (.invokestatic 182, 3) := by decide +kernel
theorem dX7_look_4 : decode cX7_look 4 = .ok (.ifCond .ne 5, 3) := by decide +kernel
theorem dX7_look_7 : decode cX7_look 7 = .ok (.iconst (-1), 1) := by decide +kernel
theorem dX7_look_8 : decode cX7_look 8 = .ok (.ireturn, 1) := by decide +kernel
theorem dX7_look_9 : decode cX7_look 9 = .ok (.iconst 0, 1) := by decide +kernel
theorem dX7_look_10 : decode cX7_look 10 = .ok (.istore_n 2, 1) := by decide +kernel
theorem dX7_look_11 : decode cX7_look 11 = .ok (.bipush (-4), 2) := by decide +kernel
theorem dX7_look_13 : decode cX7_look 13 = .ok (.istore_n 3, 1) := by decide +kernel
theorem dX7_look_14 : decode cX7_look 14 = .ok (.iconst 0, 1) := by decide +kernel
theorem dX7_look_15 : decode cX7_look 15 = .ok (.istore 4, 2) := by decide +kernel
theorem dX7_look_17 : decode cX7_look 17 = .ok (.iload 4, 2) := by decide +kernel
theorem dX7_look_19 : decode cX7_look 19 = .ok (.sipush 5000, 3) := by decide +kernel
theorem dX7_look_22 : decode cX7_look 22 = .ok (.if_icmp .ge 17, 3) := by decide +kernel
theorem dX7_look_25 : decode cX7_look 25 = .ok (.aload_n 0, 1) := by decide +kernel
theorem dX7_look_26 : decode cX7_look 26 = .ok (.getfield 32, 3) := by decide +kernel
theorem dX7_look_29 : decode cX7_look 29 = .ok (.iload 4, 2) := by decide +kernel
theorem dX7_look_31 : decode cX7_look 31 = .ok (.iconst 0, 1) := by decide +kernel
theorem dX7_look_32 : decode cX7_look 32 = .ok (.iastore, 1) := by decide +kernel
theorem dX7_look_33 : decode cX7_look 33 = .ok (.iinc 4 1, 3) := by decide +kernel
theorem dX7_look_36 : decode cX7_look 36 = .ok (.goto (-19), 3) := by decide +kernel
theorem dX7_look_39 : decode cX7_look 39 = .ok (.iconst 0, 1) := by decide +kernel
theorem dX7_look_40 : decode cX7_look 40 = .ok (.istore 4, 2) := by decide +kernel
theorem dX7_look_42 : decode cX7_look 42 = .ok (.iload 4, 2) := by decide +kernel
theorem dX7_look_44 : decode cX7_look 44 = .ok (.aload_n 0, 1) := by decide +kernel
theorem dX7_look_45 : decode cX7_look 45 = .ok (.invokevirtual 206, 3) := by decide +kernel
theorem dX7_look_48 : decode cX7_look 48 = .ok (.if_icmp .ge 89, 3) := by decide +kernel
theorem dX7_look_51 : decode cX7_look 51 = .ok (.aload_n 0, 1) := by decide +kernel
theorem dX7_look_52 : decode cX7_look 52 = .ok (.iload 4, 2) := by decide +kernel
theorem dX7_look_54 : decode cX7_look 54 = .ok (.invokevirtual 257, 3) := by decide +kernel
theorem dX7_look_57 : decode cX7_look 57 = .ok (.ifCond .eq 74, 3) := by decide +kernel
theorem dX7_look_60 : decode cX7_look 60 = .ok (.iinc 2 1, 3) := by decide +kernel
theorem dX7_look_63 : decode cX7_look 63 = .ok (.iconst 0, 1) := by decide +kernel
theorem dX7_look_64 : decode cX7_look 64 = .ok (.istore 5, 2) := by decide +kernel
theorem dX7_look_66 : decode cX7_look 66 = .ok (.iload 5, 2) := by decide +kernel
theorem dX7_look_68 : decode cX7_look 68 = .ok (.aload_n 0, 1) := by decide +kernel
theorem dX7_look_69 : decode cX7_look 69 = .ok (.getfield 67, 3) := by decide +kernel
theorem dX7_look_72 : decode cX7_look 72 = .ok (.if_icmp .ge 59, 3) := by decide +kernel
theorem dX7_look_75 : decode cX7_look 75 = .ok (.iconst 1, 1) := by decide +kernel
theorem dX7_look_76 : decode cX7_look 76 = .ok (.istore 6, 2) := by decide +kernel
theorem dX7_look_78 : decode cX7_look 78 = .ok (.iload 6, 2) := by decide +kernel
theorem dX7_look_80 : decode cX7_look 80 = .ok (.bipush 9, 2) := by decide +kernel
theorem dX7_look_82 : decode cX7_look 82 = .ok (.if_icmp .gt 43, 3) := by decide +kernel
theorem dX7_look_85 : decode cX7_look 85 = .ok (.aload_n 0, 1) := by decide +kernel
theorem dX7_look_86 : decode cX7_look 86 = .ok (.getfield 32, 3) := by decide +kernel
theorem dX7_look_89 : decode cX7_look 89 = .ok (.bipush 100, 2) := by decide +kernel
theorem dX7_look_91 : decode cX7_look 91 = .ok (.bipush 10, 2) := by decide +kernel
theorem dX7_look_93 : decode cX7_look 93 = .ok (.iload 5, 2) := by decide +kernel
theorem dX7_look_95 : decode cX7_look 95 = .ok (.imul, 1) := by decide +kernel
theorem dX7_look_96 : decode cX7_look 96 = .ok (.iload 6, 2) := by decide +kernel
theorem dX7_look_98 : decode cX7_look 98 = .ok (.iadd, 1) := by decide +kernel
theorem dX7_look_99 : decode cX7_look 99 = .ok (.imul, 1) := by decide +kernel
theorem dX7_look_100 : decode cX7_look 100 = .ok (.aload_n 0, 1) := by decide +kernel
theorem dX7_look_101 : decode cX7_look 101 = .ok (.getfield 29, 3) := by decide +kernel
theorem dX7_look_104 : decode cX7_look 104 = .ok (.bipush 10, 2) := by decide +kernel
theorem dX7_look_106 : decode cX7_look 106 = .ok (.iload 5, 2) := by decide +kernel
theorem dX7_look_108 : decode cX7_look 108 = .ok (.imul, 1) := by decide +kernel
theorem dX7_look_109 : decode cX7_look 109 = .ok (.iload 6, 2) := by decide +kernel
theorem dX7_look_111 : decode cX7_look 111 = .ok (.iadd, 1) := by decide +kernel
theorem dX7_look_112 : decode cX7_look 112 = .ok (.iaload, 1) := by decide +kernel
theorem dX7_look_113 : decode cX7_look 113 = .ok (.iadd, 1) := by decide +kernel
theorem dX7_look_114 : decode cX7_look 114 = .ok (.dup2, 1) := by decide +kernel
theorem dX7_look_115 : decode cX7_look 115 = .ok (.iaload, 1) := by decide +kernel
theorem dX7_look_116 : decode cX7_look 116 = .ok (.iconst 1, 1) := by decide +kernel
theorem dX7_look_117 : decode cX7_look 117 = .ok (.iadd, 1) := by decide +kernel
theorem dX7_look_118 : decode cX7_look 118 = .ok (.iastore, 1) := by decide +kernel
theorem dX7_look_119 : decode cX7_look 119 = .ok (.iinc 6 1, 3) := by decide +kernel
theorem dX7_look_122 : decode cX7_look 122 = .ok (.goto (-44), 3) := by decide +kernel
theorem dX7_look_125 : decode cX7_look 125 = .ok (.iinc 5 1, 3) := by decide +kernel
theorem dX7_look_128 : decode cX7_look 128 = .ok (.goto (-62), 3) := by decide +kernel
theorem dX7_look_131 : decode cX7_look 131 = .ok (.iinc 4 1, 3) := by decide +kernel
theorem dX7_look_134 : decode cX7_look 134 = .ok (.goto (-92), 3) := by decide +kernel
theorem dX7_look_137 : decode cX7_look 137 = .ok (.iconst 0, 1) := by decide +kernel
theorem dX7_look_138 : decode cX7_look 138 = .ok (.istore 4, 2) := by decide +kernel
theorem dX7_look_140 : decode cX7_look 140 = .ok (.iload 4, 2) := by decide +kernel
theorem dX7_look_142 : decode cX7_look 142 = .ok (.aload_n 0, 1) := by decide +kernel
theorem dX7_look_143 : decode cX7_look 143 = .ok (.getfield 67, 3) := by decide +kernel
theorem dX7_look_146 : decode cX7_look 146 = .ok (.if_icmp .ge 107, 3) := by decide +kernel
theorem dX7_look_149 : decode cX7_look 149 = .ok (.iconst 1, 1) := by decide +kernel
theorem dX7_look_150 : decode cX7_look 150 = .ok (.istore 5, 2) := by decide +kernel
theorem dX7_look_152 : decode cX7_look 152 = .ok (.iload 5, 2) := by decide +kernel
theorem dX7_look_154 : decode cX7_look 154 = .ok (.bipush 9, 2) := by decide +kernel
theorem dX7_look_156 : decode cX7_look 156 = .ok (.if_icmp .gt 91, 3) := by decide +kernel
theorem dX7_look_159 : decode cX7_look 159 = .ok (.iconst 0, 1) := by decide +kernel
theorem dX7_look_160 : decode cX7_look 160 = .ok (.istore 6, 2) := by decide +kernel
theorem dX7_look_162 : decode cX7_look 162 = .ok (.iconst 0, 1) := by decide +kernel
theorem dX7_look_163 : decode cX7_look 163 = .ok (.istore 7, 2) := by decide +kernel
theorem dX7_look_165 : decode cX7_look 165 = .ok (.iload 7, 2) := by decide +kernel
theorem dX7_look_167 : decode cX7_look 167 = .ok (.bipush 99, 2) := by decide +kernel
theorem dX7_look_169 : decode cX7_look 169 = .ok (.if_icmp .gt 46, 3) := by decide +kernel
theorem dX7_look_172 : decode cX7_look 172 = .ok (.aload_n 0, 1) := by decide +kernel
theorem dX7_look_173 : decode cX7_look 173 = .ok (.getfield 32, 3) := by decide +kernel
theorem dX7_look_176 : decode cX7_look 176 = .ok (.bipush 100, 2) := by decide +kernel
theorem dX7_look_178 : decode cX7_look 178 = .ok (.bipush 10, 2) := by decide +kernel
theorem dX7_look_180 : decode cX7_look 180 = .ok (.iload 4, 2) := by decide +kernel
theorem dX7_look_182 : decode cX7_look 182 = .ok (.imul, 1) := by decide +kernel
theorem dX7_look_183 : decode cX7_look 183 = .ok (.iload 5, 2) := by decide +kernel
theorem dX7_look_185 : decode cX7_look 185 = .ok (.iadd, 1) := by decide +kernel
theorem dX7_look_186 : decode cX7_look 186 = .ok (.imul, 1) := by decide +kernel
theorem dX7_look_187 : decode cX7_look 187 = .ok (.iload 7, 2) := by decide +kernel
theorem dX7_look_189 : decode cX7_look 189 = .ok (.iadd, 1) := by decide +kernel
theorem dX7_look_190 : decode cX7_look 190 = .ok (.iaload, 1) := by decide +kernel
theorem dX7_look_191 : decode cX7_look 191 = .ok (.istore 8, 2) := by decide +kernel
theorem dX7_look_193 : decode cX7_look 193 = .ok (.iload 8, 2) := by decide +kernel
theorem dX7_look_195 : decode cX7_look 195 = .ok (.iload 6, 2) := by decide +kernel
theorem dX7_look_197 : decode cX7_look 197 = .ok (.if_icmp .le 8, 3) := by decide +kernel
theorem dX7_look_200 : decode cX7_look 200 = .ok (.iload 8, 2) := by decide +kernel
theorem dX7_look_202 : decode cX7_look 202 = .ok (.goto 5, 3) := by decide +kernel
theorem dX7_look_205 : decode cX7_look 205 = .ok (.iload 6, 2) := by decide +kernel
theorem dX7_look_207 : decode cX7_look 207 = .ok (.istore 6, 2) := by decide +kernel
theorem dX7_look_209 : decode cX7_look 209 = .ok (.iinc 7 1, 3) := by decide +kernel
theorem dX7_look_212 : decode cX7_look 212 = .ok (.goto (-47), 3) := by decide +kernel
theorem dX7_look_215 : decode cX7_look 215 = .ok (.iload 6, 2) := by decide +kernel
theorem dX7_look_217 : decode cX7_look 217 = .ok (.iload_n 2, 1) := by decide +kernel
theorem dX7_look_218 : decode cX7_look 218 = .ok (.if_icmp .ge 14, 3) := by decide +kernel
theorem dX7_look_221 : decode cX7_look 221 = .ok (.bipush 10, 2) := by decide +kernel
theorem dX7_look_223 : decode cX7_look 223 = .ok (.iload 4, 2) := by decide +kernel
theorem dX7_look_225 : decode cX7_look 225 = .ok (.imul, 1) := by decide +kernel
theorem dX7_look_226 : decode cX7_look 226 = .ok (.iload 5, 2) := by decide +kernel
theorem dX7_look_228 : decode cX7_look 228 = .ok (.iadd, 1) := by decide +kernel
theorem dX7_look_229 : decode cX7_look 229 = .ok (.goto 4, 3) := by decide +kernel
theorem dX7_look_232 : decode cX7_look 232 = .ok (.iload_n 3, 1) := by decide +kernel
theorem dX7_look_233 : decode cX7_look 233 = .ok (.istore_n 3, 1) := by decide +kernel
theorem dX7_look_234 : decode cX7_look 234 = .ok (.iload 6, 2) := by decide +kernel
theorem dX7_look_236 : decode cX7_look 236 = .ok (.iload_n 2, 1) := by decide +kernel
theorem dX7_look_237 : decode cX7_look 237 = .ok (.invokestatic 151, 3) := by decide +kernel
theorem dX7_look_240 : decode cX7_look 240 = .ok (.istore_n 2, 1) := by decide +kernel
theorem dX7_look_241 : decode cX7_look 241 = .ok (.iinc 5 1, 3) := by decide +kernel
theorem dX7_look_244 : decode cX7_look 244 = .ok (.goto (-92), 3) := by decide +kernel
theorem dX7_look_247 : decode cX7_look 247 = .ok (.iinc 4 1, 3) := by decide +kernel
theorem dX7_look_250 : decode cX7_look 250 = .ok (.goto (-110), 3) := by decide +kernel
theorem dX7_look_253 : decode cX7_look 253 = .ok (.iload_n 3, 1) := by decide +kernel
theorem dX7_look_254 : decode cX7_look 254 = .ok (.bipush (-4), 2) := by decide +kernel
theorem dX7_look_256 : decode cX7_look 256 = .ok (.if_icmp .ne 8, 3) := by decide +kernel
theorem dX7_look_259 : decode cX7_look 259 = .ok (.bipush (-4), 2) := by decide +kernel
theorem dX7_look_261 : decode cX7_look 261 = .ok (.goto 12, 3) := by decide +kernel
theorem dX7_look_264 : decode cX7_look 264 = .ok (.iload_n 1, 1) := by decide +kernel
theorem dX7_look_265 : decode cX7_look 265 = .ok (.ifCond .ne 7, 3) := by decide +kernel
theorem dX7_look_268 : decode cX7_look 268 = .ok (.iload_n 3, 1) := by decide +kernel
theorem dX7_look_269 : decode cX7_look 269 = .ok (.goto 4, 3) := by decide +kernel
theorem dX7_look_272 : decode cX7_look 272 = .ok (.iload_n 2, 1) := by decide +kernel
theorem dX7_look_273 : decode cX7_look 273 = .ok (.ireturn, 1) := by decide +kernel
theorem dX7_drift_0 : decode cX7_drift 0 = .ok (.iload_n 2, 1) := by decide +kernel
theorem dX7_drift_1 : decode cX7_drift 1 = .ok (.i2l, 1) := by decide +kernel
theorem dX7_drift_2 : decode cX7_drift 2 = .ok (.lconst 1, 1) := by decide +kernel
theorem dX7_drift_3 : decode cX7_drift 3 = .ok (.ldc2_w 260, 3) := by decide +kernel
theorem dX7_drift_6 : decode cX7_drift 6 = .ok (.invokestatic 72, 3) := by decide +kernel
theorem dX7_drift_9 : decode cX7_drift 9 = .ok (.ifCond .eq 10, 3) := by decide +kernel
theorem dX7_drift_12 : decode cX7_drift 12 = .ok (.iload_n 3, 1) := by decide +kernel
theorem dX7_drift_13 : decode cX7_drift 13 = .ok (.invokestatic 182, 3) := by decide +kernel
theorem dX7_drift_16 : decode cX7_drift 16 = .ok (.ifCond .ne 5, 3) := by decide +kernel
theorem dX7_drift_19 : decode cX7_drift 19 = .ok (.iconst (-1), 1) := by decide +kernel
theorem dX7_drift_20 : decode cX7_drift 20 = .ok (.ireturn, 1) := by decide +kernel
theorem dX7_drift_21 : decode cX7_drift 21 = .ok (.aload_n 0, 1) := by decide +kernel
theorem dX7_drift_22 : decode cX7_drift 22 = .ok (.getfield 67, 3) := by decide +kernel
theorem dX7_drift_25 : decode cX7_drift 25 = .ok (.ifCond .ne 6, 3) := by decide +kernel
theorem dX7_drift_28 : decode cX7_drift 28 = .ok (.bipush (-2), 2) := by decide +kernel
theorem dX7_drift_30 : decode cX7_drift 30 = .ok (.ireturn, 1) := by decide +kernel
theorem dX7_drift_31 : decode cX7_drift 31 = .ok (.iload_n 1, 1) := by decide +kernel
theorem dX7_drift_32 : decode cX7_drift 32 = .ok (.istore 4, 2) := by decide +kernel
theorem dX7_drift_34 : decode cX7_drift 34 = .ok (.aload_n 0, 1) := by decide +kernel
theorem dX7_drift_35 : decode cX7_drift 35 = .ok (.invokevirtual 170, 3) := by decide +kernel
theorem dX7_drift_38 : decode cX7_drift 38 = .ok (.iconst 0, 1) := by decide +kernel
theorem dX7_drift_39 : decode cX7_drift 39 = .ok (.istore 5, 2) := by decide +kernel
theorem dX7_drift_41 : decode cX7_drift 41 = .ok (.iload 5, 2) := by decide +kernel
theorem dX7_drift_43 : decode cX7_drift 43 = .ok (.iload_n 2, 1) := by decide +kernel
theorem dX7_drift_44 : decode cX7_drift 44 = .ok (.if_icmp .ge 66, 3) := by decide +kernel
theorem dX7_drift_47 : decode cX7_drift 47 = .ok (.iload 4, 2) := by decide +kernel
theorem dX7_drift_49 : decode cX7_drift 49 = .ok (.ldc_w 262, 3) := by decide +kernel
theorem dX7_drift_52 : decode cX7_drift 52 = .ok (.imul, 1) := by decide +kernel
theorem dX7_drift_53 : decode cX7_drift 53 = .ok (.sipush 12345, 3) := by decide +kernel
theorem dX7_drift_56 : decode cX7_drift 56 = .ok (.iadd, 1) := by decide +kernel
theorem dX7_drift_57 : decode cX7_drift 57 = .ok (.istore 4, 2) := by decide +kernel
theorem dX7_drift_59 : decode cX7_drift 59 = .ok (.iload 4, 2) := by decide +kernel
theorem dX7_drift_61 : decode cX7_drift 61 = .ok (.bipush 16, 2) := by decide +kernel
theorem dX7_drift_63 : decode cX7_drift 63 = .ok (.ishr, 1) := by decide +kernel
theorem dX7_drift_64 : decode cX7_drift 64 = .ok (.sipush 32767, 3) := by decide +kernel
theorem dX7_drift_67 : decode cX7_drift 67 = .ok (.iand, 1) := by decide +kernel
theorem dX7_drift_68 : decode cX7_drift 68 = .ok (.istore 6, 2) := by decide +kernel
theorem dX7_drift_70 : decode cX7_drift 70 = .ok (.iload 6, 2) := by decide +kernel
theorem dX7_drift_72 : decode cX7_drift 72 = .ok (.bipush 8, 2) := by decide +kernel
theorem dX7_drift_74 : decode cX7_drift 74 = .ok (.irem, 1) := by decide +kernel
theorem dX7_drift_75 : decode cX7_drift 75 = .ok (.iconst 1, 1) := by decide +kernel
theorem dX7_drift_76 : decode cX7_drift 76 = .ok (.if_icmp .le 28, 3) := by decide +kernel
theorem dX7_drift_79 : decode cX7_drift 79 = .ok (.aload_n 0, 1) := by decide +kernel
theorem dX7_drift_80 : decode cX7_drift 80 = .ok (.getfield 13, 3) := by decide +kernel
theorem dX7_drift_83 : decode cX7_drift 83 = .ok (.iconst 0, 1) := by decide +kernel
theorem dX7_drift_84 : decode cX7_drift 84 = .ok (.aload_n 0, 1) := by decide +kernel
theorem dX7_drift_85 : decode cX7_drift 85 = .ok (.getfield 13, 3) := by decide +kernel
theorem dX7_drift_88 : decode cX7_drift 88 = .ok (.bipush 15, 2) := by decide +kernel
theorem dX7_drift_90 : decode cX7_drift 90 = .ok (.iaload, 1) := by decide +kernel
theorem dX7_drift_91 : decode cX7_drift 91 = .ok (.iadd, 1) := by decide +kernel
theorem dX7_drift_92 : decode cX7_drift 92 = .ok (.iload 6, 2) := by decide +kernel
theorem dX7_drift_94 : decode cX7_drift 94 = .ok (.bipush 8, 2) := by decide +kernel
theorem dX7_drift_96 : decode cX7_drift 96 = .ok (.idiv, 1) := by decide +kernel
theorem dX7_drift_97 : decode cX7_drift 97 = .ok (.iconst 4, 1) := by decide +kernel
theorem dX7_drift_98 : decode cX7_drift 98 = .ok (.irem, 1) := by decide +kernel
theorem dX7_drift_99 : decode cX7_drift 99 = .ok (.iastore, 1) := by decide +kernel
theorem dX7_drift_100 : decode cX7_drift 100 = .ok (.aload_n 0, 1) := by decide +kernel
theorem dX7_drift_101 : decode cX7_drift 101 = .ok (.invokevirtual 161, 3) := by decide +kernel
theorem dX7_drift_104 : decode cX7_drift 104 = .ok (.iinc 5 1, 3) := by decide +kernel
theorem dX7_drift_107 : decode cX7_drift 107 = .ok (.goto (-66), 3) := by decide +kernel
theorem dX7_drift_110 : decode cX7_drift 110 = .ok (.iload_n 3, 1) := by decide +kernel
theorem dX7_drift_111 : decode cX7_drift 111 = .ok (.ifCond .ne 21, 3) := by decide +kernel
theorem dX7_drift_114 : decode cX7_drift 114 = .ok (.aload_n 0, 1) := by decide +kernel
theorem dX7_drift_115 : decode cX7_drift 115 = .ok (.getfield 13, 3) := by decide +kernel
theorem dX7_drift_118 : decode cX7_drift 118 = .ok (.bipush 20, 2) := by decide +kernel
theorem dX7_drift_120 : decode cX7_drift 120 = .ok (.iaload, 1) := by decide +kernel
theorem dX7_drift_121 : decode cX7_drift 121 = .ok (.aload_n 0, 1) := by decide +kernel
theorem dX7_drift_122 : decode cX7_drift 122 = .ok (.getfield 7, 3) := by decide +kernel
theorem dX7_drift_125 : decode cX7_drift 125 = .ok (.bipush 20, 2) := by decide +kernel
theorem dX7_drift_127 : decode cX7_drift 127 = .ok (.iaload, 1) := by decide +kernel
theorem dX7_drift_128 : decode cX7_drift 128 = .ok (.isub, 1) := by decide +kernel
theorem dX7_drift_129 : decode cX7_drift 129 = .ok (.goto 8, 3) := by decide +kernel
theorem dX7_drift_132 : decode cX7_drift 132 = .ok (.aload_n 0, 1) := by decide +kernel
theorem dX7_drift_133 : decode cX7_drift 133 = .ok (.iconst 5, 1) := by decide +kernel
theorem dX7_drift_134 : decode cX7_drift 134 = .ok (.invokevirtual 173, 3) := by decide +kernel
theorem dX7_drift_137 : decode cX7_drift 137 = .ok (.ireturn, 1) := by decide +kernel
theorem dX7_copies_0 : decode cX7_copies 0 = .ok (.iconst 0, 1) := by decide +kernel
theorem dX7_copies_1 : decode cX7_copies 1 = .ok (.istore_n 3, 1) := by decide +kernel
theorem dX7_copies_2 : decode cX7_copies 2 = .ok (.iload_n 3, 1) := by decide +kernel
theorem dX7_copies_3 : decode cX7_copies 3 = .ok (.bipush 41, 2) := by decide +kernel
theorem dX7_copies_5 : decode cX7_copies 5 = .ok (.if_icmp .ge 25, 3) := by decide +kernel
theorem dX7_copies_8 : decode cX7_copies 8 = .ok (.aload_n 0, 1) := by decide +kernel
theorem dX7_copies_9 : decode cX7_copies 9 = .ok (.getfield 7, 3) := by decide +kernel
theorem dX7_copies_12 : decode cX7_copies 12 = .ok (.iload_n 1, 1) := by decide +kernel
theorem dX7_copies_13 : decode cX7_copies 13 = .ok (.iload_n 3, 1) := by decide +kernel
theorem dX7_copies_14 : decode cX7_copies 14 = .ok (.iadd, 1) := by decide +kernel
theorem dX7_copies_15 : decode cX7_copies 15 = .ok (.aload_n 0, 1) := by decide +kernel
theorem dX7_copies_16 : decode cX7_copies 16 = .ok (.getfield 7, 3) := by decide +kernel
theorem dX7_copies_19 : decode cX7_copies 19 = .ok (.iload_n 2, 1) := by decide +kernel
theorem dX7_copies_20 : decode cX7_copies 20 = .ok (.iload_n 3, 1) := by decide +kernel
theorem dX7_copies_21 : decode cX7_copies 21 = .ok (.iadd, 1) := by decide +kernel
theorem dX7_copies_22 : decode cX7_copies 22 = .ok (.iaload, 1) := by decide +kernel
theorem dX7_copies_23 : decode cX7_copies 23 = .ok (.iastore, 1) := by decide +kernel
theorem dX7_copies_24 : decode cX7_copies 24 = .ok (.iinc 3 1, 3) := by decide +kernel
theorem dX7_copies_27 : decode cX7_copies 27 = .ok (.goto (-25), 3) := by decide +kernel
theorem dX7_copies_30 : decode cX7_copies 30 = .ok (.return_, 1) := by decide +kernel
theorem dX7_keep_0 : decode cX7_keep 0 = .ok (.iload_n 1, 1) := by decide +kernel
theorem dX7_keep_1 : decode cX7_keep 1 = .ok (.i2l, 1) := by decide +kernel
theorem dX7_keep_2 : decode cX7_keep 2 = .ok (.lconst 0, 1) := by decide +kernel
theorem dX7_keep_3 : decode cX7_keep 3 = .ok (.lconst 1, 1) := by decide +kernel
theorem dX7_keep_4 : decode cX7_keep 4 = .ok (.invokestatic 72, 3) := by decide +kernel
theorem dX7_keep_7 : decode cX7_keep 7 = .ok (.ifCond .ne 5, 3) := by decide +kernel
theorem dX7_keep_10 : decode cX7_keep 10 = .ok (.iconst (-1), 1) := by decide +kernel
theorem dX7_keep_11 : decode cX7_keep 11 = .ok (.ireturn, 1) := by decide +kernel
theorem dX7_keep_12 : decode cX7_keep 12 = .ok (.aload_n 0, 1) := by decide +kernel
theorem dX7_keep_13 : decode cX7_keep 13 = .ok (.getfield 16, 3) := by decide +kernel
theorem dX7_keep_16 : decode cX7_keep 16 = .ok (.iload_n 1, 1) := by decide +kernel
theorem dX7_keep_17 : decode cX7_keep 17 = .ok (.baload, 1) := by decide +kernel
theorem dX7_keep_18 : decode cX7_keep 18 = .ok (.invokestatic 215, 3) := by decide +kernel
theorem dX7_keep_21 : decode cX7_keep 21 = .ok (.istore_n 2, 1) := by decide +kernel
theorem dX7_keep_22 : decode cX7_keep 22 = .ok (.aload_n 0, 1) := by decide +kernel
theorem dX7_keep_23 : decode cX7_keep 23 = .ok (.getfield 16, 3) := by decide +kernel
theorem dX7_keep_26 : decode cX7_keep 26 = .ok (.iload_n 1, 1) := by decide +kernel
theorem dX7_keep_27 : decode cX7_keep 27 = .ok (.iconst 1, 1) := by decide +kernel
theorem dX7_keep_28 : decode cX7_keep 28 = .ok (.bastore, 1) := by decide +kernel
theorem dX7_keep_29 : decode cX7_keep 29 = .ok (.aload_n 0, 1) := by decide +kernel
theorem dX7_keep_30 : decode cX7_keep 30 = .ok (.bipush 41, 2) := by decide +kernel
theorem dX7_keep_32 : decode cX7_keep 32 = .ok (.iload_n 1, 1) := by decide +kernel
theorem dX7_keep_33 : decode cX7_keep 33 = .ok (.iconst 1, 1) := by decide +kernel
theorem dX7_keep_34 : decode cX7_keep 34 = .ok (.iadd, 1) := by decide +kernel
theorem dX7_keep_35 : decode cX7_keep 35 = .ok (.imul, 1) := by decide +kernel
theorem dX7_keep_36 : decode cX7_keep 36 = .ok (.iconst 0, 1) := by decide +kernel
theorem dX7_keep_37 : decode cX7_keep 37 = .ok (.invokevirtual 263, 3) := by decide +kernel
theorem dX7_keep_40 : decode cX7_keep 40 = .ok (.iload_n 2, 1) := by decide +kernel
theorem dX7_keep_41 : decode cX7_keep 41 = .ok (.ireturn, 1) := by decide +kernel
theorem dX7_back_0 : decode cX7_back 0 = .ok (.iload_n 1, 1) := by decide +kernel
theorem dX7_back_1 : decode cX7_back 1 = .ok (.i2l, 1) := by decide +kernel
theorem dX7_back_2 : decode cX7_back 2 = .ok (.lconst 0, 1) := by decide +kernel
theorem dX7_back_3 : decode cX7_back 3 = .ok (.lconst 1, 1) := by decide +kernel
theorem dX7_back_4 : decode cX7_back 4 = .ok (.invokestatic 72, 3) := by decide +kernel
theorem dX7_back_7 : decode cX7_back 7 = .ok (.ifCond .ne 5, 3) := by decide +kernel
theorem dX7_back_10 : decode cX7_back 10 = .ok (.iconst (-1), 1) := by decide +kernel
theorem dX7_back_11 : decode cX7_back 11 = .ok (.ireturn, 1) := by decide +kernel
theorem dX7_back_12 : decode cX7_back 12 = .ok (.aload_n 0, 1) := by decide +kernel
theorem dX7_back_13 : decode cX7_back 13 = .ok (.getfield 16, 3) := by decide +kernel
theorem dX7_back_16 : decode cX7_back 16 = .ok (.iload_n 1, 1) := by decide +kernel
theorem dX7_back_17 : decode cX7_back 17 = .ok (.baload, 1) := by decide +kernel
theorem dX7_back_18 : decode cX7_back 18 = .ok (.ifCond .ne 6, 3) := by decide +kernel
theorem dX7_back_21 : decode cX7_back 21 = .ok (.bipush (-2), 2) := by decide +kernel
theorem dX7_back_23 : decode cX7_back 23 = .ok (.ireturn, 1) := by decide +kernel
theorem dX7_back_24 : decode cX7_back 24 = .ok (.aload_n 0, 1) := by decide +kernel
theorem dX7_back_25 : decode cX7_back 25 = .ok (.iconst 0, 1) := by decide +kernel
theorem dX7_back_26 : decode cX7_back 26 = .ok (.bipush 41, 2) := by decide +kernel
theorem dX7_back_28 : decode cX7_back 28 = .ok (.iload_n 1, 1) := by decide +kernel
theorem dX7_back_29 : decode cX7_back 29 = .ok (.iconst 1, 1) := by decide +kernel
theorem dX7_back_30 : decode cX7_back 30 = .ok (.iadd, 1) := by decide +kernel
theorem dX7_back_31 : decode cX7_back 31 = .ok (.imul, 1) := by decide +kernel
theorem dX7_back_32 : decode cX7_back 32 = .ok (.invokevirtual 263, 3) := by decide +kernel
theorem dX7_back_35 : decode cX7_back 35 = .ok (.aload_n 0, 1) := by decide +kernel
theorem dX7_back_36 : decode cX7_back 36 = .ok (.getfield 7, 3) := by decide +kernel
theorem dX7_back_39 : decode cX7_back 39 = .ok (.bipush 19, 2) := by decide +kernel
theorem dX7_back_41 : decode cX7_back 41 = .ok (.iaload, 1) := by decide +kernel
theorem dX7_back_42 : decode cX7_back 42 = .ok (.ireturn, 1) := by decide +kernel
theorem dX7_isSheet_0 : decode cX7_isSheet 0 = .ok (.iload_n 0, 1) := by decide +kernel
theorem dX7_isSheet_1 : decode cX7_isSheet 1 = .ok (.i2l, 1) := by decide +kernel
theorem dX7_isSheet_2 : decode cX7_isSheet 2 = .ok (.lconst 0, 1) := by decide +kernel
theorem dX7_isSheet_3 : decode cX7_isSheet 3 = .ok (.ldc2_w 185, 3) := by decide +kernel
theorem dX7_isSheet_6 : decode cX7_isSheet 6 = .ok (.invokestatic 72, 3) := by decide +kernel
theorem dX7_isSheet_9 : decode cX7_isSheet 9 = .ok (.ifCond .eq 19, 3) := by decide +kernel
theorem dX7_isSheet_12 : decode cX7_isSheet 12 = .ok (.iload_n 1, 1) := by decide +kernel
theorem dX7_isSheet_13 : decode cX7_isSheet 13 = .ok (.i2l, 1) := by decide +kernel
theorem dX7_isSheet_14 : decode cX7_isSheet 14 = .ok (.lconst 0, 1) := by decide +kernel
theorem dX7_isSheet_15 : decode cX7_isSheet 15 = .ok (.ldc2_w 180, 3) := by decide +kernel
theorem dX7_isSheet_18 : decode cX7_isSheet 18 = .ok (.invokestatic 72, 3) := by decide +kernel
theorem dX7_isSheet_21 : decode cX7_isSheet 21 = .ok (.ifCond .eq 7, 3) := by decide +kernel
theorem dX7_isSheet_24 : decode cX7_isSheet 24 = .ok (.iconst 1, 1) := by decide +kernel
theorem dX7_isSheet_25 : decode cX7_isSheet 25 = .ok (.goto 4, 3) := by decide +kernel
theorem dX7_isSheet_28 : decode cX7_isSheet 28 = .ok (.iconst 0, 1) := by decide +kernel
theorem dX7_isSheet_29 : decode cX7_isSheet 29 = .ok (.ireturn, 1) := by decide +kernel
theorem dX7_sheet_0 : decode cX7_sheet 0 = .ok (.iload_n 1, 1) := by decide +kernel
theorem dX7_sheet_1 : decode cX7_sheet 1 = .ok (.iload_n 2, 1) := by decide +kernel
theorem dX7_sheet_2 : decode cX7_sheet 2 = .ok (.invokestatic 266, 3) := by decide +kernel
theorem dX7_sheet_5 : decode cX7_sheet 5 = .ok (.ifCond .eq 9, 3) := by decide +kernel
theorem dX7_sheet_8 : decode cX7_sheet 8 = .ok (.iload_n 3, 1) := by decide +kernel
theorem dX7_sheet_9 : decode cX7_sheet 9 = .ok (.bipush 40, 2) := by decide +kernel
theorem dX7_sheet_11 : decode cX7_sheet 11 = .ok (.if_icmp .le 5, 3) := by decide +kernel
theorem dX7_sheet_14 : decode cX7_sheet 14 = .ok (.iconst (-1), 1) := by decide +kernel
theorem dX7_sheet_15 : decode cX7_sheet 15 = .ok (.ireturn, 1) := by decide +kernel
theorem dX7_sheet_16 : decode cX7_sheet 16 = .ok (.iload_n 3, 1) := by decide +kernel
theorem dX7_sheet_17 : decode cX7_sheet 17 = .ok (.ifCond .ge 6, 3) := by decide +kernel
theorem dX7_sheet_20 : decode cX7_sheet 20 = .ok (.bipush (-14), 2) := by decide +kernel
theorem dX7_sheet_22 : decode cX7_sheet 22 = .ok (.ireturn, 1) := by decide +kernel
theorem dX7_sheet_23 : decode cX7_sheet 23 = .ok (.aload_n 0, 1) := by decide +kernel
theorem dX7_sheet_24 : decode cX7_sheet 24 = .ok (.getfield 35, 3) := by decide +kernel
theorem dX7_sheet_27 : decode cX7_sheet 27 = .ok (.iload_n 1, 1) := by decide +kernel
theorem dX7_sheet_28 : decode cX7_sheet 28 = .ok (.iload_n 2, 1) := by decide +kernel
theorem dX7_sheet_29 : decode cX7_sheet 29 = .ok (.iastore, 1) := by decide +kernel
theorem dX7_sheet_30 : decode cX7_sheet 30 = .ok (.aload_n 0, 1) := by decide +kernel
theorem dX7_sheet_31 : decode cX7_sheet 31 = .ok (.getfield 38, 3) := by decide +kernel
theorem dX7_sheet_34 : decode cX7_sheet 34 = .ok (.iload_n 1, 1) := by decide +kernel
theorem dX7_sheet_35 : decode cX7_sheet 35 = .ok (.iload_n 3, 1) := by decide +kernel
theorem dX7_sheet_36 : decode cX7_sheet 36 = .ok (.iastore, 1) := by decide +kernel
theorem dX7_sheet_37 : decode cX7_sheet 37 = .ok (.iconst 0, 1) := by decide +kernel
theorem dX7_sheet_38 : decode cX7_sheet 38 = .ok (.istore 4, 2) := by decide +kernel
theorem dX7_sheet_40 : decode cX7_sheet 40 = .ok (.iload 4, 2) := by decide +kernel
theorem dX7_sheet_42 : decode cX7_sheet 42 = .ok (.bipush 40, 2) := by decide +kernel
theorem dX7_sheet_44 : decode cX7_sheet 44 = .ok (.if_icmp .ge 22, 3) := by decide +kernel
theorem dX7_sheet_47 : decode cX7_sheet 47 = .ok (.aload_n 0, 1) := by decide +kernel
theorem dX7_sheet_48 : decode cX7_sheet 48 = .ok (.getfield 41, 3) := by decide +kernel
theorem dX7_sheet_51 : decode cX7_sheet 51 = .ok (.bipush 40, 2) := by decide +kernel
theorem dX7_sheet_53 : decode cX7_sheet 53 = .ok (.iload_n 1, 1) := by decide +kernel
theorem dX7_sheet_54 : decode cX7_sheet 54 = .ok (.imul, 1) := by decide +kernel
theorem dX7_sheet_55 : decode cX7_sheet 55 = .ok (.iload 4, 2) := by decide +kernel
theorem dX7_sheet_57 : decode cX7_sheet 57 = .ok (.iadd, 1) := by decide +kernel
theorem dX7_sheet_58 : decode cX7_sheet 58 = .ok (.iconst 0, 1) := by decide +kernel
theorem dX7_sheet_59 : decode cX7_sheet 59 = .ok (.iastore, 1) := by decide +kernel
theorem dX7_sheet_60 : decode cX7_sheet 60 = .ok (.iinc 4 1, 3) := by decide +kernel
theorem dX7_sheet_63 : decode cX7_sheet 63 = .ok (.goto (-23), 3) := by decide +kernel
theorem dX7_sheet_66 : decode cX7_sheet 66 = .ok (.iconst 1, 1) := by decide +kernel
theorem dX7_sheet_67 : decode cX7_sheet 67 = .ok (.ireturn, 1) := by decide +kernel
theorem dX7_lay_0 : decode cX7_lay 0 = .ok (.iload_n 1, 1) := by decide +kernel
theorem dX7_lay_1 : decode cX7_lay 1 = .ok (.iconst 0, 1) := by decide +kernel
theorem dX7_lay_2 : decode cX7_lay 2 = .ok (.invokestatic 266, 3) := by decide +kernel
theorem dX7_lay_5 : decode cX7_lay 5 = .ok (.ifCond .ne 5, 3) := by decide +kernel
theorem dX7_lay_8 : decode cX7_lay 8 = .ok (.iconst (-1), 1) := by decide +kernel
theorem dX7_lay_9 : decode cX7_lay 9 = .ok (.ireturn, 1) := by decide +kernel
theorem dX7_lay_10 : decode cX7_lay 10 = .ok (.aload_n 0, 1) := by decide +kernel
theorem dX7_lay_11 : decode cX7_lay 11 = .ok (.getfield 35, 3) := by decide +kernel
theorem dX7_lay_14 : decode cX7_lay 14 = .ok (.iload_n 1, 1) := by decide +kernel
theorem dX7_lay_15 : decode cX7_lay 15 = .ok (.iaload, 1) := by decide +kernel
theorem dX7_lay_16 : decode cX7_lay 16 = .ok (.bipush (-4), 2) := by decide +kernel
theorem dX7_lay_18 : decode cX7_lay 18 = .ok (.if_icmp .ne 6, 3) := by decide +kernel
theorem dX7_lay_21 : decode cX7_lay 21 = .ok (.bipush (-11), 2) := by decide +kernel
theorem dX7_lay_23 : decode cX7_lay 23 = .ok (.ireturn, 1) := by decide +kernel
theorem dX7_lay_24 : decode cX7_lay 24 = .ok (.iload_n 2, 1) := by decide +kernel
theorem dX7_lay_25 : decode cX7_lay 25 = .ok (.i2l, 1) := by decide +kernel
theorem dX7_lay_26 : decode cX7_lay 26 = .ok (.lconst 0, 1) := by decide +kernel
theorem dX7_lay_27 : decode cX7_lay 27 = .ok (.aload_n 0, 1) := by decide +kernel
theorem dX7_lay_28 : decode cX7_lay 28 = .ok (.getfield 38, 3) := by decide +kernel
theorem dX7_lay_31 : decode cX7_lay 31 = .ok (.iload_n 1, 1) := by decide +kernel
theorem dX7_lay_32 : decode cX7_lay 32 = .ok (.iaload, 1) := by decide +kernel
theorem dX7_lay_33 : decode cX7_lay 33 = .ok (.iconst 1, 1) := by decide +kernel
theorem dX7_lay_34 : decode cX7_lay 34 = .ok (.isub, 1) := by decide +kernel
theorem dX7_lay_35 : decode cX7_lay 35 = .ok (.i2l, 1) := by decide +kernel
theorem dX7_lay_36 : decode cX7_lay 36 = .ok (.invokestatic 72, 3) := by decide +kernel
theorem dX7_lay_39 : decode cX7_lay 39 = .ok (.ifCond .ne 6, 3) := by decide +kernel
theorem dX7_lay_42 : decode cX7_lay 42 = .ok (.bipush (-12), 2) := by decide +kernel
theorem dX7_lay_44 : decode cX7_lay 44 = .ok (.ireturn, 1) := by decide +kernel
theorem dX7_lay_45 : decode cX7_lay 45 = .ok (.aload_n 0, 1) := by decide +kernel
theorem dX7_lay_46 : decode cX7_lay 46 = .ok (.getfield 41, 3) := by decide +kernel
theorem dX7_lay_49 : decode cX7_lay 49 = .ok (.bipush 40, 2) := by decide +kernel
theorem dX7_lay_51 : decode cX7_lay 51 = .ok (.iload_n 1, 1) := by decide +kernel
theorem dX7_lay_52 : decode cX7_lay 52 = .ok (.imul, 1) := by decide +kernel
theorem dX7_lay_53 : decode cX7_lay 53 = .ok (.iload_n 2, 1) := by decide +kernel
theorem dX7_lay_54 : decode cX7_lay 54 = .ok (.iadd, 1) := by decide +kernel
theorem dX7_lay_55 : decode cX7_lay 55 = .ok (.aload_n 0, 1) := by decide +kernel
theorem dX7_lay_56 : decode cX7_lay 56 = .ok (.getfield 35, 3) := by decide +kernel
theorem dX7_lay_59 : decode cX7_lay 59 = .ok (.iload_n 1, 1) := by decide +kernel
theorem dX7_lay_60 : decode cX7_lay 60 = .ok (.iaload, 1) := by decide +kernel
theorem dX7_lay_61 : decode cX7_lay 61 = .ok (.ifCond .ne 8, 3) := by decide +kernel
theorem dX7_lay_64 : decode cX7_lay 64 = .ok (.iload_n 3, 1) := by decide +kernel
theorem dX7_lay_65 : decode cX7_lay 65 = .ok (.i2b, 1) := by decide +kernel
theorem dX7_lay_66 : decode cX7_lay 66 = .ok (.goto 19, 3) := by decide +kernel
theorem dX7_lay_69 : decode cX7_lay 69 = .ok (.aload_n 0, 1) := by decide +kernel
theorem dX7_lay_70 : decode cX7_lay 70 = .ok (.getfield 35, 3) := by decide +kernel
theorem dX7_lay_73 : decode cX7_lay 73 = .ok (.iload_n 1, 1) := by decide +kernel
theorem dX7_lay_74 : decode cX7_lay 74 = .ok (.iaload, 1) := by decide +kernel
theorem dX7_lay_75 : decode cX7_lay 75 = .ok (.iconst 1, 1) := by decide +kernel
theorem dX7_lay_76 : decode cX7_lay 76 = .ok (.if_icmp .ne 8, 3) := by decide +kernel
theorem dX7_lay_79 : decode cX7_lay 79 = .ok (.iload_n 3, 1) := by decide +kernel
theorem dX7_lay_80 : decode cX7_lay 80 = .ok (.i2s, 1) := by decide +kernel
theorem dX7_lay_81 : decode cX7_lay 81 = .ok (.goto 4, 3) := by decide +kernel
theorem dX7_lay_84 : decode cX7_lay 84 = .ok (.iload_n 3, 1) := by decide +kernel
theorem dX7_lay_85 : decode cX7_lay 85 = .ok (.iastore, 1) := by decide +kernel
theorem dX7_lay_86 : decode cX7_lay 86 = .ok (.iconst 1, 1) := by decide +kernel
theorem dX7_lay_87 : decode cX7_lay 87 = .ok (.ireturn, 1) := by decide +kernel
theorem dX7_read_0 : decode cX7_read 0 = .ok (.iload_n 1, 1) := by decide +kernel
theorem dX7_read_1 : decode cX7_read 1 = .ok (.iload_n 2, 1) := by decide +kernel
theorem dX7_read_2 : decode cX7_read 2 = .ok (.invokestatic 266, 3) := by decide +kernel
theorem dX7_read_5 : decode cX7_read 5 = .ok (.ifCond .eq 16, 3) := by decide +kernel
theorem dX7_read_8 : decode cX7_read 8 = .ok (.iload 4, 2) := by decide +kernel
theorem dX7_read_10 : decode cX7_read 10 = .ok (.i2l, 1) := by decide +kernel
theorem dX7_read_11 : decode cX7_read 11 = .ok (.lconst 0, 1) := by decide +kernel
theorem dX7_read_12 : decode cX7_read 12 = .ok (.ldc2_w 192, 3) := by decide +kernel
theorem dX7_read_15 : decode cX7_read 15 = .ok (.invokestatic 72, 3) := by decide +kernel
theorem dX7_read_18 : decode cX7_read 18 = .ok (.ifCond .ne 5, 3) := by decide +kernel
theorem dX7_read_21 : decode cX7_read 21 = .ok (.iconst (-1), 1) := by decide +kernel
theorem dX7_read_22 : decode cX7_read 22 = .ok (.ireturn, 1) := by decide +kernel
theorem dX7_read_23 : decode cX7_read 23 = .ok (.iconst 0, 1) := by decide +kernel
theorem dX7_read_24 : decode cX7_read 24 = .ok (.istore 5, 2) := by decide +kernel
theorem dX7_read_26 : decode cX7_read 26 = .ok (.iload 5, 2) := by decide +kernel
theorem dX7_read_28 : decode cX7_read 28 = .ok (.bipush 41, 2) := by decide +kernel
theorem dX7_read_30 : decode cX7_read 30 = .ok (.if_icmp .ge 23, 3) := by decide +kernel
theorem dX7_read_33 : decode cX7_read 33 = .ok (.aload_n 0, 1) := by decide +kernel
theorem dX7_read_34 : decode cX7_read 34 = .ok (.getfield 44, 3) := by decide +kernel
theorem dX7_read_37 : decode cX7_read 37 = .ok (.iload 5, 2) := by decide +kernel
theorem dX7_read_39 : decode cX7_read 39 = .ok (.aload_n 0, 1) := by decide +kernel
theorem dX7_read_40 : decode cX7_read 40 = .ok (.getfield 7, 3) := by decide +kernel
theorem dX7_read_43 : decode cX7_read 43 = .ok (.iload 5, 2) := by decide +kernel
theorem dX7_read_45 : decode cX7_read 45 = .ok (.iaload, 1) := by decide +kernel
theorem dX7_read_46 : decode cX7_read 46 = .ok (.iastore, 1) := by decide +kernel
theorem dX7_read_47 : decode cX7_read 47 = .ok (.iinc 5 1, 3) := by decide +kernel
theorem dX7_read_50 : decode cX7_read 50 = .ok (.goto (-24), 3) := by decide +kernel
theorem dX7_read_53 : decode cX7_read 53 = .ok (.iconst 0, 1) := by decide +kernel
theorem dX7_read_54 : decode cX7_read 54 = .ok (.istore 5, 2) := by decide +kernel
theorem dX7_read_56 : decode cX7_read 56 = .ok (.iconst 0, 1) := by decide +kernel
theorem dX7_read_57 : decode cX7_read 57 = .ok (.istore 6, 2) := by decide +kernel
theorem dX7_read_59 : decode cX7_read 59 = .ok (.iconst 0, 1) := by decide +kernel
theorem dX7_read_60 : decode cX7_read 60 = .ok (.istore 7, 2) := by decide +kernel
theorem dX7_read_62 : decode cX7_read 62 = .ok (.iload 7, 2) := by decide +kernel
theorem dX7_read_64 : decode cX7_read 64 = .ok (.iload 4, 2) := by decide +kernel
theorem dX7_read_66 : decode cX7_read 66 = .ok (.if_icmp .ge 184, 3) := by decide +kernel
theorem dX7_read_69 : decode cX7_read 69 = .ok (.iload 5, 2) := by decide +kernel
theorem dX7_read_71 : decode cX7_read 71 = .ok (.ifCond .ne 179, 3) := by decide +kernel
theorem dX7_read_74 : decode cX7_read 74 = .ok (.iconst 0, 1) := by decide +kernel
theorem dX7_read_75 : decode cX7_read 75 = .ok (.istore 8, 2) := by decide +kernel
theorem dX7_read_77 : decode cX7_read 77 = .ok (.iload 8, 2) := by decide +kernel
theorem dX7_read_79 : decode cX7_read 79 = .ok (.iconst 2, 1) := by decide +kernel
theorem dX7_read_80 : decode cX7_read 80 = .ok (.if_icmp .ge 84, 3) := by decide +kernel
theorem dX7_read_83 : decode cX7_read 83 = .ok (.iload 5, 2) := by decide +kernel
theorem dX7_read_85 : decode cX7_read 85 = .ok (.ifCond .ne 79, 3) := by decide +kernel
theorem dX7_read_88 : decode cX7_read 88 = .ok (.iload_n 3, 1) := by decide +kernel
theorem dX7_read_89 : decode cX7_read 89 = .ok (.i2l, 1) := by decide +kernel
theorem dX7_read_90 : decode cX7_read 90 = .ok (.iconst 2, 1) := by decide +kernel
theorem dX7_read_91 : decode cX7_read 91 = .ok (.iload 7, 2) := by decide +kernel
theorem dX7_read_93 : decode cX7_read 93 = .ok (.imul, 1) := by decide +kernel
theorem dX7_read_94 : decode cX7_read 94 = .ok (.i2l, 1) := by decide +kernel
theorem dX7_read_95 : decode cX7_read 95 = .ok (.ladd, 1) := by decide +kernel
theorem dX7_read_96 : decode cX7_read 96 = .ok (.iload 8, 2) := by decide +kernel
theorem dX7_read_98 : decode cX7_read 98 = .ok (.i2l, 1) := by decide +kernel
theorem dX7_read_99 : decode cX7_read 99 = .ok (.ladd, 1) := by decide +kernel
theorem dX7_read_100 : decode cX7_read 100 = .ok (.lstore 9, 2) := by decide +kernel
theorem dX7_read_102 : decode cX7_read 102 = .ok (.aload_n 0, 1) := by decide +kernel
theorem dX7_read_103 : decode cX7_read 103 = .ok (.getfield 35, 3) := by decide +kernel
theorem dX7_read_106 : decode cX7_read 106 = .ok (.iload_n 1, 1) := by decide +kernel
theorem dX7_read_107 : decode cX7_read 107 = .ok (.iaload, 1) := by decide +kernel
theorem dX7_read_108 : decode cX7_read 108 = .ok (.bipush (-4), 2) := by decide +kernel
theorem dX7_read_110 : decode cX7_read 110 = .ok (.if_icmp .ne 7, 3) := by decide +kernel
theorem dX7_read_113 : decode cX7_read 113 = .ok (.iconst 1, 1) := by decide +kernel
theorem dX7_read_114 : decode cX7_read 114 = .ok (.goto 42, 3) := by decide +kernel
theorem dX7_read_117 : decode cX7_read 117 = .ok (.aload_n 0, 1) := by decide +kernel
theorem dX7_read_118 : decode cX7_read 118 = .ok (.getfield 35, 3) := by decide +kernel
theorem dX7_read_121 : decode cX7_read 121 = .ok (.iload_n 1, 1) := by decide +kernel
theorem dX7_read_122 : decode cX7_read 122 = .ok (.iaload, 1) := by decide +kernel
theorem dX7_read_123 : decode cX7_read 123 = .ok (.iload_n 2, 1) := by decide +kernel
theorem dX7_read_124 : decode cX7_read 124 = .ok (.if_icmp .eq 7, 3) := by decide +kernel
theorem dX7_read_127 : decode cX7_read 127 = .ok (.iconst 3, 1) := by decide +kernel
theorem dX7_read_128 : decode cX7_read 128 = .ok (.goto 28, 3) := by decide +kernel
theorem dX7_read_131 : decode cX7_read 131 = .ok (.lload 9, 2) := by decide +kernel
theorem dX7_read_133 : decode cX7_read 133 = .ok (.lconst 0, 1) := by decide +kernel
theorem dX7_read_134 : decode cX7_read 134 = .ok (.lcmp, 1) := by decide +kernel
theorem dX7_read_135 : decode cX7_read 135 = .ok (.ifCond .lt 16, 3) := by decide +kernel
theorem dX7_read_138 : decode cX7_read 138 = .ok (.lload 9, 2) := by decide +kernel
theorem dX7_read_140 : decode cX7_read 140 = .ok (.aload_n 0, 1) := by decide +kernel
theorem dX7_read_141 : decode cX7_read 141 = .ok (.getfield 38, 3) := by decide +kernel
theorem dX7_read_144 : decode cX7_read 144 = .ok (.iload_n 1, 1) := by decide +kernel
theorem dX7_read_145 : decode cX7_read 145 = .ok (.iaload, 1) := by decide +kernel
theorem dX7_read_146 : decode cX7_read 146 = .ok (.i2l, 1) := by decide +kernel
theorem dX7_read_147 : decode cX7_read 147 = .ok (.lcmp, 1) := by decide +kernel
theorem dX7_read_148 : decode cX7_read 148 = .ok (.ifCond .lt 7, 3) := by decide +kernel
theorem dX7_read_151 : decode cX7_read 151 = .ok (.iconst 2, 1) := by decide +kernel
theorem dX7_read_152 : decode cX7_read 152 = .ok (.goto 4, 3) := by decide +kernel
theorem dX7_read_155 : decode cX7_read 155 = .ok (.iconst 0, 1) := by decide +kernel
theorem dX7_read_156 : decode cX7_read 156 = .ok (.istore 5, 2) := by decide +kernel
theorem dX7_read_158 : decode cX7_read 158 = .ok (.iinc 8 1, 3) := by decide +kernel
theorem dX7_read_161 : decode cX7_read 161 = .ok (.goto (-84), 3) := by decide +kernel
theorem dX7_read_164 : decode cX7_read 164 = .ok (.iload 5, 2) := by decide +kernel
theorem dX7_read_166 : decode cX7_read 166 = .ok (.ifCond .ne 78, 3) := by decide +kernel
theorem dX7_read_169 : decode cX7_read 169 = .ok (.bipush 40, 2) := by decide +kernel
theorem dX7_read_171 : decode cX7_read 171 = .ok (.iload_n 1, 1) := by decide +kernel
theorem dX7_read_172 : decode cX7_read 172 = .ok (.imul, 1) := by decide +kernel
theorem dX7_read_173 : decode cX7_read 173 = .ok (.iload_n 3, 1) := by decide +kernel
theorem dX7_read_174 : decode cX7_read 174 = .ok (.iadd, 1) := by decide +kernel
theorem dX7_read_175 : decode cX7_read 175 = .ok (.iconst 2, 1) := by decide +kernel
theorem dX7_read_176 : decode cX7_read 176 = .ok (.iload 7, 2) := by decide +kernel
theorem dX7_read_178 : decode cX7_read 178 = .ok (.imul, 1) := by decide +kernel
theorem dX7_read_179 : decode cX7_read 179 = .ok (.iadd, 1) := by decide +kernel
theorem dX7_read_180 : decode cX7_read 180 = .ok (.istore 8, 2) := by decide +kernel
theorem dX7_read_182 : decode cX7_read 182 = .ok (.aload_n 0, 1) := by decide +kernel
theorem dX7_read_183 : decode cX7_read 183 = .ok (.aload_n 0, 1) := by decide +kernel
theorem dX7_read_184 : decode cX7_read 184 = .ok (.getfield 41, 3) := by decide +kernel
theorem dX7_read_187 : decode cX7_read 187 = .ok (.iload 8, 2) := by decide +kernel
theorem dX7_read_189 : decode cX7_read 189 = .ok (.iaload, 1) := by decide +kernel
theorem dX7_read_190 : decode cX7_read 190 = .ok (.aload_n 0, 1) := by decide +kernel
theorem dX7_read_191 : decode cX7_read 191 = .ok (.getfield 41, 3) := by decide +kernel
theorem dX7_read_194 : decode cX7_read 194 = .ok (.iload 8, 2) := by decide +kernel
theorem dX7_read_196 : decode cX7_read 196 = .ok (.iconst 1, 1) := by decide +kernel
theorem dX7_read_197 : decode cX7_read 197 = .ok (.iadd, 1) := by decide +kernel
theorem dX7_read_198 : decode cX7_read 198 = .ok (.iaload, 1) := by decide +kernel
theorem dX7_read_199 : decode cX7_read 199 = .ok (.invokevirtual 270, 3) := by decide +kernel
theorem dX7_read_202 : decode cX7_read 202 = .ok (.ifCond .ge 39, 3) := by decide +kernel
theorem dX7_read_205 : decode cX7_read 205 = .ok (.iconst 0, 1) := by decide +kernel
theorem dX7_read_206 : decode cX7_read 206 = .ok (.istore 9, 2) := by decide +kernel
theorem dX7_read_208 : decode cX7_read 208 = .ok (.iload 9, 2) := by decide +kernel
theorem dX7_read_210 : decode cX7_read 210 = .ok (.bipush 41, 2) := by decide +kernel
theorem dX7_read_212 : decode cX7_read 212 = .ok (.if_icmp .ge 23, 3) := by decide +kernel
theorem dX7_read_215 : decode cX7_read 215 = .ok (.aload_n 0, 1) := by decide +kernel
theorem dX7_read_216 : decode cX7_read 216 = .ok (.getfield 7, 3) := by decide +kernel
theorem dX7_read_219 : decode cX7_read 219 = .ok (.iload 9, 2) := by decide +kernel
theorem dX7_read_221 : decode cX7_read 221 = .ok (.aload_n 0, 1) := by decide +kernel
theorem dX7_read_222 : decode cX7_read 222 = .ok (.getfield 44, 3) := by decide +kernel
theorem dX7_read_225 : decode cX7_read 225 = .ok (.iload 9, 2) := by decide +kernel
theorem dX7_read_227 : decode cX7_read 227 = .ok (.iaload, 1) := by decide +kernel
theorem dX7_read_228 : decode cX7_read 228 = .ok (.iastore, 1) := by decide +kernel
theorem dX7_read_229 : decode cX7_read 229 = .ok (.iinc 9 1, 3) := by decide +kernel
theorem dX7_read_232 : decode cX7_read 232 = .ok (.goto (-24), 3) := by decide +kernel
theorem dX7_read_235 : decode cX7_read 235 = .ok (.bipush (-20), 2) := by decide +kernel
theorem dX7_read_237 : decode cX7_read 237 = .ok (.iload 7, 2) := by decide +kernel
theorem dX7_read_239 : decode cX7_read 239 = .ok (.isub, 1) := by decide +kernel
theorem dX7_read_240 : decode cX7_read 240 = .ok (.ireturn, 1) := by decide +kernel
theorem dX7_read_241 : decode cX7_read 241 = .ok (.iinc 6 1, 3) := by decide +kernel
theorem dX7_read_244 : decode cX7_read 244 = .ok (.iinc 7 1, 3) := by decide +kernel
theorem dX7_read_247 : decode cX7_read 247 = .ok (.goto (-185), 3) := by decide +kernel
theorem dX7_read_250 : decode cX7_read 250 = .ok (.aload_n 0, 1) := by decide +kernel
theorem dX7_read_251 : decode cX7_read 251 = .ok (.iload 5, 2) := by decide +kernel
theorem dX7_read_253 : decode cX7_read 253 = .ok (.putfield 273, 3) := by decide +kernel
theorem dX7_read_256 : decode cX7_read 256 = .ok (.iload 6, 2) := by decide +kernel
theorem dX7_read_258 : decode cX7_read 258 = .ok (.ireturn, 1) := by decide +kernel
theorem dX7_torn_0 : decode cX7_torn 0 = .ok (.aload_n 0, 1) := by decide +kernel
theorem dX7_torn_1 : decode cX7_torn 1 = .ok (.getfield 273, 3) := by decide +kernel
theorem dX7_torn_4 : decode cX7_torn 4 = .ok (.ireturn, 1) := by decide +kernel
theorem dX7_count_0 : decode cX7_count 0 = .ok (.aload_n 0, 1) := by decide +kernel
theorem dX7_count_1 : decode cX7_count 1 = .ok (.invokevirtual 170, 3) := by decide +kernel
theorem dX7_count_4 : decode cX7_count 4 = .ok (.iload_n 1, 1) := by decide +kernel
theorem dX7_count_5 : decode cX7_count 5 = .ok (.tableswitch 98 0 4 #[35, 42, 50, 70, 75], 35) := by decide +kernel
theorem dX7_count_40 : decode cX7_count 40 = .ok (.aload_n 0, 1) := by decide +kernel
theorem dX7_count_41 : decode cX7_count 41 = .ok (.bipush 10, 2) := by decide +kernel
theorem dX7_count_43 : decode cX7_count 43 = .ok (.invokevirtual 173, 3) := by decide +kernel
theorem dX7_count_46 : decode cX7_count 46 = .ok (.ireturn, 1) := by decide +kernel
theorem dX7_count_47 : decode cX7_count 47 = .ok (.aload_n 0, 1) := by decide +kernel
theorem dX7_count_48 : decode cX7_count 48 = .ok (.getfield 7, 3) := by decide +kernel
theorem dX7_count_51 : decode cX7_count 51 = .ok (.bipush 22, 2) := by decide +kernel
theorem dX7_count_53 : decode cX7_count 53 = .ok (.iaload, 1) := by decide +kernel
theorem dX7_count_54 : decode cX7_count 54 = .ok (.ireturn, 1) := by decide +kernel
theorem dX7_count_55 : decode cX7_count 55 = .ok (.aload_n 0, 1) := by decide +kernel
theorem dX7_count_56 : decode cX7_count 56 = .ok (.getfield 16, 3) := by decide +kernel
theorem dX7_count_59 : decode cX7_count 59 = .ok (.iconst 0, 1) := by decide +kernel
theorem dX7_count_60 : decode cX7_count 60 = .ok (.baload, 1) := by decide +kernel
theorem dX7_count_61 : decode cX7_count 61 = .ok (.invokestatic 215, 3) := by decide +kernel
theorem dX7_count_64 : decode cX7_count 64 = .ok (.aload_n 0, 1) := by decide +kernel
theorem dX7_count_65 : decode cX7_count 65 = .ok (.getfield 16, 3) := by decide +kernel
theorem dX7_count_68 : decode cX7_count 68 = .ok (.iconst 1, 1) := by decide +kernel
theorem dX7_count_69 : decode cX7_count 69 = .ok (.baload, 1) := by decide +kernel
theorem dX7_count_70 : decode cX7_count 70 = .ok (.invokestatic 215, 3) := by decide +kernel
theorem dX7_count_73 : decode cX7_count 73 = .ok (.iadd, 1) := by decide +kernel
theorem dX7_count_74 : decode cX7_count 74 = .ok (.ireturn, 1) := by decide +kernel
theorem dX7_count_75 : decode cX7_count 75 = .ok (.aload_n 0, 1) := by decide +kernel
theorem dX7_count_76 : decode cX7_count 76 = .ok (.getfield 76, 3) := by decide +kernel
theorem dX7_count_79 : decode cX7_count 79 = .ok (.ireturn, 1) := by decide +kernel
theorem dX7_count_80 : decode cX7_count 80 = .ok (.aload_n 0, 1) := by decide +kernel
theorem dX7_count_81 : decode cX7_count 81 = .ok (.getfield 35, 3) := by decide +kernel
theorem dX7_count_84 : decode cX7_count 84 = .ok (.iconst 0, 1) := by decide +kernel
theorem dX7_count_85 : decode cX7_count 85 = .ok (.iaload, 1) := by decide +kernel
theorem dX7_count_86 : decode cX7_count 86 = .ok (.bipush (-4), 2) := by decide +kernel
theorem dX7_count_88 : decode cX7_count 88 = .ok (.if_icmp .ne 8, 3) := by decide +kernel
theorem dX7_count_91 : decode cX7_count 91 = .ok (.bipush (-4), 2) := by decide +kernel
theorem dX7_count_93 : decode cX7_count 93 = .ok (.goto 9, 3) := by decide +kernel
theorem dX7_count_96 : decode cX7_count 96 = .ok (.aload_n 0, 1) := by decide +kernel
theorem dX7_count_97 : decode cX7_count 97 = .ok (.getfield 38, 3) := by decide +kernel
theorem dX7_count_100 : decode cX7_count 100 = .ok (.iconst 0, 1) := by decide +kernel
theorem dX7_count_101 : decode cX7_count 101 = .ok (.iaload, 1) := by decide +kernel
theorem dX7_count_102 : decode cX7_count 102 = .ok (.ireturn, 1) := by decide +kernel
theorem dX7_count_103 : decode cX7_count 103 = .ok (.iconst (-1), 1) := by decide +kernel
theorem dX7_count_104 : decode cX7_count 104 = .ok (.ireturn, 1) := by decide +kernel
