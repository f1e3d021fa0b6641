theorem dX6_init_0 : decode cX6_init 0 = .ok (.aload_n 0, 1) := by decide +kernel
theorem dX6_init_1 : decode cX6_init 1 = .ok (.invokespecial 1, 3) := by decide +kernel
theorem dX6_init_4 : decode cX6_init 4 = .ok (.aload_n 0, 1) := by decide +kernel
theorem dX6_init_5 : decode cX6_init 5 = .ok (.new 7, 3) := by decide +kernel
theorem dX6_init_8 : decode cX6_init 8 = .ok (.dup, 1) := by decide +kernel
theorem dX6_init_9 : decode cX6_init 9 = .ok (.invokespecial 9, 3) := by decide +kernel
theorem dX6_init_12 : decode cX6_init 12 = .ok (.putfield 10, 3) := by decide +kernel
theorem dX6_init_15 : decode cX6_init 15 = .ok (.aload_n 0, 1) := by decide +kernel
theorem dX6_init_16 : decode cX6_init 16 = .ok (.new 16, 3) := by decide +kernel
theorem dX6_init_19 : decode cX6_init 19 = .ok (.dup, 1) := by decide +kernel
theorem dX6_init_20 : decode cX6_init 20 = .ok (.invokespecial 18, 3) := by decide +kernel
theorem dX6_init_23 : decode cX6_init 23 = .ok (.putfield 19, 3) := by decide +kernel
theorem dX6_init_26 : decode cX6_init 26 = .ok (.aload_n 0, 1) := by decide +kernel
theorem dX6_init_27 : decode cX6_init 27 = .ok (.new 16, 3) := by decide +kernel
theorem dX6_init_30 : decode cX6_init 30 = .ok (.dup, 1) := by decide +kernel
theorem dX6_init_31 : decode cX6_init 31 = .ok (.invokespecial 18, 3) := by decide +kernel
theorem dX6_init_34 : decode cX6_init 34 = .ok (.putfield 23, 3) := by decide +kernel
theorem dX6_init_37 : decode cX6_init 37 = .ok (.aload_n 0, 1) := by decide +kernel
theorem dX6_init_38 : decode cX6_init 38 = .ok (.new 26, 3) := by decide +kernel
theorem dX6_init_41 : decode cX6_init 41 = .ok (.dup, 1) := by decide +kernel
theorem dX6_init_42 : decode cX6_init 42 = .ok (.invokespecial 28, 3) := by decide +kernel
theorem dX6_init_45 : decode cX6_init 45 = .ok (.putfield 29, 3) := by decide +kernel
theorem dX6_init_48 : decode cX6_init 48 = .ok (.aload_n 0, 1) := by decide +kernel
theorem dX6_init_49 : decode cX6_init 49 = .ok (.iconst 2, 1) := by decide +kernel
theorem dX6_init_50 : decode cX6_init 50 = .ok (.anewarray 33, 3) := by decide +kernel
theorem dX6_init_53 : decode cX6_init 53 = .ok (.putfield 35, 3) := by decide +kernel
theorem dX6_init_56 : decode cX6_init 56 = .ok (.iconst 0, 1) := by decide +kernel
theorem dX6_init_57 : decode cX6_init 57 = .ok (.istore_n 1, 1) := by decide +kernel
theorem dX6_init_58 : decode cX6_init 58 = .ok (.iload_n 1, 1) := by decide +kernel
theorem dX6_init_59 : decode cX6_init 59 = .ok (.iconst 2, 1) := by decide +kernel
theorem dX6_init_60 : decode cX6_init 60 = .ok (.if_icmp .ge 22, 3) := by decide +kernel
theorem dX6_init_63 : decode cX6_init 63 = .ok (.aload_n 0, 1) := by decide +kernel
theorem dX6_init_64 : decode cX6_init 64 = .ok (.getfield 35, 3) := by decide +kernel
theorem dX6_init_67 : decode cX6_init 67 = .ok (.iload_n 1, 1) := by decide +kernel
theorem dX6_init_68 : decode cX6_init 68 = .ok (.new 33, 3) := by decide +kernel
theorem dX6_init_71 : decode cX6_init 71 = .ok (.dup, 1) := by decide +kernel
theorem dX6_init_72 : decode cX6_init 72 = .ok (.invokespecial 39, 3) := by decide +kernel
theorem dX6_init_75 : decode cX6_init 75 = .ok (.aastore, 1) := by decide +kernel
theorem dX6_init_76 : decode cX6_init 76 = .ok (.iinc 1 1, 3) := by decide +kernel
theorem dX6_init_79 : decode cX6_init 79 = .ok (.goto (-21), 3) := by decide +kernel
theorem dX6_init_82 : decode cX6_init 82 = .ok (.aload_n 0, 1) := by decide +kernel
theorem dX6_init_83 : decode cX6_init 83 = .ok (.iconst 4, 1) := by decide +kernel
theorem dX6_init_84 : decode cX6_init 84 = .ok (.anewarray 40, 3) := by decide +kernel
theorem dX6_init_87 : decode cX6_init 87 = .ok (.putfield 42, 3) := by decide +kernel
theorem dX6_init_90 : decode cX6_init 90 = .ok (.iconst 0, 1) := by decide +kernel
theorem dX6_init_91 : decode cX6_init 91 = .ok (.istore_n 1, 1) := by decide +kernel
theorem dX6_init_92 : decode cX6_init 92 = .ok (.iload_n 1, 1) := by decide +kernel
theorem dX6_init_93 : decode cX6_init 93 = .ok (.iconst 4, 1) := by decide +kernel
theorem dX6_init_94 : decode cX6_init 94 = .ok (.if_icmp .ge 22, 3) := by decide +kernel
theorem dX6_init_97 : decode cX6_init 97 = .ok (.aload_n 0, 1) := by decide +kernel
theorem dX6_init_98 : decode cX6_init 98 = .ok (.getfield 42, 3) := by decide +kernel
theorem dX6_init_101 : decode cX6_init 101 = .ok (.iload_n 1, 1) := by decide +kernel
theorem dX6_init_102 : decode cX6_init 102 = .ok (.new 40, 3) := by decide +kernel
theorem dX6_init_105 : decode cX6_init 105 = .ok (.dup, 1) := by decide +kernel
theorem dX6_init_106 : decode cX6_init 106 = .ok (.invokespecial 46, 3) := by decide +kernel
theorem dX6_init_109 : decode cX6_init 109 = .ok (.aastore, 1) := by decide +kernel
theorem dX6_init_110 : decode cX6_init 110 = .ok (.iinc 1 1, 3) := by decide +kernel
theorem dX6_init_113 : decode cX6_init 113 = .ok (.goto (-21), 3) := by decide +kernel
theorem dX6_init_116 : decode cX6_init 116 = .ok (.aload_n 0, 1) := by decide +kernel
theorem dX6_init_117 : decode cX6_init 117 = .ok (.bipush 45, 2) := by decide +kernel
theorem dX6_init_119 : decode cX6_init 119 = .ok (.newarray .int, 2) := by decide +kernel
theorem dX6_init_121 : decode cX6_init 121 = .ok (.putfield 47, 3) := by decide +kernel
theorem dX6_init_124 : decode cX6_init 124 = .ok (.aload_n 0, 1) := by decide +kernel
theorem dX6_init_125 : decode cX6_init 125 = .ok (.sipush 4500, 3) := by decide +kernel
theorem dX6_init_128 : decode cX6_init 128 = .ok (.newarray .int, 2) := by decide +kernel
theorem dX6_init_130 : decode cX6_init 130 = .ok (.putfield 51, 3) := by decide +kernel
theorem dX6_init_133 : decode cX6_init 133 = .ok (.return_, 1) := by decide +kernel
theorem dX6_feed_0 : decode cX6_feed 0 = .ok (.iload_n 1, 1) := by decide +kernel
theorem dX6_feed_1 : decode cX6_feed 1 = .ok (.iconst 0, 1) := by decide +kernel
theorem dX6_feed_2 : decode cX6_feed 2 = .ok (.bipush 127, 2) := by decide +kernel
theorem dX6_feed_4 : decode cX6_feed 4 = .ok (.invokestatic 54, 3) := by decide +kernel
theorem dX6_feed_7 : decode cX6_feed 7 = .ok (.ifCond .eq 5, 3) := by decide +kernel
theorem dX6_feed_10 : decode cX6_feed 10 = .ok (.iconst (-1), 1) := by decide +kernel
theorem dX6_feed_11 : decode cX6_feed 11 = .ok (.ireturn, 1) := by decide +kernel
theorem dX6_feed_12 : decode cX6_feed 12 = .ok (.aload_n 0, 1) := by decide +kernel
theorem dX6_feed_13 : decode cX6_feed 13 = .ok (.getfield 10, 3) := by decide +kernel
theorem dX6_feed_16 : decode cX6_feed 16 = .ok (.getfield 58, 3) := by decide +kernel
theorem dX6_feed_19 : decode cX6_feed 19 = .ok (.iload_n 1, 1) := by decide +kernel
theorem dX6_feed_20 : decode cX6_feed 20 = .ok (.invokevirtual 62, 3) := by decide +kernel
theorem dX6_feed_23 : decode cX6_feed 23 = .ok (.ifCond .eq 16, 3) := by decide +kernel
theorem dX6_feed_26 : decode cX6_feed 26 = .ok (.aload_n 0, 1) := by decide +kernel
theorem dX6_feed_27 : decode cX6_feed 27 = .ok (.getfield 10, 3) := by decide +kernel
theorem dX6_feed_30 : decode cX6_feed 30 = .ok (.getfield 58, 3) := by decide +kernel
theorem dX6_feed_33 : decode cX6_feed 33 = .ok (.getfield 68, 3) := by decide +kernel
theorem dX6_feed_36 : decode cX6_feed 36 = .ok (.goto 5, 3) := by decide +kernel
theorem dX6_feed_39 : decode cX6_feed 39 = .ok (.bipush (-3), 2) := by decide +kernel
theorem dX6_feed_41 : decode cX6_feed 41 = .ok (.ireturn, 1) := by decide +kernel
theorem dX6_end_0 : decode cX6_end 0 = .ok (.aload_n 0, 1) := by decide +kernel
theorem dX6_end_1 : decode cX6_end 1 = .ok (.getfield 10, 3) := by decide +kernel
theorem dX6_end_4 : decode cX6_end 4 = .ok (.getfield 58, 3) := by decide +kernel
theorem dX6_end_7 : decode cX6_end 7 = .ok (.astore_n 2, 1) := by decide +kernel
theorem dX6_end_8 : decode cX6_end 8 = .ok (.iload_n 1, 1) := by decide +kernel
theorem dX6_end_9 : decode cX6_end 9 = .ok (.iconst 0, 1) := by decide +kernel
theorem dX6_end_10 : decode cX6_end 10 = .ok (.aload_n 2, 1) := by decide +kernel
theorem dX6_end_11 : decode cX6_end 11 = .ok (.getfield 68, 3) := by decide +kernel
theorem dX6_end_14 : decode cX6_end 14 = .ok (.invokestatic 54, 3) := by decide +kernel
theorem dX6_end_17 : decode cX6_end 17 = .ok (.ifCond .eq 5, 3) := by decide +kernel
theorem dX6_end_20 : decode cX6_end 20 = .ok (.iconst (-1), 1) := by decide +kernel
theorem dX6_end_21 : decode cX6_end 21 = .ok (.ireturn, 1) := by decide +kernel
theorem dX6_end_22 : decode cX6_end 22 = .ok (.aload_n 2, 1) := by decide +kernel
theorem dX6_end_23 : decode cX6_end 23 = .ok (.getfield 68, 3) := by decide +kernel
theorem dX6_end_26 : decode cX6_end 26 = .ok (.istore_n 3, 1) := by decide +kernel
theorem dX6_end_27 : decode cX6_end 27 = .ok (.aload_n 2, 1) := by decide +kernel
theorem dX6_end_28 : decode cX6_end 28 = .ok (.iload_n 1, 1) := by decide +kernel
theorem dX6_end_29 : decode cX6_end 29 = .ok (.putfield 68, 3) := by decide +kernel
theorem dX6_end_32 : decode cX6_end 32 = .ok (.iload_n 3, 1) := by decide +kernel
theorem dX6_end_33 : decode cX6_end 33 = .ok (.ireturn, 1) := by decide +kernel
theorem dX6_text_0 : decode cX6_text 0 = .ok (.aload_n 0, 1) := by decide +kernel
theorem dX6_text_1 : decode cX6_text 1 = .ok (.getfield 10, 3) := by decide +kernel
theorem dX6_text_4 : decode cX6_text 4 = .ok (.invokevirtual 72, 3) := by decide +kernel
theorem dX6_text_7 : decode cX6_text 7 = .ok (.aload_n 0, 1) := by decide +kernel
theorem dX6_text_8 : decode cX6_text 8 = .ok (.getfield 10, 3) := by decide +kernel
theorem dX6_text_11 : decode cX6_text 11 = .ok (.getfield 58, 3) := by decide +kernel
theorem dX6_text_14 : decode cX6_text 14 = .ok (.iconst 0, 1) := by decide +kernel
theorem dX6_text_15 : decode cX6_text 15 = .ok (.putfield 68, 3) := by decide +kernel
theorem dX6_text_18 : decode cX6_text 18 = .ok (.aload_n 0, 1) := by decide +kernel
theorem dX6_text_19 : decode cX6_text 19 = .ok (.aload_n 0, 1) := by decide +kernel
theorem dX6_text_20 : decode cX6_text 20 = .ok (.getfield 10, 3) := by decide +kernel
theorem dX6_text_23 : decode cX6_text 23 = .ok (.getfield 75, 3) := by decide +kernel
theorem dX6_text_26 : decode cX6_text 26 = .ok (.putfield 78, 3) := by decide +kernel
theorem dX6_text_29 : decode cX6_text 29 = .ok (.aload_n 0, 1) := by decide +kernel
theorem dX6_text_30 : decode cX6_text 30 = .ok (.getfield 10, 3) := by decide +kernel
theorem dX6_text_33 : decode cX6_text 33 = .ok (.getfield 75, 3) := by decide +kernel
theorem dX6_text_36 : decode cX6_text 36 = .ok (.ifCond .eq 14, 3) := by decide +kernel
theorem dX6_text_39 : decode cX6_text 39 = .ok (.bipush (-10), 2) := by decide +kernel
theorem dX6_text_41 : decode cX6_text 41 = .ok (.aload_n 0, 1) := by decide +kernel
theorem dX6_text_42 : decode cX6_text 42 = .ok (.getfield 10, 3) := by decide +kernel
theorem dX6_text_45 : decode cX6_text 45 = .ok (.getfield 81, 3) := by decide +kernel
theorem dX6_text_48 : decode cX6_text 48 = .ok (.isub, 1) := by decide +kernel
theorem dX6_text_49 : decode cX6_text 49 = .ok (.ireturn, 1) := by decide +kernel
theorem dX6_text_50 : decode cX6_text 50 = .ok (.aload_n 0, 1) := by decide +kernel
theorem dX6_text_51 : decode cX6_text 51 = .ok (.getfield 19, 3) := by decide +kernel
theorem dX6_text_54 : decode cX6_text 54 = .ok (.aload_n 0, 1) := by decide +kernel
theorem dX6_text_55 : decode cX6_text 55 = .ok (.getfield 10, 3) := by decide +kernel
theorem dX6_text_58 : decode cX6_text 58 = .ok (.getfield 84, 3) := by decide +kernel
theorem dX6_text_61 : decode cX6_text 61 = .ok (.invokevirtual 87, 3) := by decide +kernel
theorem dX6_text_64 : decode cX6_text 64 = .ok (.aload_n 0, 1) := by decide +kernel
theorem dX6_text_65 : decode cX6_text 65 = .ok (.getfield 29, 3) := by decide +kernel
theorem dX6_text_68 : decode cX6_text 68 = .ok (.iconst 0, 1) := by decide +kernel
theorem dX6_text_69 : decode cX6_text 69 = .ok (.putfield 91, 3) := by decide +kernel
theorem dX6_text_72 : decode cX6_text 72 = .ok (.iconst 0, 1) := by decide +kernel
theorem dX6_text_73 : decode cX6_text 73 = .ok (.istore_n 1, 1) := by decide +kernel
theorem dX6_text_74 : decode cX6_text 74 = .ok (.iload_n 1, 1) := by decide +kernel
theorem dX6_text_75 : decode cX6_text 75 = .ok (.iconst 2, 1) := by decide +kernel
theorem dX6_text_76 : decode cX6_text 76 = .ok (.if_icmp .ge 19, 3) := by decide +kernel
theorem dX6_text_79 : decode cX6_text 79 = .ok (.aload_n 0, 1) := by decide +kernel
theorem dX6_text_80 : decode cX6_text 80 = .ok (.getfield 35, 3) := by decide +kernel
theorem dX6_text_83 : decode cX6_text 83 = .ok (.iload_n 1, 1) := by decide +kernel
theorem dX6_text_84 : decode cX6_text 84 = .ok (.aaload, 1) := by decide +kernel
theorem dX6_text_85 : decode cX6_text 85 = .ok (.iconst 0, 1) := by decide +kernel
theorem dX6_text_86 : decode cX6_text 86 = .ok (.putfield 94, 3) := by decide +kernel
theorem dX6_text_89 : decode cX6_text 89 = .ok (.iinc 1 1, 3) := by decide +kernel
theorem dX6_text_92 : decode cX6_text 92 = .ok (.goto (-18), 3) := by decide +kernel
theorem dX6_text_95 : decode cX6_text 95 = .ok (.aload_n 0, 1) := by decide +kernel
theorem dX6_text_96 : decode cX6_text 96 = .ok (.getfield 10, 3) := by decide +kernel
theorem dX6_text_99 : decode cX6_text 99 = .ok (.getfield 98, 3) := by decide +kernel
theorem dX6_text_102 : decode cX6_text 102 = .ok (.ireturn, 1) := by decide +kernel
theorem dX6_fault_0 : decode cX6_fault 0 = .ok (.aload_n 0, 1) := by decide +kernel
theorem dX6_fault_1 : decode cX6_fault 1 = .ok (.getfield 78, 3) := by decide +kernel
theorem dX6_fault_4 : decode cX6_fault 4 = .ok (.ireturn, 1) := by decide +kernel
theorem dX6_rule_0 : decode cX6_rule 0 = .ok (.iload_n 1, 1) := by decide +kernel
theorem dX6_rule_1 : decode cX6_rule 1 = .ok (.tableswitch 123 0 8 #[51, 59, 67, 75, 83, 91, 99, 107, 115], 51) := by decide +kernel
theorem dX6_rule_52 : decode cX6_rule 52 = .ok (.aload_n 0, 1) := by decide +kernel
theorem dX6_rule_53 : decode cX6_rule 53 = .ok (.getfield 19, 3) := by decide +kernel
theorem dX6_rule_56 : decode cX6_rule 56 = .ok (.getfield 101, 3) := by decide +kernel
theorem dX6_rule_59 : decode cX6_rule 59 = .ok (.ireturn, 1) := by decide +kernel
theorem dX6_rule_60 : decode cX6_rule 60 = .ok (.aload_n 0, 1) := by decide +kernel
theorem dX6_rule_61 : decode cX6_rule 61 = .ok (.getfield 19, 3) := by decide +kernel
theorem dX6_rule_64 : decode cX6_rule 64 = .ok (.getfield 104, 3) := by decide +kernel
theorem dX6_rule_67 : decode cX6_rule 67 = .ok (.ireturn, 1) := by decide +kernel
theorem dX6_rule_68 : decode cX6_rule 68 = .ok (.aload_n 0, 1) := by decide +kernel
theorem dX6_rule_69 : decode cX6_rule 69 = .ok (.getfield 19, 3) := by decide +kernel
theorem dX6_rule_72 : decode cX6_rule 72 = .ok (.getfield 107, 3) := by decide +kernel
theorem dX6_rule_75 : decode cX6_rule 75 = .ok (.ireturn, 1) := by decide +kernel
theorem dX6_rule_76 : decode cX6_rule 76 = .ok (.aload_n 0, 1) := by decide +kernel
theorem dX6_rule_77 : decode cX6_rule 77 = .ok (.getfield 19, 3) := by decide +kernel
theorem dX6_rule_80 : decode cX6_rule 80 = .ok (.getfield 110, 3) := by decide +kernel
theorem dX6_rule_83 : decode cX6_rule 83 = .ok (.ireturn, 1) := by decide +kernel
theorem dX6_rule_84 : decode cX6_rule 84 = .ok (.aload_n 0, 1) := by decide +kernel
theorem dX6_rule_85 : decode cX6_rule 85 = .ok (.getfield 19, 3) := by decide +kernel
theorem dX6_rule_88 : decode cX6_rule 88 = .ok (.getfield 113, 3) := by decide +kernel
theorem dX6_rule_91 : decode cX6_rule 91 = .ok (.ireturn, 1) := by decide +kernel
theorem dX6_rule_92 : decode cX6_rule 92 = .ok (.aload_n 0, 1) := by decide +kernel
theorem dX6_rule_93 : decode cX6_rule 93 = .ok (.getfield 19, 3) := by decide +kernel
theorem dX6_rule_96 : decode cX6_rule 96 = .ok (.getfield 116, 3) := by decide +kernel
theorem dX6_rule_99 : decode cX6_rule 99 = .ok (.ireturn, 1) := by decide +kernel
theorem dX6_rule_100 : decode cX6_rule 100 = .ok (.aload_n 0, 1) := by decide +kernel
theorem dX6_rule_101 : decode cX6_rule 101 = .ok (.getfield 19, 3) := by decide +kernel
theorem dX6_rule_104 : decode cX6_rule 104 = .ok (.getfield 119, 3) := by decide +kernel
theorem dX6_rule_107 : decode cX6_rule 107 = .ok (.ireturn, 1) := by decide +kernel
theorem dX6_rule_108 : decode cX6_rule 108 = .ok (.aload_n 0, 1) := by decide +kernel
theorem dX6_rule_109 : decode cX6_rule 109 = .ok (.getfield 19, 3) := by decide +kernel
theorem dX6_rule_112 : decode cX6_rule 112 = .ok (.getfield 122, 3) := by decide +kernel
theorem dX6_rule_115 : decode cX6_rule 115 = .ok (.ireturn, 1) := by decide +kernel
theorem dX6_rule_116 : decode cX6_rule 116 = .ok (.aload_n 0, 1) := by decide +kernel
theorem dX6_rule_117 : decode cX6_rule 117 = .ok (.getfield 19, 3) := by decide +kernel
theorem dX6_rule_120 : decode cX6_rule 120 = .ok (.invokevirtual 125, 3) := by decide +kernel
theorem dX6_rule_123 : decode cX6_rule 123 = .ok (.ireturn, 1) := by decide +kernel
theorem dX6_rule_124 : decode cX6_rule 124 = .ok (.iconst (-1), 1) := by decide +kernel
theorem dX6_rule_125 : decode cX6_rule 125 = .ok (.ireturn, 1) := by decide +kernel
theorem dX6_house_0 : decode cX6_house 0 = .ok (.aload_n 0, 1) := by decide +kernel
theorem dX6_house_1 : decode cX6_house 1 = .ok (.getfield 19, 3) := by decide +kernel
theorem dX6_house_4 : decode cX6_house 4 = .ok (.iload_n 1, 1) := by decide +kernel
theorem dX6_house_5 : decode cX6_house 5 = .ok (.invokevirtual 129, 3) := by decide +kernel
theorem dX6_house_8 : decode cX6_house 8 = .ok (.ifCond .ne 5, 3) := by decide +kernel
theorem dX6_house_11 : decode cX6_house 11 = .ok (.iconst (-1), 1) := by decide +kernel
theorem dX6_house_12 : decode cX6_house 12 = .ok (.ireturn, 1) := by decide +kernel
theorem dX6_house_13 : decode cX6_house 13 = .ok (.iload_n 2, 1) := by decide +kernel
theorem dX6_house_14 : decode cX6_house 14 = .ok (.tableswitch 56 0 2 #[26, 36, 46], 26) := by decide +kernel
theorem dX6_house_40 : decode cX6_house 40 = .ok (.aload_n 0, 1) := by decide +kernel
theorem dX6_house_41 : decode cX6_house 41 = .ok (.getfield 19, 3) := by decide +kernel
theorem dX6_house_44 : decode cX6_house 44 = .ok (.getfield 132, 3) := by decide +kernel
theorem dX6_house_47 : decode cX6_house 47 = .ok (.iload_n 1, 1) := by decide +kernel
theorem dX6_house_48 : decode cX6_house 48 = .ok (.iaload, 1) := by decide +kernel
theorem dX6_house_49 : decode cX6_house 49 = .ok (.ireturn, 1) := by decide +kernel
theorem dX6_house_50 : decode cX6_house 50 = .ok (.aload_n 0, 1) := by decide +kernel
theorem dX6_house_51 : decode cX6_house 51 = .ok (.getfield 19, 3) := by decide +kernel
theorem dX6_house_54 : decode cX6_house 54 = .ok (.getfield 135, 3) := by decide +kernel
theorem dX6_house_57 : decode cX6_house 57 = .ok (.iload_n 1, 1) := by decide +kernel
theorem dX6_house_58 : decode cX6_house 58 = .ok (.iaload, 1) := by decide +kernel
theorem dX6_house_59 : decode cX6_house 59 = .ok (.ireturn, 1) := by decide +kernel
theorem dX6_house_60 : decode cX6_house 60 = .ok (.aload_n 0, 1) := by decide +kernel
theorem dX6_house_61 : decode cX6_house 61 = .ok (.getfield 19, 3) := by decide +kernel
theorem dX6_house_64 : decode cX6_house 64 = .ok (.getfield 138, 3) := by decide +kernel
theorem dX6_house_67 : decode cX6_house 67 = .ok (.iload_n 1, 1) := by decide +kernel
theorem dX6_house_68 : decode cX6_house 68 = .ok (.iaload, 1) := by decide +kernel
theorem dX6_house_69 : decode cX6_house 69 = .ok (.ireturn, 1) := by decide +kernel
theorem dX6_house_70 : decode cX6_house 70 = .ok (.iconst (-1), 1) := by decide +kernel
theorem dX6_house_71 : decode cX6_house 71 = .ok (.ireturn, 1) := by decide +kernel
theorem dX6_alter_0 : decode cX6_alter 0 = .ok (.aload_n 0, 1) := by decide +kernel
theorem dX6_alter_1 : decode cX6_alter 1 = .ok (.getfield 19, 3) := by decide +kernel
theorem dX6_alter_4 : decode cX6_alter 4 = .ok (.iload_n 1, 1) := by decide +kernel
theorem dX6_alter_5 : decode cX6_alter 5 = .ok (.invokevirtual 129, 3) := by decide +kernel
theorem dX6_alter_8 : decode cX6_alter 8 = .ok (.ifCond .eq 30, 3) := by decide +kernel
theorem dX6_alter_11 : decode cX6_alter 11 = .ok (.iload_n 2, 1) := by decide +kernel
theorem dX6_alter_12 : decode cX6_alter 12 = .ok (.iconst 0, 1) := by decide +kernel
theorem dX6_alter_13 : decode cX6_alter 13 = .ok (.iconst 1, 1) := by decide +kernel
theorem dX6_alter_14 : decode cX6_alter 14 = .ok (.invokestatic 54, 3) := by decide +kernel
theorem dX6_alter_17 : decode cX6_alter 17 = .ok (.ifCond .ne 21, 3) := by decide +kernel
theorem dX6_alter_20 : decode cX6_alter 20 = .ok (.iload_n 3, 1) := by decide +kernel
theorem dX6_alter_21 : decode cX6_alter 21 = .ok (.iconst 0, 1) := by decide +kernel
theorem dX6_alter_22 : decode cX6_alter 22 = .ok (.iload_n 2, 1) := by decide +kernel
theorem dX6_alter_23 : decode cX6_alter 23 = .ok (.ifCond .ne 7, 3) := by decide +kernel
theorem dX6_alter_26 : decode cX6_alter 26 = .ok (.iconst 3, 1) := by decide +kernel
theorem dX6_alter_27 : decode cX6_alter 27 = .ok (.goto 5, 3) := by decide +kernel
theorem dX6_alter_30 : decode cX6_alter 30 = .ok (.bipush 99, 2) := by decide +kernel
theorem dX6_alter_32 : decode cX6_alter 32 = .ok (.invokestatic 54, 3) := by decide +kernel
theorem dX6_alter_35 : decode cX6_alter 35 = .ok (.ifCond .eq 5, 3) := by decide +kernel
theorem dX6_alter_38 : decode cX6_alter 38 = .ok (.iconst (-1), 1) := by decide +kernel
theorem dX6_alter_39 : decode cX6_alter 39 = .ok (.ireturn, 1) := by decide +kernel
theorem dX6_alter_40 : decode cX6_alter 40 = .ok (.iload_n 2, 1) := by decide +kernel
theorem dX6_alter_41 : decode cX6_alter 41 = .ok (.ifCond .ne 13, 3) := by decide +kernel
theorem dX6_alter_44 : decode cX6_alter 44 = .ok (.aload_n 0, 1) := by decide +kernel
theorem dX6_alter_45 : decode cX6_alter 45 = .ok (.getfield 19, 3) := by decide +kernel
theorem dX6_alter_48 : decode cX6_alter 48 = .ok (.getfield 132, 3) := by decide +kernel
theorem dX6_alter_51 : decode cX6_alter 51 = .ok (.goto 10, 3) := by decide +kernel
theorem dX6_alter_54 : decode cX6_alter 54 = .ok (.aload_n 0, 1) := by decide +kernel
theorem dX6_alter_55 : decode cX6_alter 55 = .ok (.getfield 19, 3) := by decide +kernel
theorem dX6_alter_58 : decode cX6_alter 58 = .ok (.getfield 135, 3) := by decide +kernel
theorem dX6_alter_61 : decode cX6_alter 61 = .ok (.astore 4, 2) := by decide +kernel
theorem dX6_alter_63 : decode cX6_alter 63 = .ok (.aload 4, 2) := by decide +kernel
theorem dX6_alter_65 : decode cX6_alter 65 = .ok (.iload_n 1, 1) := by decide +kernel
theorem dX6_alter_66 : decode cX6_alter 66 = .ok (.iaload, 1) := by decide +kernel
theorem dX6_alter_67 : decode cX6_alter 67 = .ok (.istore 5, 2) := by decide +kernel
theorem dX6_alter_69 : decode cX6_alter 69 = .ok (.aload 4, 2) := by decide +kernel
theorem dX6_alter_71 : decode cX6_alter 71 = .ok (.iload_n 1, 1) := by decide +kernel
theorem dX6_alter_72 : decode cX6_alter 72 = .ok (.iload_n 3, 1) := by decide +kernel
theorem dX6_alter_73 : decode cX6_alter 73 = .ok (.iastore, 1) := by decide +kernel
theorem dX6_alter_74 : decode cX6_alter 74 = .ok (.iload 5, 2) := by decide +kernel
theorem dX6_alter_76 : decode cX6_alter 76 = .ok (.ireturn, 1) := by decide +kernel
theorem dX6_set_0 : decode cX6_set 0 = .ok (.iconst (-1), 1) := by decide +kernel
theorem dX6_set_1 : decode cX6_set 1 = .ok (.istore_n 3, 1) := by decide +kernel
theorem dX6_set_2 : decode cX6_set 2 = .ok (.iload_n 1, 1) := by decide +kernel
theorem dX6_set_3 : decode cX6_set 3 = .ok (.iconst 1, 1) := by decide +kernel
theorem dX6_set_4 : decode cX6_set 4 = .ok (.if_icmp .ne 33, 3) := by decide +kernel
theorem dX6_set_7 : decode cX6_set 7 = .ok (.aload_n 0, 1) := by decide +kernel
theorem dX6_set_8 : decode cX6_set 8 = .ok (.getfield 19, 3) := by decide +kernel
theorem dX6_set_11 : decode cX6_set 11 = .ok (.iload_n 2, 1) := by decide +kernel
theorem dX6_set_12 : decode cX6_set 12 = .ok (.invokevirtual 129, 3) := by decide +kernel
theorem dX6_set_15 : decode cX6_set 15 = .ok (.ifCond .eq 22, 3) := by decide +kernel
theorem dX6_set_18 : decode cX6_set 18 = .ok (.aload_n 0, 1) := by decide +kernel
theorem dX6_set_19 : decode cX6_set 19 = .ok (.getfield 19, 3) := by decide +kernel
theorem dX6_set_22 : decode cX6_set 22 = .ok (.getfield 104, 3) := by decide +kernel
theorem dX6_set_25 : decode cX6_set 25 = .ok (.istore_n 3, 1) := by decide +kernel
theorem dX6_set_26 : decode cX6_set 26 = .ok (.aload_n 0, 1) := by decide +kernel
theorem dX6_set_27 : decode cX6_set 27 = .ok (.getfield 19, 3) := by decide +kernel
theorem dX6_set_30 : decode cX6_set 30 = .ok (.iload_n 2, 1) := by decide +kernel
theorem dX6_set_31 : decode cX6_set 31 = .ok (.putfield 104, 3) := by decide +kernel
theorem dX6_set_34 : decode cX6_set 34 = .ok (.goto 68, 3) := by decide +kernel
theorem dX6_set_37 : decode cX6_set 37 = .ok (.iload_n 1, 1) := by decide +kernel
theorem dX6_set_38 : decode cX6_set 38 = .ok (.iconst 2, 1) := by decide +kernel
theorem dX6_set_39 : decode cX6_set 39 = .ok (.if_icmp .ne 32, 3) := by decide +kernel
theorem dX6_set_42 : decode cX6_set 42 = .ok (.iload_n 2, 1) := by decide +kernel
theorem dX6_set_43 : decode cX6_set 43 = .ok (.iconst 0, 1) := by decide +kernel
theorem dX6_set_44 : decode cX6_set 44 = .ok (.bipush 20, 2) := by decide +kernel
theorem dX6_set_46 : decode cX6_set 46 = .ok (.invokestatic 54, 3) := by decide +kernel
theorem dX6_set_49 : decode cX6_set 49 = .ok (.ifCond .ne 22, 3) := by decide +kernel
theorem dX6_set_52 : decode cX6_set 52 = .ok (.aload_n 0, 1) := by decide +kernel
theorem dX6_set_53 : decode cX6_set 53 = .ok (.getfield 19, 3) := by decide +kernel
theorem dX6_set_56 : decode cX6_set 56 = .ok (.getfield 107, 3) := by decide +kernel
theorem dX6_set_59 : decode cX6_set 59 = .ok (.istore_n 3, 1) := by decide +kernel
theorem dX6_set_60 : decode cX6_set 60 = .ok (.aload_n 0, 1) := by decide +kernel
theorem dX6_set_61 : decode cX6_set 61 = .ok (.getfield 19, 3) := by decide +kernel
theorem dX6_set_64 : decode cX6_set 64 = .ok (.iload_n 2, 1) := by decide +kernel
theorem dX6_set_65 : decode cX6_set 65 = .ok (.putfield 107, 3) := by decide +kernel
theorem dX6_set_68 : decode cX6_set 68 = .ok (.goto 34, 3) := by decide +kernel
theorem dX6_set_71 : decode cX6_set 71 = .ok (.iload_n 1, 1) := by decide +kernel
theorem dX6_set_72 : decode cX6_set 72 = .ok (.iconst 3, 1) := by decide +kernel
theorem dX6_set_73 : decode cX6_set 73 = .ok (.if_icmp .ne 29, 3) := by decide +kernel
theorem dX6_set_76 : decode cX6_set 76 = .ok (.iload_n 2, 1) := by decide +kernel
theorem dX6_set_77 : decode cX6_set 77 = .ok (.iconst 0, 1) := by decide +kernel
theorem dX6_set_78 : decode cX6_set 78 = .ok (.bipush 9, 2) := by decide +kernel
theorem dX6_set_80 : decode cX6_set 80 = .ok (.invokestatic 54, 3) := by decide +kernel
theorem dX6_set_83 : decode cX6_set 83 = .ok (.ifCond .ne 19, 3) := by decide +kernel
theorem dX6_set_86 : decode cX6_set 86 = .ok (.aload_n 0, 1) := by decide +kernel
theorem dX6_set_87 : decode cX6_set 87 = .ok (.getfield 19, 3) := by decide +kernel
theorem dX6_set_90 : decode cX6_set 90 = .ok (.getfield 110, 3) := by decide +kernel
theorem dX6_set_93 : decode cX6_set 93 = .ok (.istore_n 3, 1) := by decide +kernel
theorem dX6_set_94 : decode cX6_set 94 = .ok (.aload_n 0, 1) := by decide +kernel
theorem dX6_set_95 : decode cX6_set 95 = .ok (.getfield 19, 3) := by decide +kernel
theorem dX6_set_98 : decode cX6_set 98 = .ok (.iload_n 2, 1) := by decide +kernel
theorem dX6_set_99 : decode cX6_set 99 = .ok (.putfield 110, 3) := by decide +kernel
theorem dX6_set_102 : decode cX6_set 102 = .ok (.iload_n 3, 1) := by decide +kernel
theorem dX6_set_103 : decode cX6_set 103 = .ok (.ireturn, 1) := by decide +kernel
theorem dX6_rain_0 : decode cX6_rain 0 = .ok (.iload_n 1, 1) := by decide +kernel
theorem dX6_rain_1 : decode cX6_rain 1 = .ok (.iconst 0, 1) := by decide +kernel
theorem dX6_rain_2 : decode cX6_rain 2 = .ok (.bipush 6, 2) := by decide +kernel
theorem dX6_rain_4 : decode cX6_rain 4 = .ok (.invokestatic 54, 3) := by decide +kernel
theorem dX6_rain_7 : decode cX6_rain 7 = .ok (.ifCond .eq 5, 3) := by decide +kernel
theorem dX6_rain_10 : decode cX6_rain 10 = .ok (.iconst (-1), 1) := by decide +kernel
theorem dX6_rain_11 : decode cX6_rain 11 = .ok (.ireturn, 1) := by decide +kernel
theorem dX6_rain_12 : decode cX6_rain 12 = .ok (.aload_n 0, 1) := by decide +kernel
theorem dX6_rain_13 : decode cX6_rain 13 = .ok (.getfield 19, 3) := by decide +kernel
theorem dX6_rain_16 : decode cX6_rain 16 = .ok (.getfield 113, 3) := by decide +kernel
theorem dX6_rain_19 : decode cX6_rain 19 = .ok (.iload_n 1, 1) := by decide +kernel
theorem dX6_rain_20 : decode cX6_rain 20 = .ok (.ishr, 1) := by decide +kernel
theorem dX6_rain_21 : decode cX6_rain 21 = .ok (.iconst 1, 1) := by decide +kernel
theorem dX6_rain_22 : decode cX6_rain 22 = .ok (.iand, 1) := by decide +kernel
theorem dX6_rain_23 : decode cX6_rain 23 = .ok (.istore_n 3, 1) := by decide +kernel
theorem dX6_rain_24 : decode cX6_rain 24 = .ok (.aload_n 0, 1) := by decide +kernel
theorem dX6_rain_25 : decode cX6_rain 25 = .ok (.getfield 19, 3) := by decide +kernel
theorem dX6_rain_28 : decode cX6_rain 28 = .ok (.getfield 113, 3) := by decide +kernel
theorem dX6_rain_31 : decode cX6_rain 31 = .ok (.iconst 1, 1) := by decide +kernel
theorem dX6_rain_32 : decode cX6_rain 32 = .ok (.iload_n 1, 1) := by decide +kernel
theorem dX6_rain_33 : decode cX6_rain 33 = .ok (.ishl, 1) := by decide +kernel
theorem dX6_rain_34 : decode cX6_rain 34 = .ok (.iconst (-1), 1) := by decide +kernel
theorem dX6_rain_35 : decode cX6_rain 35 = .ok (.ixor, 1) := by decide +kernel
theorem dX6_rain_36 : decode cX6_rain 36 = .ok (.iand, 1) := by decide +kernel
theorem dX6_rain_37 : decode cX6_rain 37 = .ok (.istore 4, 2) := by decide +kernel
theorem dX6_rain_39 : decode cX6_rain 39 = .ok (.aload_n 0, 1) := by decide +kernel
theorem dX6_rain_40 : decode cX6_rain 40 = .ok (.getfield 19, 3) := by decide +kernel
theorem dX6_rain_43 : decode cX6_rain 43 = .ok (.iload_n 2, 1) := by decide +kernel
theorem dX6_rain_44 : decode cX6_rain 44 = .ok (.ifCond .eq 12, 3) := by decide +kernel
theorem dX6_rain_47 : decode cX6_rain 47 = .ok (.iload 4, 2) := by decide +kernel
theorem dX6_rain_49 : decode cX6_rain 49 = .ok (.iconst 1, 1) := by decide +kernel
theorem dX6_rain_50 : decode cX6_rain 50 = .ok (.iload_n 1, 1) := by decide +kernel
theorem dX6_rain_51 : decode cX6_rain 51 = .ok (.ishl, 1) := by decide +kernel
theorem dX6_rain_52 : decode cX6_rain 52 = .ok (.ior, 1) := by decide +kernel
theorem dX6_rain_53 : decode cX6_rain 53 = .ok (.goto 5, 3) := by decide +kernel
theorem dX6_rain_56 : decode cX6_rain 56 = .ok (.iload 4, 2) := by decide +kernel
theorem dX6_rain_58 : decode cX6_rain 58 = .ok (.putfield 113, 3) := by decide +kernel
theorem dX6_rain_61 : decode cX6_rain 61 = .ok (.iload_n 3, 1) := by decide +kernel
theorem dX6_rain_62 : decode cX6_rain 62 = .ok (.ireturn, 1) := by decide +kernel
theorem dX6_offer_0 : decode cX6_offer 0 = .ok (.aload_n 0, 1) := by decide +kernel
theorem dX6_offer_1 : decode cX6_offer 1 = .ok (.getfield 19, 3) := by decide +kernel
theorem dX6_offer_4 : decode cX6_offer 4 = .ok (.iload_n 1, 1) := by decide +kernel
theorem dX6_offer_5 : decode cX6_offer 5 = .ok (.iload_n 2, 1) := by decide +kernel
theorem dX6_offer_6 : decode cX6_offer 6 = .ok (.invokevirtual 141, 3) := by decide +kernel
theorem dX6_offer_9 : decode cX6_offer 9 = .ok (.ireturn, 1) := by decide +kernel
theorem dX6_go_0 : decode cX6_go 0 = .ok (.iload_n 1, 1) := by decide +kernel
theorem dX6_go_1 : decode cX6_go 1 = .ok (.iconst 0, 1) := by decide +kernel
theorem dX6_go_2 : decode cX6_go 2 = .ok (.bipush 30, 2) := by decide +kernel
theorem dX6_go_4 : decode cX6_go 4 = .ok (.invokestatic 54, 3) := by decide +kernel
theorem dX6_go_7 : decode cX6_go 7 = .ok (.ifCond .eq 5, 3) := by decide +kernel
theorem dX6_go_10 : decode cX6_go 10 = .ok (.iconst (-1), 1) := by decide +kernel
theorem dX6_go_11 : decode cX6_go 11 = .ok (.ireturn, 1) := by decide +kernel
theorem dX6_go_12 : decode cX6_go 12 = .ok (.aload_n 0, 1) := by decide +kernel
theorem dX6_go_13 : decode cX6_go 13 = .ok (.getfield 19, 3) := by decide +kernel
theorem dX6_go_16 : decode cX6_go 16 = .ok (.getfield 116, 3) := by decide +kernel
theorem dX6_go_19 : decode cX6_go 19 = .ok (.iload_n 1, 1) := by decide +kernel
theorem dX6_go_20 : decode cX6_go 20 = .ok (.iadd, 1) := by decide +kernel
theorem dX6_go_21 : decode cX6_go 21 = .ok (.sipush 999, 3) := by decide +kernel
theorem dX6_go_24 : decode cX6_go 24 = .ok (.if_icmp .le 6, 3) := by decide +kernel
theorem dX6_go_27 : decode cX6_go 27 = .ok (.bipush (-3), 2) := by decide +kernel
theorem dX6_go_29 : decode cX6_go 29 = .ok (.ireturn, 1) := by decide +kernel
theorem dX6_go_30 : decode cX6_go 30 = .ok (.aload_n 0, 1) := by decide +kernel
theorem dX6_go_31 : decode cX6_go 31 = .ok (.getfield 19, 3) := by decide +kernel
theorem dX6_go_34 : decode cX6_go 34 = .ok (.getfield 119, 3) := by decide +kernel
theorem dX6_go_37 : decode cX6_go 37 = .ok (.istore_n 2, 1) := by decide +kernel
theorem dX6_go_38 : decode cX6_go 38 = .ok (.aload_n 0, 1) := by decide +kernel
theorem dX6_go_39 : decode cX6_go 39 = .ok (.getfield 19, 3) := by decide +kernel
theorem dX6_go_42 : decode cX6_go 42 = .ok (.iload_n 1, 1) := by decide +kernel
theorem dX6_go_43 : decode cX6_go 43 = .ok (.invokevirtual 145, 3) := by decide +kernel
theorem dX6_go_46 : decode cX6_go 46 = .ok (.aload_n 0, 1) := by decide +kernel
theorem dX6_go_47 : decode cX6_go 47 = .ok (.getfield 19, 3) := by decide +kernel
theorem dX6_go_50 : decode cX6_go 50 = .ok (.getfield 119, 3) := by decide +kernel
theorem dX6_go_53 : decode cX6_go 53 = .ok (.iload_n 2, 1) := by decide +kernel
theorem dX6_go_54 : decode cX6_go 54 = .ok (.isub, 1) := by decide +kernel
theorem dX6_go_55 : decode cX6_go 55 = .ok (.ireturn, 1) := by decide +kernel
theorem dX6_runs_0 : decode cX6_runs 0 = .ok (.iload_n 1, 1) := by decide +kernel
theorem dX6_runs_1 : decode cX6_runs 1 = .ok (.iconst 0, 1) := by decide +kernel
theorem dX6_runs_2 : decode cX6_runs 2 = .ok (.bipush 30, 2) := by decide +kernel
theorem dX6_runs_4 : decode cX6_runs 4 = .ok (.invokestatic 54, 3) := by decide +kernel
theorem dX6_runs_7 : decode cX6_runs 7 = .ok (.ifCond .ne 12, 3) := by decide +kernel
theorem dX6_runs_10 : decode cX6_runs 10 = .ok (.iload_n 2, 1) := by decide +kernel
theorem dX6_runs_11 : decode cX6_runs 11 = .ok (.iconst 0, 1) := by decide +kernel
theorem dX6_runs_12 : decode cX6_runs 12 = .ok (.iconst 5, 1) := by decide +kernel
theorem dX6_runs_13 : decode cX6_runs 13 = .ok (.invokestatic 54, 3) := by decide +kernel
theorem dX6_runs_16 : decode cX6_runs 16 = .ok (.ifCond .eq 5, 3) := by decide +kernel
theorem dX6_runs_19 : decode cX6_runs 19 = .ok (.iconst (-1), 1) := by decide +kernel
theorem dX6_runs_20 : decode cX6_runs 20 = .ok (.ireturn, 1) := by decide +kernel
theorem dX6_runs_21 : decode cX6_runs 21 = .ok (.aload_n 0, 1) := by decide +kernel
theorem dX6_runs_22 : decode cX6_runs 22 = .ok (.invokevirtual 149, 3) := by decide +kernel
theorem dX6_runs_25 : decode cX6_runs 25 = .ok (.bipush (-4), 2) := by decide +kernel
theorem dX6_runs_27 : decode cX6_runs 27 = .ok (.istore_n 3, 1) := by decide +kernel
theorem dX6_runs_28 : decode cX6_runs 28 = .ok (.iconst 1, 1) := by decide +kernel
theorem dX6_runs_29 : decode cX6_runs 29 = .ok (.istore 4, 2) := by decide +kernel
theorem dX6_runs_31 : decode cX6_runs 31 = .ok (.iload 4, 2) := by decide +kernel
theorem dX6_runs_33 : decode cX6_runs 33 = .ok (.iload_n 1, 1) := by decide +kernel
theorem dX6_runs_34 : decode cX6_runs 34 = .ok (.if_icmp .gt 35, 3) := by decide +kernel
theorem dX6_runs_37 : decode cX6_runs 37 = .ok (.aload_n 0, 1) := by decide +kernel
theorem dX6_runs_38 : decode cX6_runs 38 = .ok (.getfield 23, 3) := by decide +kernel
theorem dX6_runs_41 : decode cX6_runs 41 = .ok (.invokevirtual 152, 3) := by decide +kernel
theorem dX6_runs_44 : decode cX6_runs 44 = .ok (.iload_n 3, 1) := by decide +kernel
theorem dX6_runs_45 : decode cX6_runs 45 = .ok (.bipush (-4), 2) := by decide +kernel
theorem dX6_runs_47 : decode cX6_runs 47 = .ok (.if_icmp .ne 16, 3) := by decide +kernel
theorem dX6_runs_50 : decode cX6_runs 50 = .ok (.aload_n 0, 1) := by decide +kernel
theorem dX6_runs_51 : decode cX6_runs 51 = .ok (.getfield 23, 3) := by decide +kernel
theorem dX6_runs_54 : decode cX6_runs 54 = .ok (.getfield 119, 3) := by decide +kernel
theorem dX6_runs_57 : decode cX6_runs 57 = .ok (.ifCond .le 6, 3) := by decide +kernel
theorem dX6_runs_60 : decode cX6_runs 60 = .ok (.iload 4, 2) := by decide +kernel
theorem dX6_runs_62 : decode cX6_runs 62 = .ok (.istore_n 3, 1) := by decide +kernel
theorem dX6_runs_63 : decode cX6_runs 63 = .ok (.iinc 4 1, 3) := by decide +kernel
theorem dX6_runs_66 : decode cX6_runs 66 = .ok (.goto (-35), 3) := by decide +kernel
theorem dX6_runs_69 : decode cX6_runs 69 = .ok (.iload_n 2, 1) := by decide +kernel
theorem dX6_runs_70 : decode cX6_runs 70 = .ok (.tableswitch 74 0 4 #[34, 42, 50, 58, 66], 34) := by decide +kernel
theorem dX6_runs_104 : decode cX6_runs 104 = .ok (.aload_n 0, 1) := by decide +kernel
theorem dX6_runs_105 : decode cX6_runs 105 = .ok (.getfield 23, 3) := by decide +kernel
theorem dX6_runs_108 : decode cX6_runs 108 = .ok (.getfield 119, 3) := by decide +kernel
theorem dX6_runs_111 : decode cX6_runs 111 = .ok (.ireturn, 1) := by decide +kernel
theorem dX6_runs_112 : decode cX6_runs 112 = .ok (.aload_n 0, 1) := by decide +kernel
theorem dX6_runs_113 : decode cX6_runs 113 = .ok (.getfield 23, 3) := by decide +kernel
theorem dX6_runs_116 : decode cX6_runs 116 = .ok (.getfield 122, 3) := by decide +kernel
theorem dX6_runs_119 : decode cX6_runs 119 = .ok (.ireturn, 1) := by decide +kernel
theorem dX6_runs_120 : decode cX6_runs 120 = .ok (.aload_n 0, 1) := by decide +kernel
theorem dX6_runs_121 : decode cX6_runs 121 = .ok (.getfield 23, 3) := by decide +kernel
theorem dX6_runs_124 : decode cX6_runs 124 = .ok (.getfield 107, 3) := by decide +kernel
theorem dX6_runs_127 : decode cX6_runs 127 = .ok (.ireturn, 1) := by decide +kernel
theorem dX6_runs_128 : decode cX6_runs 128 = .ok (.aload_n 0, 1) := by decide +kernel
theorem dX6_runs_129 : decode cX6_runs 129 = .ok (.getfield 23, 3) := by decide +kernel
theorem dX6_runs_132 : decode cX6_runs 132 = .ok (.getfield 110, 3) := by decide +kernel
theorem dX6_runs_135 : decode cX6_runs 135 = .ok (.ireturn, 1) := by decide +kernel
theorem dX6_runs_136 : decode cX6_runs 136 = .ok (.aload_n 0, 1) := by decide +kernel
theorem dX6_runs_137 : decode cX6_runs 137 = .ok (.getfield 23, 3) := by decide +kernel
theorem dX6_runs_140 : decode cX6_runs 140 = .ok (.getfield 104, 3) := by decide +kernel
theorem dX6_runs_143 : decode cX6_runs 143 = .ok (.ireturn, 1) := by decide +kernel
theorem dX6_runs_144 : decode cX6_runs 144 = .ok (.iload_n 3, 1) := by decide +kernel
theorem dX6_runs_145 : decode cX6_runs 145 = .ok (.ireturn, 1) := by decide +kernel
theorem dX6_ahead_0 : decode cX6_ahead 0 = .ok (.aload_n 0, 1) := by decide +kernel
theorem dX6_ahead_1 : decode cX6_ahead 1 = .ok (.getfield 19, 3) := by decide +kernel
theorem dX6_ahead_4 : decode cX6_ahead 4 = .ok (.iload_n 1, 1) := by decide +kernel
theorem dX6_ahead_5 : decode cX6_ahead 5 = .ok (.invokevirtual 129, 3) := by decide +kernel
theorem dX6_ahead_8 : decode cX6_ahead 8 = .ok (.ifCond .eq 13, 3) := by decide +kernel
theorem dX6_ahead_11 : decode cX6_ahead 11 = .ok (.iload_n 2, 1) := by decide +kernel
theorem dX6_ahead_12 : decode cX6_ahead 12 = .ok (.iconst 0, 1) := by decide +kernel
theorem dX6_ahead_13 : decode cX6_ahead 13 = .ok (.bipush 30, 2) := by decide +kernel
theorem dX6_ahead_15 : decode cX6_ahead 15 = .ok (.invokestatic 54, 3) := by decide +kernel
theorem dX6_ahead_18 : decode cX6_ahead 18 = .ok (.ifCond .eq 5, 3) := by decide +kernel
theorem dX6_ahead_21 : decode cX6_ahead 21 = .ok (.iconst (-1), 1) := by decide +kernel
theorem dX6_ahead_22 : decode cX6_ahead 22 = .ok (.ireturn, 1) := by decide +kernel
theorem dX6_ahead_23 : decode cX6_ahead 23 = .ok (.aload_n 0, 1) := by decide +kernel
theorem dX6_ahead_24 : decode cX6_ahead 24 = .ok (.invokevirtual 149, 3) := by decide +kernel
theorem dX6_ahead_27 : decode cX6_ahead 27 = .ok (.aload_n 0, 1) := by decide +kernel
theorem dX6_ahead_28 : decode cX6_ahead 28 = .ok (.getfield 23, 3) := by decide +kernel
theorem dX6_ahead_31 : decode cX6_ahead 31 = .ok (.iload_n 2, 1) := by decide +kernel
theorem dX6_ahead_32 : decode cX6_ahead 32 = .ok (.invokevirtual 145, 3) := by decide +kernel
theorem dX6_ahead_35 : decode cX6_ahead 35 = .ok (.aload_n 0, 1) := by decide +kernel
theorem dX6_ahead_36 : decode cX6_ahead 36 = .ok (.getfield 23, 3) := by decide +kernel
theorem dX6_ahead_39 : decode cX6_ahead 39 = .ok (.getfield 135, 3) := by decide +kernel
theorem dX6_ahead_42 : decode cX6_ahead 42 = .ok (.iload_n 1, 1) := by decide +kernel
theorem dX6_ahead_43 : decode cX6_ahead 43 = .ok (.iaload, 1) := by decide +kernel
theorem dX6_ahead_44 : decode cX6_ahead 44 = .ok (.ireturn, 1) := by decide +kernel
theorem dX6_bare_0 : decode cX6_bare 0 = .ok (.aload_n 0, 1) := by decide +kernel
theorem dX6_bare_1 : decode cX6_bare 1 = .ok (.getfield 19, 3) := by decide +kernel
theorem dX6_bare_4 : decode cX6_bare 4 = .ok (.iload_n 1, 1) := by decide +kernel
theorem dX6_bare_5 : decode cX6_bare 5 = .ok (.invokevirtual 129, 3) := by decide +kernel
theorem dX6_bare_8 : decode cX6_bare 8 = .ok (.ifCond .ne 5, 3) := by decide +kernel
theorem dX6_bare_11 : decode cX6_bare 11 = .ok (.iconst (-1), 1) := by decide +kernel
theorem dX6_bare_12 : decode cX6_bare 12 = .ok (.ireturn, 1) := by decide +kernel
theorem dX6_bare_13 : decode cX6_bare 13 = .ok (.aload_n 0, 1) := by decide +kernel
theorem dX6_bare_14 : decode cX6_bare 14 = .ok (.invokevirtual 149, 3) := by decide +kernel
theorem dX6_bare_17 : decode cX6_bare 17 = .ok (.iconst 0, 1) := by decide +kernel
theorem dX6_bare_18 : decode cX6_bare 18 = .ok (.istore_n 2, 1) := by decide +kernel
theorem dX6_bare_19 : decode cX6_bare 19 = .ok (.iload_n 2, 1) := by decide +kernel
theorem dX6_bare_20 : decode cX6_bare 20 = .ok (.bipush 60, 2) := by decide +kernel
theorem dX6_bare_22 : decode cX6_bare 22 = .ok (.if_icmp .gt 30, 3) := by decide +kernel
theorem dX6_bare_25 : decode cX6_bare 25 = .ok (.aload_n 0, 1) := by decide +kernel
theorem dX6_bare_26 : decode cX6_bare 26 = .ok (.getfield 23, 3) := by decide +kernel
theorem dX6_bare_29 : decode cX6_bare 29 = .ok (.getfield 135, 3) := by decide +kernel
theorem dX6_bare_32 : decode cX6_bare 32 = .ok (.iload_n 1, 1) := by decide +kernel
theorem dX6_bare_33 : decode cX6_bare 33 = .ok (.iaload, 1) := by decide +kernel
theorem dX6_bare_34 : decode cX6_bare 34 = .ok (.ifCond .ne 5, 3) := by decide +kernel
theorem dX6_bare_37 : decode cX6_bare 37 = .ok (.iload_n 2, 1) := by decide +kernel
theorem dX6_bare_38 : decode cX6_bare 38 = .ok (.ireturn, 1) := by decide +kernel
theorem dX6_bare_39 : decode cX6_bare 39 = .ok (.aload_n 0, 1) := by decide +kernel
theorem dX6_bare_40 : decode cX6_bare 40 = .ok (.getfield 23, 3) := by decide +kernel
theorem dX6_bare_43 : decode cX6_bare 43 = .ok (.invokevirtual 152, 3) := by decide +kernel
theorem dX6_bare_46 : decode cX6_bare 46 = .ok (.iinc 2 1, 3) := by decide +kernel
theorem dX6_bare_49 : decode cX6_bare 49 = .ok (.goto (-30), 3) := by decide +kernel
theorem dX6_bare_52 : decode cX6_bare 52 = .ok (.bipush (-4), 2) := by decide +kernel
theorem dX6_bare_54 : decode cX6_bare 54 = .ok (.ireturn, 1) := by decide +kernel
theorem dX6_best_0 : decode cX6_best 0 = .ok (.iload_n 2, 1) := by decide +kernel
theorem dX6_best_1 : decode cX6_best 1 = .ok (.bipush 10, 2) := by decide +kernel
theorem dX6_best_3 : decode cX6_best 3 = .ok (.isub, 1) := by decide +kernel
theorem dX6_best_4 : decode cX6_best 4 = .ok (.istore_n 3, 1) := by decide +kernel
theorem dX6_best_5 : decode cX6_best 5 = .ok (.iload_n 1, 1) := by decide +kernel
theorem dX6_best_6 : decode cX6_best 6 = .ok (.iconst 0, 1) := by decide +kernel
theorem dX6_best_7 : decode cX6_best 7 = .ok (.bipush 20, 2) := by decide +kernel
theorem dX6_best_9 : decode cX6_best 9 = .ok (.invokestatic 54, 3) := by decide +kernel
theorem dX6_best_12 : decode cX6_best 12 = .ok (.ifCond .ne 18, 3) := by decide +kernel
theorem dX6_best_15 : decode cX6_best 15 = .ok (.iload_n 2, 1) := by decide +kernel
theorem dX6_best_16 : decode cX6_best 16 = .ok (.ifCond .eq 16, 3) := by decide +kernel
theorem dX6_best_19 : decode cX6_best 19 = .ok (.aload_n 0, 1) := by decide +kernel
theorem dX6_best_20 : decode cX6_best 20 = .ok (.getfield 19, 3) := by decide +kernel
theorem dX6_best_23 : decode cX6_best 23 = .ok (.iload_n 3, 1) := by decide +kernel
theorem dX6_best_24 : decode cX6_best 24 = .ok (.invokevirtual 129, 3) := by decide +kernel
theorem dX6_best_27 : decode cX6_best 27 = .ok (.ifCond .ne 5, 3) := by decide +kernel
theorem dX6_best_30 : decode cX6_best 30 = .ok (.iconst (-1), 1) := by decide +kernel
theorem dX6_best_31 : decode cX6_best 31 = .ok (.ireturn, 1) := by decide +kernel
theorem dX6_best_32 : decode cX6_best 32 = .ok (.aload_n 0, 1) := by decide +kernel
theorem dX6_best_33 : decode cX6_best 33 = .ok (.getfield 19, 3) := by decide +kernel
theorem dX6_best_36 : decode cX6_best 36 = .ok (.invokevirtual 155, 3) := by decide +kernel
theorem dX6_best_39 : decode cX6_best 39 = .ok (.istore 4, 2) := by decide +kernel
theorem dX6_best_41 : decode cX6_best 41 = .ok (.iconst 0, 1) := by decide +kernel
theorem dX6_best_42 : decode cX6_best 42 = .ok (.istore 5, 2) := by decide +kernel
theorem dX6_best_44 : decode cX6_best 44 = .ok (.aload_n 0, 1) := by decide +kernel
theorem dX6_best_45 : decode cX6_best 45 = .ok (.iconst 0, 1) := by decide +kernel
theorem dX6_best_46 : decode cX6_best 46 = .ok (.iload_n 1, 1) := by decide +kernel
theorem dX6_best_47 : decode cX6_best 47 = .ok (.invokevirtual 158, 3) := by decide +kernel
theorem dX6_best_50 : decode cX6_best 50 = .ok (.istore 6, 2) := by decide +kernel
theorem dX6_best_52 : decode cX6_best 52 = .ok (.iconst 1, 1) := by decide +kernel
theorem dX6_best_53 : decode cX6_best 53 = .ok (.istore 7, 2) := by decide +kernel
theorem dX6_best_55 : decode cX6_best 55 = .ok (.iload 7, 2) := by decide +kernel
theorem dX6_best_57 : decode cX6_best 57 = .ok (.iload 4, 2) := by decide +kernel
theorem dX6_best_59 : decode cX6_best 59 = .ok (.if_icmp .ge 38, 3) := by decide +kernel
theorem dX6_best_62 : decode cX6_best 62 = .ok (.iload 6, 2) := by decide +kernel
theorem dX6_best_64 : decode cX6_best 64 = .ok (.ifCond .le 33, 3) := by decide +kernel
theorem dX6_best_67 : decode cX6_best 67 = .ok (.aload_n 0, 1) := by decide +kernel
theorem dX6_best_68 : decode cX6_best 68 = .ok (.iload 7, 2) := by decide +kernel
theorem dX6_best_70 : decode cX6_best 70 = .ok (.iload_n 1, 1) := by decide +kernel
theorem dX6_best_71 : decode cX6_best 71 = .ok (.invokevirtual 158, 3) := by decide +kernel
theorem dX6_best_74 : decode cX6_best 74 = .ok (.istore 8, 2) := by decide +kernel
theorem dX6_best_76 : decode cX6_best 76 = .ok (.iload 8, 2) := by decide +kernel
theorem dX6_best_78 : decode cX6_best 78 = .ok (.iload 6, 2) := by decide +kernel
theorem dX6_best_80 : decode cX6_best 80 = .ok (.if_icmp .ge 11, 3) := by decide +kernel
theorem dX6_best_83 : decode cX6_best 83 = .ok (.iload 8, 2) := by decide +kernel
theorem dX6_best_85 : decode cX6_best 85 = .ok (.istore 6, 2) := by decide +kernel
theorem dX6_best_87 : decode cX6_best 87 = .ok (.iload 7, 2) := by decide +kernel
theorem dX6_best_89 : decode cX6_best 89 = .ok (.istore 5, 2) := by decide +kernel
theorem dX6_best_91 : decode cX6_best 91 = .ok (.iinc 7 1, 3) := by decide +kernel
theorem dX6_best_94 : decode cX6_best 94 = .ok (.goto (-39), 3) := by decide +kernel
theorem dX6_best_97 : decode cX6_best 97 = .ok (.iload_n 2, 1) := by decide +kernel
theorem dX6_best_98 : decode cX6_best 98 = .ok (.ifCond .ne 8, 3) := by decide +kernel
theorem dX6_best_101 : decode cX6_best 101 = .ok (.iload 6, 2) := by decide +kernel
theorem dX6_best_103 : decode cX6_best 103 = .ok (.goto 13, 3) := by decide +kernel
theorem dX6_best_106 : decode cX6_best 106 = .ok (.aload_n 0, 1) := by decide +kernel
theorem dX6_best_107 : decode cX6_best 107 = .ok (.getfield 19, 3) := by decide +kernel
theorem dX6_best_110 : decode cX6_best 110 = .ok (.iload 5, 2) := by decide +kernel
theorem dX6_best_112 : decode cX6_best 112 = .ok (.iload_n 3, 1) := by decide +kernel
theorem dX6_best_113 : decode cX6_best 113 = .ok (.invokevirtual 161, 3) := by decide +kernel
theorem dX6_best_116 : decode cX6_best 116 = .ok (.ireturn, 1) := by decide +kernel
theorem dX6_change_0 : decode cX6_change 0 = .ok (.iload_n 1, 1) := by decide +kernel
theorem dX6_change_1 : decode cX6_change 1 = .ok (.iconst 0, 1) := by decide +kernel
theorem dX6_change_2 : decode cX6_change 2 = .ok (.bipush 20, 2) := by decide +kernel
theorem dX6_change_4 : decode cX6_change 4 = .ok (.invokestatic 54, 3) := by decide +kernel
theorem dX6_change_7 : decode cX6_change 7 = .ok (.ifCond .ne 12, 3) := by decide +kernel
theorem dX6_change_10 : decode cX6_change 10 = .ok (.iload_n 2, 1) := by decide +kernel
theorem dX6_change_11 : decode cX6_change 11 = .ok (.iconst 0, 1) := by decide +kernel
theorem dX6_change_12 : decode cX6_change 12 = .ok (.iconst 1, 1) := by decide +kernel
theorem dX6_change_13 : decode cX6_change 13 = .ok (.invokestatic 54, 3) := by decide +kernel
theorem dX6_change_16 : decode cX6_change 16 = .ok (.ifCond .eq 5, 3) := by decide +kernel
theorem dX6_change_19 : decode cX6_change 19 = .ok (.iconst (-1), 1) := by decide +kernel
theorem dX6_change_20 : decode cX6_change 20 = .ok (.ireturn, 1) := by decide +kernel
theorem dX6_change_21 : decode cX6_change 21 = .ok (.aload_n 0, 1) := by decide +kernel
theorem dX6_change_22 : decode cX6_change 22 = .ok (.iload_n 1, 1) := by decide +kernel
theorem dX6_change_23 : decode cX6_change 23 = .ok (.invokevirtual 164, 3) := by decide +kernel
theorem dX6_change_26 : decode cX6_change 26 = .ok (.istore_n 3, 1) := by decide +kernel
theorem dX6_change_27 : decode cX6_change 27 = .ok (.bipush (-4), 2) := by decide +kernel
theorem dX6_change_29 : decode cX6_change 29 = .ok (.istore 4, 2) := by decide +kernel
theorem dX6_change_31 : decode cX6_change 31 = .ok (.iconst 0, 1) := by decide +kernel
theorem dX6_change_32 : decode cX6_change 32 = .ok (.istore 5, 2) := by decide +kernel
theorem dX6_change_34 : decode cX6_change 34 = .ok (.iload 5, 2) := by decide +kernel
theorem dX6_change_36 : decode cX6_change 36 = .ok (.aload_n 0, 1) := by decide +kernel
theorem dX6_change_37 : decode cX6_change 37 = .ok (.getfield 19, 3) := by decide +kernel
theorem dX6_change_40 : decode cX6_change 40 = .ok (.getfield 101, 3) := by decide +kernel
theorem dX6_change_43 : decode cX6_change 43 = .ok (.if_icmp .ge 59, 3) := by decide +kernel
theorem dX6_change_46 : decode cX6_change 46 = .ok (.iconst 0, 1) := by decide +kernel
theorem dX6_change_47 : decode cX6_change 47 = .ok (.istore 6, 2) := by decide +kernel
theorem dX6_change_49 : decode cX6_change 49 = .ok (.iload 6, 2) := by decide +kernel
theorem dX6_change_51 : decode cX6_change 51 = .ok (.iconst 4, 1) := by decide +kernel
theorem dX6_change_52 : decode cX6_change 52 = .ok (.if_icmp .ge 44, 3) := by decide +kernel
theorem dX6_change_55 : decode cX6_change 55 = .ok (.aload_n 0, 1) := by decide +kernel
theorem dX6_change_56 : decode cX6_change 56 = .ok (.iconst 1, 1) := by decide +kernel
theorem dX6_change_57 : decode cX6_change 57 = .ok (.iload 5, 2) := by decide +kernel
theorem dX6_change_59 : decode cX6_change 59 = .ok (.ishl, 1) := by decide +kernel
theorem dX6_change_60 : decode cX6_change 60 = .ok (.iload 6, 2) := by decide +kernel
theorem dX6_change_62 : decode cX6_change 62 = .ok (.iload_n 1, 1) := by decide +kernel
theorem dX6_change_63 : decode cX6_change 63 = .ok (.invokevirtual 168, 3) := by decide +kernel
theorem dX6_change_66 : decode cX6_change 66 = .ok (.invokevirtual 172, 3) := by decide +kernel
theorem dX6_change_69 : decode cX6_change 69 = .ok (.istore 7, 2) := by decide +kernel
theorem dX6_change_71 : decode cX6_change 71 = .ok (.iload 7, 2) := by decide +kernel
theorem dX6_change_73 : decode cX6_change 73 = .ok (.iload_n 3, 1) := by decide +kernel
theorem dX6_change_74 : decode cX6_change 74 = .ok (.if_icmp .ge 16, 3) := by decide +kernel
theorem dX6_change_77 : decode cX6_change 77 = .ok (.iload 7, 2) := by decide +kernel
theorem dX6_change_79 : decode cX6_change 79 = .ok (.istore_n 3, 1) := by decide +kernel
theorem dX6_change_80 : decode cX6_change 80 = .ok (.bipush 10, 2) := by decide +kernel
theorem dX6_change_82 : decode cX6_change 82 = .ok (.iload 5, 2) := by decide +kernel
theorem dX6_change_84 : decode cX6_change 84 = .ok (.imul, 1) := by decide +kernel
theorem dX6_change_85 : decode cX6_change 85 = .ok (.iload 6, 2) := by decide +kernel
theorem dX6_change_87 : decode cX6_change 87 = .ok (.iadd, 1) := by decide +kernel
theorem dX6_change_88 : decode cX6_change 88 = .ok (.istore 4, 2) := by decide +kernel
theorem dX6_change_90 : decode cX6_change 90 = .ok (.iinc 6 1, 3) := by decide +kernel
theorem dX6_change_93 : decode cX6_change 93 = .ok (.goto (-44), 3) := by decide +kernel
theorem dX6_change_96 : decode cX6_change 96 = .ok (.iinc 5 1, 3) := by decide +kernel
theorem dX6_change_99 : decode cX6_change 99 = .ok (.goto (-65), 3) := by decide +kernel
theorem dX6_change_102 : decode cX6_change 102 = .ok (.iload 4, 2) := by decide +kernel
theorem dX6_change_104 : decode cX6_change 104 = .ok (.bipush (-4), 2) := by decide +kernel
theorem dX6_change_106 : decode cX6_change 106 = .ok (.if_icmp .ne 6, 3) := by decide +kernel
theorem dX6_change_109 : decode cX6_change 109 = .ok (.bipush (-4), 2) := by decide +kernel
theorem dX6_change_111 : decode cX6_change 111 = .ok (.ireturn, 1) := by decide +kernel
theorem dX6_change_112 : decode cX6_change 112 = .ok (.iload_n 2, 1) := by decide +kernel
theorem dX6_change_113 : decode cX6_change 113 = .ok (.ifCond .ne 8, 3) := by decide +kernel
theorem dX6_change_116 : decode cX6_change 116 = .ok (.iload 4, 2) := by decide +kernel
theorem dX6_change_118 : decode cX6_change 118 = .ok (.goto 4, 3) := by decide +kernel
theorem dX6_change_121 : decode cX6_change 121 = .ok (.iload_n 3, 1) := by decide +kernel
theorem dX6_change_122 : decode cX6_change 122 = .ok (.ireturn, 1) := by decide +kernel
theorem dX6_cooks_0 : decode cX6_cooks 0 = .ok (.iload_n 1, 1) := by decide +kernel
theorem dX6_cooks_1 : decode cX6_cooks 1 = .ok (.iconst 0, 1) := by decide +kernel
theorem dX6_cooks_2 : decode cX6_cooks 2 = .ok (.bipush 20, 2) := by decide +kernel
theorem dX6_cooks_4 : decode cX6_cooks 4 = .ok (.invokestatic 54, 3) := by decide +kernel
theorem dX6_cooks_7 : decode cX6_cooks 7 = .ok (.ifCond .ne 12, 3) := by decide +kernel
theorem dX6_cooks_10 : decode cX6_cooks 10 = .ok (.iload_n 2, 1) := by decide +kernel
theorem dX6_cooks_11 : decode cX6_cooks 11 = .ok (.iconst 0, 1) := by decide +kernel
theorem dX6_cooks_12 : decode cX6_cooks 12 = .ok (.iconst 1, 1) := by decide +kernel
theorem dX6_cooks_13 : decode cX6_cooks 13 = .ok (.invokestatic 54, 3) := by decide +kernel
theorem dX6_cooks_16 : decode cX6_cooks 16 = .ok (.ifCond .eq 5, 3) := by decide +kernel
theorem dX6_cooks_19 : decode cX6_cooks 19 = .ok (.iconst (-1), 1) := by decide +kernel
theorem dX6_cooks_20 : decode cX6_cooks 20 = .ok (.ireturn, 1) := by decide +kernel
theorem dX6_cooks_21 : decode cX6_cooks 21 = .ok (.bipush 6, 2) := by decide +kernel
theorem dX6_cooks_23 : decode cX6_cooks 23 = .ok (.istore_n 3, 1) := by decide +kernel
theorem dX6_cooks_24 : decode cX6_cooks 24 = .ok (.bipush (-4), 2) := by decide +kernel
theorem dX6_cooks_26 : decode cX6_cooks 26 = .ok (.istore 4, 2) := by decide +kernel
theorem dX6_cooks_28 : decode cX6_cooks 28 = .ok (.iconst 0, 1) := by decide +kernel
theorem dX6_cooks_29 : decode cX6_cooks 29 = .ok (.istore 5, 2) := by decide +kernel
theorem dX6_cooks_31 : decode cX6_cooks 31 = .ok (.iload 5, 2) := by decide +kernel
theorem dX6_cooks_33 : decode cX6_cooks 33 = .ok (.iconst 1, 1) := by decide +kernel
theorem dX6_cooks_34 : decode cX6_cooks 34 = .ok (.aload_n 0, 1) := by decide +kernel
theorem dX6_cooks_35 : decode cX6_cooks 35 = .ok (.getfield 19, 3) := by decide +kernel
theorem dX6_cooks_38 : decode cX6_cooks 38 = .ok (.getfield 101, 3) := by decide +kernel
theorem dX6_cooks_41 : decode cX6_cooks 41 = .ok (.ishl, 1) := by decide +kernel
theorem dX6_cooks_42 : decode cX6_cooks 42 = .ok (.if_icmp .ge 43, 3) := by decide +kernel
theorem dX6_cooks_45 : decode cX6_cooks 45 = .ok (.iload 5, 2) := by decide +kernel
theorem dX6_cooks_47 : decode cX6_cooks 47 = .ok (.invokestatic 175, 3) := by decide +kernel
theorem dX6_cooks_50 : decode cX6_cooks 50 = .ok (.istore 6, 2) := by decide +kernel
theorem dX6_cooks_52 : decode cX6_cooks 52 = .ok (.iload 6, 2) := by decide +kernel
theorem dX6_cooks_54 : decode cX6_cooks 54 = .ok (.iload_n 3, 1) := by decide +kernel
theorem dX6_cooks_55 : decode cX6_cooks 55 = .ok (.if_icmp .ge 24, 3) := by decide +kernel
theorem dX6_cooks_58 : decode cX6_cooks 58 = .ok (.aload_n 0, 1) := by decide +kernel
theorem dX6_cooks_59 : decode cX6_cooks 59 = .ok (.iload 5, 2) := by decide +kernel
theorem dX6_cooks_61 : decode cX6_cooks 61 = .ok (.iconst 3, 1) := by decide +kernel
theorem dX6_cooks_62 : decode cX6_cooks 62 = .ok (.iload_n 1, 1) := by decide +kernel
theorem dX6_cooks_63 : decode cX6_cooks 63 = .ok (.invokevirtual 168, 3) := by decide +kernel
theorem dX6_cooks_66 : decode cX6_cooks 66 = .ok (.getfield 119, 3) := by decide +kernel
theorem dX6_cooks_69 : decode cX6_cooks 69 = .ok (.ifCond .ne 10, 3) := by decide +kernel
theorem dX6_cooks_72 : decode cX6_cooks 72 = .ok (.iload 6, 2) := by decide +kernel
theorem dX6_cooks_74 : decode cX6_cooks 74 = .ok (.istore_n 3, 1) := by decide +kernel
theorem dX6_cooks_75 : decode cX6_cooks 75 = .ok (.iload 5, 2) := by decide +kernel
theorem dX6_cooks_77 : decode cX6_cooks 77 = .ok (.istore 4, 2) := by decide +kernel
theorem dX6_cooks_79 : decode cX6_cooks 79 = .ok (.iinc 5 1, 3) := by decide +kernel
theorem dX6_cooks_82 : decode cX6_cooks 82 = .ok (.goto (-51), 3) := by decide +kernel
theorem dX6_cooks_85 : decode cX6_cooks 85 = .ok (.iload 4, 2) := by decide +kernel
theorem dX6_cooks_87 : decode cX6_cooks 87 = .ok (.bipush (-4), 2) := by decide +kernel
theorem dX6_cooks_89 : decode cX6_cooks 89 = .ok (.if_icmp .ne 6, 3) := by decide +kernel
theorem dX6_cooks_92 : decode cX6_cooks 92 = .ok (.bipush (-4), 2) := by decide +kernel
theorem dX6_cooks_94 : decode cX6_cooks 94 = .ok (.ireturn, 1) := by decide +kernel
theorem dX6_cooks_95 : decode cX6_cooks 95 = .ok (.iload_n 2, 1) := by decide +kernel
theorem dX6_cooks_96 : decode cX6_cooks 96 = .ok (.ifCond .ne 7, 3) := by decide +kernel
theorem dX6_cooks_99 : decode cX6_cooks 99 = .ok (.iload_n 3, 1) := by decide +kernel
theorem dX6_cooks_100 : decode cX6_cooks 100 = .ok (.goto 5, 3) := by decide +kernel
theorem dX6_cooks_103 : decode cX6_cooks 103 = .ok (.iload 4, 2) := by decide +kernel
theorem dX6_cooks_105 : decode cX6_cooks 105 = .ok (.ireturn, 1) := by decide +kernel
theorem dX6_appease_0 : decode cX6_appease 0 = .ok (.aload_n 0, 1) := by decide +kernel
theorem dX6_appease_1 : decode cX6_appease 1 = .ok (.getfield 19, 3) := by decide +kernel
theorem dX6_appease_4 : decode cX6_appease 4 = .ok (.iload_n 1, 1) := by decide +kernel
theorem dX6_appease_5 : decode cX6_appease 5 = .ok (.invokevirtual 129, 3) := by decide +kernel
theorem dX6_appease_8 : decode cX6_appease 8 = .ok (.ifCond .eq 13, 3) := by decide +kernel
theorem dX6_appease_11 : decode cX6_appease 11 = .ok (.iload_n 2, 1) := by decide +kernel
theorem dX6_appease_12 : decode cX6_appease 12 = .ok (.iconst 0, 1) := by decide +kernel
theorem dX6_appease_13 : decode cX6_appease 13 = .ok (.bipush 20, 2) := by decide +kernel
theorem dX6_appease_15 : decode cX6_appease 15 = .ok (.invokestatic 54, 3) := by decide +kernel
theorem dX6_appease_18 : decode cX6_appease 18 = .ok (.ifCond .eq 5, 3) := by decide +kernel
theorem dX6_appease_21 : decode cX6_appease 21 = .ok (.iconst (-1), 1) := by decide +kernel
theorem dX6_appease_22 : decode cX6_appease 22 = .ok (.ireturn, 1) := by decide +kernel
theorem dX6_appease_23 : decode cX6_appease 23 = .ok (.iconst 0, 1) := by decide +kernel
theorem dX6_appease_24 : decode cX6_appease 24 = .ok (.istore_n 3, 1) := by decide +kernel
theorem dX6_appease_25 : decode cX6_appease 25 = .ok (.iload_n 3, 1) := by decide +kernel
theorem dX6_appease_26 : decode cX6_appease 26 = .ok (.bipush 20, 2) := by decide +kernel
theorem dX6_appease_28 : decode cX6_appease 28 = .ok (.if_icmp .gt 62, 3) := by decide +kernel
theorem dX6_appease_31 : decode cX6_appease 31 = .ok (.iload_n 3, 1) := by decide +kernel
theorem dX6_appease_32 : decode cX6_appease 32 = .ok (.aload_n 0, 1) := by decide +kernel
theorem dX6_appease_33 : decode cX6_appease 33 = .ok (.getfield 19, 3) := by decide +kernel
theorem dX6_appease_36 : decode cX6_appease 36 = .ok (.getfield 135, 3) := by decide +kernel
theorem dX6_appease_39 : decode cX6_appease 39 = .ok (.iload_n 1, 1) := by decide +kernel
theorem dX6_appease_40 : decode cX6_appease 40 = .ok (.iaload, 1) := by decide +kernel
theorem dX6_appease_41 : decode cX6_appease 41 = .ok (.if_icmp .gt 49, 3) := by decide +kernel
theorem dX6_appease_44 : decode cX6_appease 44 = .ok (.aload_n 0, 1) := by decide +kernel
theorem dX6_appease_45 : decode cX6_appease 45 = .ok (.invokevirtual 149, 3) := by decide +kernel
theorem dX6_appease_48 : decode cX6_appease 48 = .ok (.iload_n 3, 1) := by decide +kernel
theorem dX6_appease_49 : decode cX6_appease 49 = .ok (.ifCond .le 13, 3) := by decide +kernel
theorem dX6_appease_52 : decode cX6_appease 52 = .ok (.aload_n 0, 1) := by decide +kernel
theorem dX6_appease_53 : decode cX6_appease 53 = .ok (.getfield 23, 3) := by decide +kernel
theorem dX6_appease_56 : decode cX6_appease 56 = .ok (.iload_n 1, 1) := by decide +kernel
theorem dX6_appease_57 : decode cX6_appease 57 = .ok (.iload_n 3, 1) := by decide +kernel
theorem dX6_appease_58 : decode cX6_appease 58 = .ok (.invokevirtual 141, 3) := by decide +kernel
theorem dX6_appease_61 : decode cX6_appease 61 = .ok (.pop, 1) := by decide +kernel
theorem dX6_appease_62 : decode cX6_appease 62 = .ok (.aload_n 0, 1) := by decide +kernel
theorem dX6_appease_63 : decode cX6_appease 63 = .ok (.getfield 23, 3) := by decide +kernel
theorem dX6_appease_66 : decode cX6_appease 66 = .ok (.iload_n 2, 1) := by decide +kernel
theorem dX6_appease_67 : decode cX6_appease 67 = .ok (.invokevirtual 145, 3) := by decide +kernel
theorem dX6_appease_70 : decode cX6_appease 70 = .ok (.aload_n 0, 1) := by decide +kernel
theorem dX6_appease_71 : decode cX6_appease 71 = .ok (.getfield 23, 3) := by decide +kernel
theorem dX6_appease_74 : decode cX6_appease 74 = .ok (.getfield 180, 3) := by decide +kernel
theorem dX6_appease_77 : decode cX6_appease 77 = .ok (.iload_n 1, 1) := by decide +kernel
theorem dX6_appease_78 : decode cX6_appease 78 = .ok (.iaload, 1) := by decide +kernel
theorem dX6_appease_79 : decode cX6_appease 79 = .ok (.ifCond .ne 5, 3) := by decide +kernel
theorem dX6_appease_82 : decode cX6_appease 82 = .ok (.iload_n 3, 1) := by decide +kernel
theorem dX6_appease_83 : decode cX6_appease 83 = .ok (.ireturn, 1) := by decide +kernel
theorem dX6_appease_84 : decode cX6_appease 84 = .ok (.iinc 3 1, 3) := by decide +kernel
theorem dX6_appease_87 : decode cX6_appease 87 = .ok (.goto (-62), 3) := by decide +kernel
theorem dX6_appease_90 : decode cX6_appease 90 = .ok (.bipush (-4), 2) := by decide +kernel
theorem dX6_appease_92 : decode cX6_appease 92 = .ok (.ireturn, 1) := by decide +kernel
theorem dX6_pray_0 : decode cX6_pray 0 = .ok (.iload_n 1, 1) := by decide +kernel
theorem dX6_pray_1 : decode cX6_pray 1 = .ok (.iconst 0, 1) := by decide +kernel
theorem dX6_pray_2 : decode cX6_pray 2 = .ok (.bipush 20, 2) := by decide +kernel
theorem dX6_pray_4 : decode cX6_pray 4 = .ok (.invokestatic 54, 3) := by decide +kernel
theorem dX6_pray_7 : decode cX6_pray 7 = .ok (.ifCond .eq 5, 3) := by decide +kernel
theorem dX6_pray_10 : decode cX6_pray 10 = .ok (.iconst (-1), 1) := by decide +kernel
theorem dX6_pray_11 : decode cX6_pray 11 = .ok (.ireturn, 1) := by decide +kernel
theorem dX6_pray_12 : decode cX6_pray 12 = .ok (.aload_n 0, 1) := by decide +kernel
theorem dX6_pray_13 : decode cX6_pray 13 = .ok (.iload_n 1, 1) := by decide +kernel
theorem dX6_pray_14 : decode cX6_pray 14 = .ok (.invokevirtual 164, 3) := by decide +kernel
theorem dX6_pray_17 : decode cX6_pray 17 = .ok (.istore_n 2, 1) := by decide +kernel
theorem dX6_pray_18 : decode cX6_pray 18 = .ok (.iconst 0, 1) := by decide +kernel
theorem dX6_pray_19 : decode cX6_pray 19 = .ok (.istore_n 3, 1) := by decide +kernel
theorem dX6_pray_20 : decode cX6_pray 20 = .ok (.iconst 0, 1) := by decide +kernel
theorem dX6_pray_21 : decode cX6_pray 21 = .ok (.istore 4, 2) := by decide +kernel
theorem dX6_pray_23 : decode cX6_pray 23 = .ok (.iload 4, 2) := by decide +kernel
theorem dX6_pray_25 : decode cX6_pray 25 = .ok (.bipush 7, 2) := by decide +kernel
theorem dX6_pray_27 : decode cX6_pray 27 = .ok (.if_icmp .ge 55, 3) := by decide +kernel
theorem dX6_pray_30 : decode cX6_pray 30 = .ok (.aload_n 0, 1) := by decide +kernel
theorem dX6_pray_31 : decode cX6_pray 31 = .ok (.invokevirtual 149, 3) := by decide +kernel
theorem dX6_pray_34 : decode cX6_pray 34 = .ok (.aload_n 0, 1) := by decide +kernel
theorem dX6_pray_35 : decode cX6_pray 35 = .ok (.getfield 23, 3) := by decide +kernel
theorem dX6_pray_38 : decode cX6_pray 38 = .ok (.dup, 1) := by decide +kernel
theorem dX6_pray_39 : decode cX6_pray 39 = .ok (.getfield 113, 3) := by decide +kernel
theorem dX6_pray_42 : decode cX6_pray 42 = .ok (.iconst 1, 1) := by decide +kernel
theorem dX6_pray_43 : decode cX6_pray 43 = .ok (.iload 4, 2) := by decide +kernel
theorem dX6_pray_45 : decode cX6_pray 45 = .ok (.ishl, 1) := by decide +kernel
theorem dX6_pray_46 : decode cX6_pray 46 = .ok (.ior, 1) := by decide +kernel
theorem dX6_pray_47 : decode cX6_pray 47 = .ok (.putfield 113, 3) := by decide +kernel
theorem dX6_pray_50 : decode cX6_pray 50 = .ok (.aload_n 0, 1) := by decide +kernel
theorem dX6_pray_51 : decode cX6_pray 51 = .ok (.getfield 23, 3) := by decide +kernel
theorem dX6_pray_54 : decode cX6_pray 54 = .ok (.iload_n 1, 1) := by decide +kernel
theorem dX6_pray_55 : decode cX6_pray 55 = .ok (.invokevirtual 145, 3) := by decide +kernel
theorem dX6_pray_58 : decode cX6_pray 58 = .ok (.aload_n 0, 1) := by decide +kernel
theorem dX6_pray_59 : decode cX6_pray 59 = .ok (.getfield 23, 3) := by decide +kernel
theorem dX6_pray_62 : decode cX6_pray 62 = .ok (.invokevirtual 172, 3) := by decide +kernel
theorem dX6_pray_65 : decode cX6_pray 65 = .ok (.iload_n 2, 1) := by decide +kernel
theorem dX6_pray_66 : decode cX6_pray 66 = .ok (.if_icmp .ge 10, 3) := by decide +kernel
theorem dX6_pray_69 : decode cX6_pray 69 = .ok (.iload_n 3, 1) := by decide +kernel
theorem dX6_pray_70 : decode cX6_pray 70 = .ok (.iconst 1, 1) := by decide +kernel
theorem dX6_pray_71 : decode cX6_pray 71 = .ok (.iload 4, 2) := by decide +kernel
theorem dX6_pray_73 : decode cX6_pray 73 = .ok (.ishl, 1) := by decide +kernel
theorem dX6_pray_74 : decode cX6_pray 74 = .ok (.ior, 1) := by decide +kernel
theorem dX6_pray_75 : decode cX6_pray 75 = .ok (.istore_n 3, 1) := by decide +kernel
theorem dX6_pray_76 : decode cX6_pray 76 = .ok (.iinc 4 1, 3) := by decide +kernel
theorem dX6_pray_79 : decode cX6_pray 79 = .ok (.goto (-56), 3) := by decide +kernel
theorem dX6_pray_82 : decode cX6_pray 82 = .ok (.iload_n 3, 1) := by decide +kernel
theorem dX6_pray_83 : decode cX6_pray 83 = .ok (.ireturn, 1) := by decide +kernel
theorem dX6_value_0 : decode cX6_value 0 = .ok (.iload_n 1, 1) := by decide +kernel
theorem dX6_value_1 : decode cX6_value 1 = .ok (.iconst 0, 1) := by decide +kernel
theorem dX6_value_2 : decode cX6_value 2 = .ok (.iconst 1, 1) := by decide +kernel
theorem dX6_value_3 : decode cX6_value 3 = .ok (.aload_n 0, 1) := by decide +kernel
theorem dX6_value_4 : decode cX6_value 4 = .ok (.getfield 19, 3) := by decide +kernel
theorem dX6_value_7 : decode cX6_value 7 = .ok (.getfield 101, 3) := by decide +kernel
theorem dX6_value_10 : decode cX6_value 10 = .ok (.ishl, 1) := by decide +kernel
theorem dX6_value_11 : decode cX6_value 11 = .ok (.iconst 1, 1) := by decide +kernel
theorem dX6_value_12 : decode cX6_value 12 = .ok (.isub, 1) := by decide +kernel
theorem dX6_value_13 : decode cX6_value 13 = .ok (.invokestatic 54, 3) := by decide +kernel
theorem dX6_value_16 : decode cX6_value 16 = .ok (.ifCond .ne 13, 3) := by decide +kernel
theorem dX6_value_19 : decode cX6_value 19 = .ok (.iload_n 2, 1) := by decide +kernel
theorem dX6_value_20 : decode cX6_value 20 = .ok (.iconst 0, 1) := by decide +kernel
theorem dX6_value_21 : decode cX6_value 21 = .ok (.bipush 20, 2) := by decide +kernel
theorem dX6_value_23 : decode cX6_value 23 = .ok (.invokestatic 54, 3) := by decide +kernel
theorem dX6_value_26 : decode cX6_value 26 = .ok (.ifCond .eq 5, 3) := by decide +kernel
theorem dX6_value_29 : decode cX6_value 29 = .ok (.iconst (-1), 1) := by decide +kernel
theorem dX6_value_30 : decode cX6_value 30 = .ok (.ireturn, 1) := by decide +kernel
theorem dX6_value_31 : decode cX6_value 31 = .ok (.sipush 1000, 3) := by decide +kernel
theorem dX6_value_34 : decode cX6_value 34 = .ok (.aload_n 0, 1) := by decide +kernel
theorem dX6_value_35 : decode cX6_value 35 = .ok (.iload_n 2, 1) := by decide +kernel
theorem dX6_value_36 : decode cX6_value 36 = .ok (.invokevirtual 164, 3) := by decide +kernel
theorem dX6_value_39 : decode cX6_value 39 = .ok (.iadd, 1) := by decide +kernel
theorem dX6_value_40 : decode cX6_value 40 = .ok (.aload_n 0, 1) := by decide +kernel
theorem dX6_value_41 : decode cX6_value 41 = .ok (.iload_n 1, 1) := by decide +kernel
theorem dX6_value_42 : decode cX6_value 42 = .ok (.iconst 3, 1) := by decide +kernel
theorem dX6_value_43 : decode cX6_value 43 = .ok (.iload_n 2, 1) := by decide +kernel
theorem dX6_value_44 : decode cX6_value 44 = .ok (.invokevirtual 168, 3) := by decide +kernel
theorem dX6_value_47 : decode cX6_value 47 = .ok (.invokevirtual 172, 3) := by decide +kernel
theorem dX6_value_50 : decode cX6_value 50 = .ok (.isub, 1) := by decide +kernel
theorem dX6_value_51 : decode cX6_value 51 = .ok (.ireturn, 1) := by decide +kernel
theorem dX6_share_0 : decode cX6_share 0 = .ok (.aload_n 0, 1) := by decide +kernel
theorem dX6_share_1 : decode cX6_share 1 = .ok (.getfield 19, 3) := by decide +kernel
theorem dX6_share_4 : decode cX6_share 4 = .ok (.iload_n 1, 1) := by decide +kernel
theorem dX6_share_5 : decode cX6_share 5 = .ok (.invokevirtual 129, 3) := by decide +kernel
theorem dX6_share_8 : decode cX6_share 8 = .ok (.ifCond .eq 22, 3) := by decide +kernel
theorem dX6_share_11 : decode cX6_share 11 = .ok (.iload_n 2, 1) := by decide +kernel
theorem dX6_share_12 : decode cX6_share 12 = .ok (.iconst 0, 1) := by decide +kernel
theorem dX6_share_13 : decode cX6_share 13 = .ok (.bipush 20, 2) := by decide +kernel
theorem dX6_share_15 : decode cX6_share 15 = .ok (.invokestatic 54, 3) := by decide +kernel
theorem dX6_share_18 : decode cX6_share 18 = .ok (.ifCond .ne 12, 3) := by decide +kernel
theorem dX6_share_21 : decode cX6_share 21 = .ok (.iload_n 3, 1) := by decide +kernel
theorem dX6_share_22 : decode cX6_share 22 = .ok (.iconst 0, 1) := by decide +kernel
theorem dX6_share_23 : decode cX6_share 23 = .ok (.iconst 1, 1) := by decide +kernel
theorem dX6_share_24 : decode cX6_share 24 = .ok (.invokestatic 54, 3) := by decide +kernel
theorem dX6_share_27 : decode cX6_share 27 = .ok (.ifCond .eq 7, 3) := by decide +kernel
theorem dX6_share_30 : decode cX6_share 30 = .ok (.ldc2_w 183, 3) := by decide +kernel
theorem dX6_share_33 : decode cX6_share 33 = .ok (.lreturn, 1) := by decide +kernel
theorem dX6_share_34 : decode cX6_share 34 = .ok (.lconst 0, 1) := by decide +kernel
theorem dX6_share_35 : decode cX6_share 35 = .ok (.lstore 4, 2) := by decide +kernel
theorem dX6_share_37 : decode cX6_share 37 = .ok (.iconst 0, 1) := by decide +kernel
theorem dX6_share_38 : decode cX6_share 38 = .ok (.istore 6, 2) := by decide +kernel
theorem dX6_share_40 : decode cX6_share 40 = .ok (.iload 6, 2) := by decide +kernel
theorem dX6_share_42 : decode cX6_share 42 = .ok (.iconst 1, 1) := by decide +kernel
theorem dX6_share_43 : decode cX6_share 43 = .ok (.aload_n 0, 1) := by decide +kernel
theorem dX6_share_44 : decode cX6_share 44 = .ok (.getfield 19, 3) := by decide +kernel
theorem dX6_share_47 : decode cX6_share 47 = .ok (.getfield 101, 3) := by decide +kernel
theorem dX6_share_50 : decode cX6_share 50 = .ok (.ishl, 1) := by decide +kernel
theorem dX6_share_51 : decode cX6_share 51 = .ok (.if_icmp .ge 88, 3) := by decide +kernel
theorem dX6_share_54 : decode cX6_share 54 = .ok (.iload 6, 2) := by decide +kernel
theorem dX6_share_56 : decode cX6_share 56 = .ok (.iload_n 1, 1) := by decide +kernel
theorem dX6_share_57 : decode cX6_share 57 = .ok (.ishr, 1) := by decide +kernel
theorem dX6_share_58 : decode cX6_share 58 = .ok (.iconst 1, 1) := by decide +kernel
theorem dX6_share_59 : decode cX6_share 59 = .ok (.iand, 1) := by decide +kernel
theorem dX6_share_60 : decode cX6_share 60 = .ok (.ifCond .ne 73, 3) := by decide +kernel
theorem dX6_share_63 : decode cX6_share 63 = .ok (.iload 6, 2) := by decide +kernel
theorem dX6_share_65 : decode cX6_share 65 = .ok (.invokestatic 175, 3) := by decide +kernel
theorem dX6_share_68 : decode cX6_share 68 = .ok (.istore 7, 2) := by decide +kernel
theorem dX6_share_70 : decode cX6_share 70 = .ok (.aload_n 0, 1) := by decide +kernel
theorem dX6_share_71 : decode cX6_share 71 = .ok (.getfield 19, 3) := by decide +kernel
theorem dX6_share_74 : decode cX6_share 74 = .ok (.getfield 101, 3) := by decide +kernel
theorem dX6_share_77 : decode cX6_share 77 = .ok (.iconst 1, 1) := by decide +kernel
theorem dX6_share_78 : decode cX6_share 78 = .ok (.isub, 1) := by decide +kernel
theorem dX6_share_79 : decode cX6_share 79 = .ok (.iload 7, 2) := by decide +kernel
theorem dX6_share_81 : decode cX6_share 81 = .ok (.isub, 1) := by decide +kernel
theorem dX6_share_82 : decode cX6_share 82 = .ok (.istore 8, 2) := by decide +kernel
theorem dX6_share_84 : decode cX6_share 84 = .ok (.aload_n 0, 1) := by decide +kernel
theorem dX6_share_85 : decode cX6_share 85 = .ok (.iload 6, 2) := by decide +kernel
theorem dX6_share_87 : decode cX6_share 87 = .ok (.iconst 3, 1) := by decide +kernel
theorem dX6_share_88 : decode cX6_share 88 = .ok (.iload_n 2, 1) := by decide +kernel
theorem dX6_share_89 : decode cX6_share 89 = .ok (.invokevirtual 168, 3) := by decide +kernel
theorem dX6_share_92 : decode cX6_share 92 = .ok (.invokevirtual 172, 3) := by decide +kernel
theorem dX6_share_95 : decode cX6_share 95 = .ok (.aload_n 0, 1) := by decide +kernel
theorem dX6_share_96 : decode cX6_share 96 = .ok (.iload 6, 2) := by decide +kernel
theorem dX6_share_98 : decode cX6_share 98 = .ok (.iconst 1, 1) := by decide +kernel
theorem dX6_share_99 : decode cX6_share 99 = .ok (.iload_n 1, 1) := by decide +kernel
theorem dX6_share_100 : decode cX6_share 100 = .ok (.ishl, 1) := by decide +kernel
theorem dX6_share_101 : decode cX6_share 101 = .ok (.ior, 1) := by decide +kernel
theorem dX6_share_102 : decode cX6_share 102 = .ok (.iconst 3, 1) := by decide +kernel
theorem dX6_share_103 : decode cX6_share 103 = .ok (.iload_n 2, 1) := by decide +kernel
theorem dX6_share_104 : decode cX6_share 104 = .ok (.invokevirtual 168, 3) := by decide +kernel
theorem dX6_share_107 : decode cX6_share 107 = .ok (.invokevirtual 172, 3) := by decide +kernel
theorem dX6_share_110 : decode cX6_share 110 = .ok (.isub, 1) := by decide +kernel
theorem dX6_share_111 : decode cX6_share 111 = .ok (.istore 9, 2) := by decide +kernel
theorem dX6_share_113 : decode cX6_share 113 = .ok (.lload 4, 2) := by decide +kernel
theorem dX6_share_115 : decode cX6_share 115 = .ok (.iload 9, 2) := by decide +kernel
theorem dX6_share_117 : decode cX6_share 117 = .ok (.i2l, 1) := by decide +kernel
theorem dX6_share_118 : decode cX6_share 118 = .ok (.iload 7, 2) := by decide +kernel
theorem dX6_share_120 : decode cX6_share 120 = .ok (.invokestatic 185, 3) := by decide +kernel
theorem dX6_share_123 : decode cX6_share 123 = .ok (.lmul, 1) := by decide +kernel
theorem dX6_share_124 : decode cX6_share 124 = .ok (.iload 8, 2) := by decide +kernel
theorem dX6_share_126 : decode cX6_share 126 = .ok (.invokestatic 185, 3) := by decide +kernel
theorem dX6_share_129 : decode cX6_share 129 = .ok (.lmul, 1) := by decide +kernel
theorem dX6_share_130 : decode cX6_share 130 = .ok (.ladd, 1) := by decide +kernel
theorem dX6_share_131 : decode cX6_share 131 = .ok (.lstore 4, 2) := by decide +kernel
theorem dX6_share_133 : decode cX6_share 133 = .ok (.iinc 6 1, 3) := by decide +kernel
theorem dX6_share_136 : decode cX6_share 136 = .ok (.goto (-96), 3) := by decide +kernel
theorem dX6_share_139 : decode cX6_share 139 = .ok (.lload 4, 2) := by decide +kernel
theorem dX6_share_141 : decode cX6_share 141 = .ok (.aload_n 0, 1) := by decide +kernel
theorem dX6_share_142 : decode cX6_share 142 = .ok (.getfield 19, 3) := by decide +kernel
theorem dX6_share_145 : decode cX6_share 145 = .ok (.getfield 101, 3) := by decide +kernel
theorem dX6_share_148 : decode cX6_share 148 = .ok (.invokestatic 185, 3) := by decide +kernel
theorem dX6_share_151 : decode cX6_share 151 = .ok (.iload_n 3, 1) := by decide +kernel
theorem dX6_share_152 : decode cX6_share 152 = .ok (.invokestatic 189, 3) := by decide +kernel
theorem dX6_share_155 : decode cX6_share 155 = .ok (.lreturn, 1) := by decide +kernel
theorem dX6_luck_0 : decode cX6_luck 0 = .ok (.iload_n 1, 1) := by decide +kernel
theorem dX6_luck_1 : decode cX6_luck 1 = .ok (.iconst 0, 1) := by decide +kernel
theorem dX6_luck_2 : decode cX6_luck 2 = .ok (.bipush 10, 2) := by decide +kernel
theorem dX6_luck_4 : decode cX6_luck 4 = .ok (.invokestatic 54, 3) := by decide +kernel
theorem dX6_luck_7 : decode cX6_luck 7 = .ok (.ifCond .ne 22, 3) := by decide +kernel
theorem dX6_luck_10 : decode cX6_luck 10 = .ok (.iload_n 2, 1) := by decide +kernel
theorem dX6_luck_11 : decode cX6_luck 11 = .ok (.iconst 0, 1) := by decide +kernel
theorem dX6_luck_12 : decode cX6_luck 12 = .ok (.bipush 20, 2) := by decide +kernel
theorem dX6_luck_14 : decode cX6_luck 14 = .ok (.invokestatic 54, 3) := by decide +kernel
theorem dX6_luck_17 : decode cX6_luck 17 = .ok (.ifCond .ne 12, 3) := by decide +kernel
theorem dX6_luck_20 : decode cX6_luck 20 = .ok (.iload_n 3, 1) := by decide +kernel
theorem dX6_luck_21 : decode cX6_luck 21 = .ok (.iconst 0, 1) := by decide +kernel
theorem dX6_luck_22 : decode cX6_luck 22 = .ok (.iconst 1, 1) := by decide +kernel
theorem dX6_luck_23 : decode cX6_luck 23 = .ok (.invokestatic 54, 3) := by decide +kernel
theorem dX6_luck_26 : decode cX6_luck 26 = .ok (.ifCond .eq 7, 3) := by decide +kernel
theorem dX6_luck_29 : decode cX6_luck 29 = .ok (.ldc2_w 183, 3) := by decide +kernel
theorem dX6_luck_32 : decode cX6_luck 32 = .ok (.lreturn, 1) := by decide +kernel
theorem dX6_luck_33 : decode cX6_luck 33 = .ok (.lconst 0, 1) := by decide +kernel
theorem dX6_luck_34 : decode cX6_luck 34 = .ok (.lstore 4, 2) := by decide +kernel
theorem dX6_luck_36 : decode cX6_luck 36 = .ok (.iconst 0, 1) := by decide +kernel
theorem dX6_luck_37 : decode cX6_luck 37 = .ok (.istore 6, 2) := by decide +kernel
theorem dX6_luck_39 : decode cX6_luck 39 = .ok (.iload 6, 2) := by decide +kernel
theorem dX6_luck_41 : decode cX6_luck 41 = .ok (.iconst 1, 1) := by decide +kernel
theorem dX6_luck_42 : decode cX6_luck 42 = .ok (.aload_n 0, 1) := by decide +kernel
theorem dX6_luck_43 : decode cX6_luck 43 = .ok (.getfield 19, 3) := by decide +kernel
theorem dX6_luck_46 : decode cX6_luck 46 = .ok (.getfield 101, 3) := by decide +kernel
theorem dX6_luck_49 : decode cX6_luck 49 = .ok (.ishl, 1) := by decide +kernel
theorem dX6_luck_50 : decode cX6_luck 50 = .ok (.if_icmp .ge 35, 3) := by decide +kernel
theorem dX6_luck_53 : decode cX6_luck 53 = .ok (.aload_n 0, 1) := by decide +kernel
theorem dX6_luck_54 : decode cX6_luck 54 = .ok (.iload 6, 2) := by decide +kernel
theorem dX6_luck_56 : decode cX6_luck 56 = .ok (.iconst 2, 1) := by decide +kernel
theorem dX6_luck_57 : decode cX6_luck 57 = .ok (.iload_n 2, 1) := by decide +kernel
theorem dX6_luck_58 : decode cX6_luck 58 = .ok (.invokevirtual 168, 3) := by decide +kernel
theorem dX6_luck_61 : decode cX6_luck 61 = .ok (.getfield 119, 3) := by decide +kernel
theorem dX6_luck_64 : decode cX6_luck 64 = .ok (.ifCond .ne 15, 3) := by decide +kernel
theorem dX6_luck_67 : decode cX6_luck 67 = .ok (.lload 4, 2) := by decide +kernel
theorem dX6_luck_69 : decode cX6_luck 69 = .ok (.aload_n 0, 1) := by decide +kernel
theorem dX6_luck_70 : decode cX6_luck 70 = .ok (.iload 6, 2) := by decide +kernel
theorem dX6_luck_72 : decode cX6_luck 72 = .ok (.iload_n 1, 1) := by decide +kernel
theorem dX6_luck_73 : decode cX6_luck 73 = .ok (.invokevirtual 193, 3) := by decide +kernel
theorem dX6_luck_76 : decode cX6_luck 76 = .ok (.ladd, 1) := by decide +kernel
theorem dX6_luck_77 : decode cX6_luck 77 = .ok (.lstore 4, 2) := by decide +kernel
theorem dX6_luck_79 : decode cX6_luck 79 = .ok (.iinc 6 1, 3) := by decide +kernel
theorem dX6_luck_82 : decode cX6_luck 82 = .ok (.goto (-43), 3) := by decide +kernel
theorem dX6_luck_85 : decode cX6_luck 85 = .ok (.lload 4, 2) := by decide +kernel
theorem dX6_luck_87 : decode cX6_luck 87 = .ok (.bipush 10, 2) := by decide +kernel
theorem dX6_luck_89 : decode cX6_luck 89 = .ok (.aload_n 0, 1) := by decide +kernel
theorem dX6_luck_90 : decode cX6_luck 90 = .ok (.getfield 19, 3) := by decide +kernel
theorem dX6_luck_93 : decode cX6_luck 93 = .ok (.getfield 101, 3) := by decide +kernel
theorem dX6_luck_96 : decode cX6_luck 96 = .ok (.invokestatic 197, 3) := by decide +kernel
theorem dX6_luck_99 : decode cX6_luck 99 = .ok (.iload_n 3, 1) := by decide +kernel
theorem dX6_luck_100 : decode cX6_luck 100 = .ok (.invokestatic 189, 3) := by decide +kernel
theorem dX6_luck_103 : decode cX6_luck 103 = .ok (.lreturn, 1) := by decide +kernel
theorem dX6_mean_0 : decode cX6_mean 0 = .ok (.iload_n 1, 1) := by decide +kernel
theorem dX6_mean_1 : decode cX6_mean 1 = .ok (.iconst 0, 1) := by decide +kernel
theorem dX6_mean_2 : decode cX6_mean 2 = .ok (.bipush 10, 2) := by decide +kernel
theorem dX6_mean_4 : decode cX6_mean 4 = .ok (.invokestatic 54, 3) := by decide +kernel
theorem dX6_mean_7 : decode cX6_mean 7 = .ok (.ifCond .ne 22, 3) := by decide +kernel
theorem dX6_mean_10 : decode cX6_mean 10 = .ok (.iload_n 2, 1) := by decide +kernel
theorem dX6_mean_11 : decode cX6_mean 11 = .ok (.iconst 0, 1) := by decide +kernel
theorem dX6_mean_12 : decode cX6_mean 12 = .ok (.bipush 20, 2) := by decide +kernel
theorem dX6_mean_14 : decode cX6_mean 14 = .ok (.invokestatic 54, 3) := by decide +kernel
theorem dX6_mean_17 : decode cX6_mean 17 = .ok (.ifCond .ne 12, 3) := by decide +kernel
theorem dX6_mean_20 : decode cX6_mean 20 = .ok (.iload_n 3, 1) := by decide +kernel
theorem dX6_mean_21 : decode cX6_mean 21 = .ok (.iconst 0, 1) := by decide +kernel
theorem dX6_mean_22 : decode cX6_mean 22 = .ok (.iconst 1, 1) := by decide +kernel
theorem dX6_mean_23 : decode cX6_mean 23 = .ok (.invokestatic 54, 3) := by decide +kernel
theorem dX6_mean_26 : decode cX6_mean 26 = .ok (.ifCond .eq 7, 3) := by decide +kernel
theorem dX6_mean_29 : decode cX6_mean 29 = .ok (.ldc2_w 183, 3) := by decide +kernel
theorem dX6_mean_32 : decode cX6_mean 32 = .ok (.lreturn, 1) := by decide +kernel
theorem dX6_mean_33 : decode cX6_mean 33 = .ok (.lconst 0, 1) := by decide +kernel
theorem dX6_mean_34 : decode cX6_mean 34 = .ok (.lstore 4, 2) := by decide +kernel
theorem dX6_mean_36 : decode cX6_mean 36 = .ok (.iconst 0, 1) := by decide +kernel
theorem dX6_mean_37 : decode cX6_mean 37 = .ok (.istore 6, 2) := by decide +kernel
theorem dX6_mean_39 : decode cX6_mean 39 = .ok (.iload 6, 2) := by decide +kernel
theorem dX6_mean_41 : decode cX6_mean 41 = .ok (.iconst 1, 1) := by decide +kernel
theorem dX6_mean_42 : decode cX6_mean 42 = .ok (.aload_n 0, 1) := by decide +kernel
theorem dX6_mean_43 : decode cX6_mean 43 = .ok (.getfield 19, 3) := by decide +kernel
theorem dX6_mean_46 : decode cX6_mean 46 = .ok (.getfield 101, 3) := by decide +kernel
theorem dX6_mean_49 : decode cX6_mean 49 = .ok (.ishl, 1) := by decide +kernel
theorem dX6_mean_50 : decode cX6_mean 50 = .ok (.if_icmp .ge 34, 3) := by decide +kernel
theorem dX6_mean_53 : decode cX6_mean 53 = .ok (.lload 4, 2) := by decide +kernel
theorem dX6_mean_55 : decode cX6_mean 55 = .ok (.aload_n 0, 1) := by decide +kernel
theorem dX6_mean_56 : decode cX6_mean 56 = .ok (.iload 6, 2) := by decide +kernel
theorem dX6_mean_58 : decode cX6_mean 58 = .ok (.iload_n 1, 1) := by decide +kernel
theorem dX6_mean_59 : decode cX6_mean 59 = .ok (.invokevirtual 193, 3) := by decide +kernel
theorem dX6_mean_62 : decode cX6_mean 62 = .ok (.aload_n 0, 1) := by decide +kernel
theorem dX6_mean_63 : decode cX6_mean 63 = .ok (.iload 6, 2) := by decide +kernel
theorem dX6_mean_65 : decode cX6_mean 65 = .ok (.iconst 2, 1) := by decide +kernel
theorem dX6_mean_66 : decode cX6_mean 66 = .ok (.iload_n 2, 1) := by decide +kernel
theorem dX6_mean_67 : decode cX6_mean 67 = .ok (.invokevirtual 168, 3) := by decide +kernel
theorem dX6_mean_70 : decode cX6_mean 70 = .ok (.invokevirtual 172, 3) := by decide +kernel
theorem dX6_mean_73 : decode cX6_mean 73 = .ok (.i2l, 1) := by decide +kernel
theorem dX6_mean_74 : decode cX6_mean 74 = .ok (.lmul, 1) := by decide +kernel
theorem dX6_mean_75 : decode cX6_mean 75 = .ok (.ladd, 1) := by decide +kernel
theorem dX6_mean_76 : decode cX6_mean 76 = .ok (.lstore 4, 2) := by decide +kernel
theorem dX6_mean_78 : decode cX6_mean 78 = .ok (.iinc 6 1, 3) := by decide +kernel
theorem dX6_mean_81 : decode cX6_mean 81 = .ok (.goto (-42), 3) := by decide +kernel
theorem dX6_mean_84 : decode cX6_mean 84 = .ok (.lload 4, 2) := by decide +kernel
theorem dX6_mean_86 : decode cX6_mean 86 = .ok (.bipush 10, 2) := by decide +kernel
theorem dX6_mean_88 : decode cX6_mean 88 = .ok (.aload_n 0, 1) := by decide +kernel
theorem dX6_mean_89 : decode cX6_mean 89 = .ok (.getfield 19, 3) := by decide +kernel
theorem dX6_mean_92 : decode cX6_mean 92 = .ok (.getfield 101, 3) := by decide +kernel
theorem dX6_mean_95 : decode cX6_mean 95 = .ok (.invokestatic 197, 3) := by decide +kernel
theorem dX6_mean_98 : decode cX6_mean 98 = .ok (.iload_n 3, 1) := by decide +kernel
theorem dX6_mean_99 : decode cX6_mean 99 = .ok (.invokestatic 189, 3) := by decide +kernel
theorem dX6_mean_102 : decode cX6_mean 102 = .ok (.lreturn, 1) := by decide +kernel
theorem dX6_see_0 : decode cX6_see 0 = .ok (.aload_n 0, 1) := by decide +kernel
theorem dX6_see_1 : decode cX6_see 1 = .ok (.getfield 19, 3) := by decide +kernel
theorem dX6_see_4 : decode cX6_see 4 = .ok (.iload_n 1, 1) := by decide +kernel
theorem dX6_see_5 : decode cX6_see 5 = .ok (.invokevirtual 129, 3) := by decide +kernel
theorem dX6_see_8 : decode cX6_see 8 = .ok (.ifCond .eq 23, 3) := by decide +kernel
theorem dX6_see_11 : decode cX6_see 11 = .ok (.iload_n 2, 1) := by decide +kernel
theorem dX6_see_12 : decode cX6_see 12 = .ok (.iconst 1, 1) := by decide +kernel
theorem dX6_see_13 : decode cX6_see 13 = .ok (.bipush 9, 2) := by decide +kernel
theorem dX6_see_15 : decode cX6_see 15 = .ok (.invokestatic 54, 3) := by decide +kernel
theorem dX6_see_18 : decode cX6_see 18 = .ok (.ifCond .ne 13, 3) := by decide +kernel
theorem dX6_see_21 : decode cX6_see 21 = .ok (.iload_n 3, 1) := by decide +kernel
theorem dX6_see_22 : decode cX6_see 22 = .ok (.iconst 0, 1) := by decide +kernel
theorem dX6_see_23 : decode cX6_see 23 = .ok (.bipush 99, 2) := by decide +kernel
theorem dX6_see_25 : decode cX6_see 25 = .ok (.invokestatic 54, 3) := by decide +kernel
theorem dX6_see_28 : decode cX6_see 28 = .ok (.ifCond .eq 5, 3) := by decide +kernel
theorem dX6_see_31 : decode cX6_see 31 = .ok (.iconst (-1), 1) := by decide +kernel
theorem dX6_see_32 : decode cX6_see 32 = .ok (.ireturn, 1) := by decide +kernel
theorem dX6_see_33 : decode cX6_see 33 = .ok (.aload_n 0, 1) := by decide +kernel
theorem dX6_see_34 : decode cX6_see 34 = .ok (.getfield 29, 3) := by decide +kernel
theorem dX6_see_37 : decode cX6_see 37 = .ok (.iload_n 1, 1) := by decide +kernel
theorem dX6_see_38 : decode cX6_see 38 = .ok (.iload_n 2, 1) := by decide +kernel
theorem dX6_see_39 : decode cX6_see 39 = .ok (.iload_n 3, 1) := by decide +kernel
theorem dX6_see_40 : decode cX6_see 40 = .ok (.invokevirtual 200, 3) := by decide +kernel
theorem dX6_see_43 : decode cX6_see 43 = .ok (.ifCond .eq 13, 3) := by decide +kernel
theorem dX6_see_46 : decode cX6_see 46 = .ok (.aload_n 0, 1) := by decide +kernel
theorem dX6_see_47 : decode cX6_see 47 = .ok (.getfield 29, 3) := by decide +kernel
theorem dX6_see_50 : decode cX6_see 50 = .ok (.getfield 91, 3) := by decide +kernel
theorem dX6_see_53 : decode cX6_see 53 = .ok (.goto 5, 3) := by decide +kernel
theorem dX6_see_56 : decode cX6_see 56 = .ok (.bipush (-3), 2) := by decide +kernel
theorem dX6_see_58 : decode cX6_see 58 = .ok (.ireturn, 1) := by decide +kernel
theorem dX6_forget_0 : decode cX6_forget 0 = .ok (.iload_n 1, 1) := by decide +kernel
theorem dX6_forget_1 : decode cX6_forget 1 = .ok (.iconst 0, 1) := by decide +kernel
theorem dX6_forget_2 : decode cX6_forget 2 = .ok (.aload_n 0, 1) := by decide +kernel
theorem dX6_forget_3 : decode cX6_forget 3 = .ok (.getfield 29, 3) := by decide +kernel
theorem dX6_forget_6 : decode cX6_forget 6 = .ok (.getfield 91, 3) := by decide +kernel
theorem dX6_forget_9 : decode cX6_forget 9 = .ok (.invokestatic 54, 3) := by decide +kernel
theorem dX6_forget_12 : decode cX6_forget 12 = .ok (.ifCond .eq 5, 3) := by decide +kernel
theorem dX6_forget_15 : decode cX6_forget 15 = .ok (.iconst (-1), 1) := by decide +kernel
theorem dX6_forget_16 : decode cX6_forget 16 = .ok (.ireturn, 1) := by decide +kernel
theorem dX6_forget_17 : decode cX6_forget 17 = .ok (.aload_n 0, 1) := by decide +kernel
theorem dX6_forget_18 : decode cX6_forget 18 = .ok (.getfield 29, 3) := by decide +kernel
theorem dX6_forget_21 : decode cX6_forget 21 = .ok (.getfield 91, 3) := by decide +kernel
theorem dX6_forget_24 : decode cX6_forget 24 = .ok (.istore_n 2, 1) := by decide +kernel
theorem dX6_forget_25 : decode cX6_forget 25 = .ok (.aload_n 0, 1) := by decide +kernel
theorem dX6_forget_26 : decode cX6_forget 26 = .ok (.getfield 29, 3) := by decide +kernel
theorem dX6_forget_29 : decode cX6_forget 29 = .ok (.iload_n 1, 1) := by decide +kernel
theorem dX6_forget_30 : decode cX6_forget 30 = .ok (.putfield 91, 3) := by decide +kernel
theorem dX6_forget_33 : decode cX6_forget 33 = .ok (.iload_n 2, 1) := by decide +kernel
theorem dX6_forget_34 : decode cX6_forget 34 = .ok (.ireturn, 1) := by decide +kernel
theorem dX6_fits_0 : decode cX6_fits 0 = .ok (.iload_n 1, 1) := by decide +kernel
theorem dX6_fits_1 : decode cX6_fits 1 = .ok (.bipush 10, 2) := by decide +kernel
theorem dX6_fits_3 : decode cX6_fits 3 = .ok (.isub, 1) := by decide +kernel
theorem dX6_fits_4 : decode cX6_fits 4 = .ok (.istore_n 2, 1) := by decide +kernel
theorem dX6_fits_5 : decode cX6_fits 5 = .ok (.iload_n 1, 1) := by decide +kernel
theorem dX6_fits_6 : decode cX6_fits 6 = .ok (.iconst 0, 1) := by decide +kernel
theorem dX6_fits_7 : decode cX6_fits 7 = .ok (.iconst 1, 1) := by decide +kernel
theorem dX6_fits_8 : decode cX6_fits 8 = .ok (.invokestatic 54, 3) := by decide +kernel
theorem dX6_fits_11 : decode cX6_fits 11 = .ok (.ifCond .eq 16, 3) := by decide +kernel
theorem dX6_fits_14 : decode cX6_fits 14 = .ok (.aload_n 0, 1) := by decide +kernel
theorem dX6_fits_15 : decode cX6_fits 15 = .ok (.getfield 19, 3) := by decide +kernel
theorem dX6_fits_18 : decode cX6_fits 18 = .ok (.iload_n 2, 1) := by decide +kernel
theorem dX6_fits_19 : decode cX6_fits 19 = .ok (.invokevirtual 129, 3) := by decide +kernel
theorem dX6_fits_22 : decode cX6_fits 22 = .ok (.ifCond .ne 5, 3) := by decide +kernel
theorem dX6_fits_25 : decode cX6_fits 25 = .ok (.iconst (-1), 1) := by decide +kernel
theorem dX6_fits_26 : decode cX6_fits 26 = .ok (.ireturn, 1) := by decide +kernel
theorem dX6_fits_27 : decode cX6_fits 27 = .ok (.aload_n 0, 1) := by decide +kernel
theorem dX6_fits_28 : decode cX6_fits 28 = .ok (.getfield 19, 3) := by decide +kernel
theorem dX6_fits_31 : decode cX6_fits 31 = .ok (.invokevirtual 155, 3) := by decide +kernel
theorem dX6_fits_34 : decode cX6_fits 34 = .ok (.istore_n 3, 1) := by decide +kernel
theorem dX6_fits_35 : decode cX6_fits 35 = .ok (.iconst 0, 1) := by decide +kernel
theorem dX6_fits_36 : decode cX6_fits 36 = .ok (.istore 4, 2) := by decide +kernel
theorem dX6_fits_38 : decode cX6_fits 38 = .ok (.bipush (-4), 2) := by decide +kernel
theorem dX6_fits_40 : decode cX6_fits 40 = .ok (.istore 5, 2) := by decide +kernel
theorem dX6_fits_42 : decode cX6_fits 42 = .ok (.iconst 0, 1) := by decide +kernel
theorem dX6_fits_43 : decode cX6_fits 43 = .ok (.istore 6, 2) := by decide +kernel
theorem dX6_fits_45 : decode cX6_fits 45 = .ok (.aload_n 0, 1) := by decide +kernel
theorem dX6_fits_46 : decode cX6_fits 46 = .ok (.getfield 29, 3) := by decide +kernel
theorem dX6_fits_49 : decode cX6_fits 49 = .ok (.invokevirtual 202, 3) := by decide +kernel
theorem dX6_fits_52 : decode cX6_fits 52 = .ok (.istore 7, 2) := by decide +kernel
theorem dX6_fits_54 : decode cX6_fits 54 = .ok (.iconst 0, 1) := by decide +kernel
theorem dX6_fits_55 : decode cX6_fits 55 = .ok (.istore 8, 2) := by decide +kernel
theorem dX6_fits_57 : decode cX6_fits 57 = .ok (.iload 8, 2) := by decide +kernel
theorem dX6_fits_59 : decode cX6_fits 59 = .ok (.iload_n 3, 1) := by decide +kernel
theorem dX6_fits_60 : decode cX6_fits 60 = .ok (.if_icmp .ge 67, 3) := by decide +kernel
theorem dX6_fits_63 : decode cX6_fits 63 = .ok (.aload_n 0, 1) := by decide +kernel
theorem dX6_fits_64 : decode cX6_fits 64 = .ok (.iload 8, 2) := by decide +kernel
theorem dX6_fits_66 : decode cX6_fits 66 = .ok (.iload 7, 2) := by decide +kernel
theorem dX6_fits_68 : decode cX6_fits 68 = .ok (.invokevirtual 205, 3) := by decide +kernel
theorem dX6_fits_71 : decode cX6_fits 71 = .ok (.aload_n 0, 1) := by decide +kernel
theorem dX6_fits_72 : decode cX6_fits 72 = .ok (.getfield 29, 3) := by decide +kernel
theorem dX6_fits_75 : decode cX6_fits 75 = .ok (.aload_n 0, 1) := by decide +kernel
theorem dX6_fits_76 : decode cX6_fits 76 = .ok (.getfield 47, 3) := by decide +kernel
theorem dX6_fits_79 : decode cX6_fits 79 = .ok (.invokevirtual 209, 3) := by decide +kernel
theorem dX6_fits_82 : decode cX6_fits 82 = .ok (.ifCond .eq 39, 3) := by decide +kernel
theorem dX6_fits_85 : decode cX6_fits 85 = .ok (.iinc 4 1, 3) := by decide +kernel
theorem dX6_fits_88 : decode cX6_fits 88 = .ok (.iload 5, 2) := by decide +kernel
theorem dX6_fits_90 : decode cX6_fits 90 = .ok (.bipush (-4), 2) := by decide +kernel
theorem dX6_fits_92 : decode cX6_fits 92 = .ok (.if_icmp .ne 8, 3) := by decide +kernel
theorem dX6_fits_95 : decode cX6_fits 95 = .ok (.iload 8, 2) := by decide +kernel
theorem dX6_fits_97 : decode cX6_fits 97 = .ok (.goto 5, 3) := by decide +kernel
theorem dX6_fits_100 : decode cX6_fits 100 = .ok (.iload 5, 2) := by decide +kernel
theorem dX6_fits_102 : decode cX6_fits 102 = .ok (.istore 5, 2) := by decide +kernel
theorem dX6_fits_104 : decode cX6_fits 104 = .ok (.iload 6, 2) := by decide +kernel
theorem dX6_fits_106 : decode cX6_fits 106 = .ok (.iconst 1, 1) := by decide +kernel
theorem dX6_fits_107 : decode cX6_fits 107 = .ok (.aload_n 0, 1) := by decide +kernel
theorem dX6_fits_108 : decode cX6_fits 108 = .ok (.getfield 19, 3) := by decide +kernel
theorem dX6_fits_111 : decode cX6_fits 111 = .ok (.iload 8, 2) := by decide +kernel
theorem dX6_fits_113 : decode cX6_fits 113 = .ok (.iload_n 2, 1) := by decide +kernel
theorem dX6_fits_114 : decode cX6_fits 114 = .ok (.invokevirtual 161, 3) := by decide +kernel
theorem dX6_fits_117 : decode cX6_fits 117 = .ok (.ishl, 1) := by decide +kernel
theorem dX6_fits_118 : decode cX6_fits 118 = .ok (.ior, 1) := by decide +kernel
theorem dX6_fits_119 : decode cX6_fits 119 = .ok (.istore 6, 2) := by decide +kernel
theorem dX6_fits_121 : decode cX6_fits 121 = .ok (.iinc 8 1, 3) := by decide +kernel
theorem dX6_fits_124 : decode cX6_fits 124 = .ok (.goto (-67), 3) := by decide +kernel
theorem dX6_fits_127 : decode cX6_fits 127 = .ok (.iload_n 1, 1) := by decide +kernel
theorem dX6_fits_128 : decode cX6_fits 128 = .ok (.ifCond .ne 6, 3) := by decide +kernel
theorem dX6_fits_131 : decode cX6_fits 131 = .ok (.iload 4, 2) := by decide +kernel
theorem dX6_fits_133 : decode cX6_fits 133 = .ok (.ireturn, 1) := by decide +kernel
theorem dX6_fits_134 : decode cX6_fits 134 = .ok (.iload_n 1, 1) := by decide +kernel
theorem dX6_fits_135 : decode cX6_fits 135 = .ok (.iconst 1, 1) := by decide +kernel
theorem dX6_fits_136 : decode cX6_fits 136 = .ok (.if_icmp .ne 8, 3) := by decide +kernel
theorem dX6_fits_139 : decode cX6_fits 139 = .ok (.iload 5, 2) := by decide +kernel
theorem dX6_fits_141 : decode cX6_fits 141 = .ok (.goto 5, 3) := by decide +kernel
theorem dX6_fits_144 : decode cX6_fits 144 = .ok (.iload 6, 2) := by decide +kernel
theorem dX6_fits_146 : decode cX6_fits 146 = .ok (.ireturn, 1) := by decide +kernel
theorem dX6_look_0 : decode cX6_look 0 = .ok (.iload_n 1, 1) := by decide +kernel
theorem dX6_look_1 : decode cX6_look 1 = .ok (.iconst 0, 1) := by decide +kernel
theorem dX6_look_2 : decode cX6_look 2 = .ok (.iconst 1, 1) := by decide +kernel
theorem dX6_look_3 : decode cX6_look 3 = .ok (.invokestatic 54, 3) := by decide +kernel
theorem dX6_look_6 : decode cX6_look 6 = .ok (.ifCond .eq 5, 3) := by decide +kernel
theorem dX6_look_9 : decode cX6_look 9 = .ok (.iconst (-1), 1) := by decide +kernel
theorem dX6_look_10 : decode cX6_look 10 = .ok (.ireturn, 1) := by decide +kernel
theorem dX6_look_11 : decode cX6_look 11 = .ok (.aload_n 0, 1) := by decide +kernel
theorem dX6_look_12 : decode cX6_look 12 = .ok (.invokevirtual 213, 3) := by decide +kernel
theorem dX6_look_15 : decode cX6_look 15 = .ok (.istore_n 2, 1) := by decide +kernel
theorem dX6_look_16 : decode cX6_look 16 = .ok (.bipush (-4), 2) := by decide +kernel
theorem dX6_look_18 : decode cX6_look 18 = .ok (.istore_n 3, 1) := by decide +kernel
theorem dX6_look_19 : decode cX6_look 19 = .ok (.iconst 0, 1) := by decide +kernel
theorem dX6_look_20 : decode cX6_look 20 = .ok (.istore 4, 2) := by decide +kernel
theorem dX6_look_22 : decode cX6_look 22 = .ok (.iload 4, 2) := by decide +kernel
theorem dX6_look_24 : decode cX6_look 24 = .ok (.aload_n 0, 1) := by decide +kernel
theorem dX6_look_25 : decode cX6_look 25 = .ok (.getfield 19, 3) := by decide +kernel
theorem dX6_look_28 : decode cX6_look 28 = .ok (.getfield 101, 3) := by decide +kernel
theorem dX6_look_31 : decode cX6_look 31 = .ok (.if_icmp .ge 56, 3) := by decide +kernel
theorem dX6_look_34 : decode cX6_look 34 = .ok (.iconst 1, 1) := by decide +kernel
theorem dX6_look_35 : decode cX6_look 35 = .ok (.istore 5, 2) := by decide +kernel
theorem dX6_look_37 : decode cX6_look 37 = .ok (.iload 5, 2) := by decide +kernel
theorem dX6_look_39 : decode cX6_look 39 = .ok (.bipush 9, 2) := by decide +kernel
theorem dX6_look_41 : decode cX6_look 41 = .ok (.if_icmp .gt 40, 3) := by decide +kernel
theorem dX6_look_44 : decode cX6_look 44 = .ok (.aload_n 0, 1) := by decide +kernel
theorem dX6_look_45 : decode cX6_look 45 = .ok (.iload 4, 2) := by decide +kernel
theorem dX6_look_47 : decode cX6_look 47 = .ok (.iload 5, 2) := by decide +kernel
theorem dX6_look_49 : decode cX6_look 49 = .ok (.invokestatic 216, 3) := by decide +kernel
theorem dX6_look_52 : decode cX6_look 52 = .ok (.invokevirtual 219, 3) := by decide +kernel
theorem dX6_look_55 : decode cX6_look 55 = .ok (.istore 6, 2) := by decide +kernel
theorem dX6_look_57 : decode cX6_look 57 = .ok (.iload 6, 2) := by decide +kernel
theorem dX6_look_59 : decode cX6_look 59 = .ok (.iload_n 2, 1) := by decide +kernel
theorem dX6_look_60 : decode cX6_look 60 = .ok (.if_icmp .ge 15, 3) := by decide +kernel
theorem dX6_look_63 : decode cX6_look 63 = .ok (.iload 6, 2) := by decide +kernel
theorem dX6_look_65 : decode cX6_look 65 = .ok (.istore_n 2, 1) := by decide +kernel
theorem dX6_look_66 : decode cX6_look 66 = .ok (.bipush 10, 2) := by decide +kernel
theorem dX6_look_68 : decode cX6_look 68 = .ok (.iload 4, 2) := by decide +kernel
theorem dX6_look_70 : decode cX6_look 70 = .ok (.imul, 1) := by decide +kernel
theorem dX6_look_71 : decode cX6_look 71 = .ok (.iload 5, 2) := by decide +kernel
theorem dX6_look_73 : decode cX6_look 73 = .ok (.iadd, 1) := by decide +kernel
theorem dX6_look_74 : decode cX6_look 74 = .ok (.istore_n 3, 1) := by decide +kernel
theorem dX6_look_75 : decode cX6_look 75 = .ok (.iinc 5 1, 3) := by decide +kernel
theorem dX6_look_78 : decode cX6_look 78 = .ok (.goto (-41), 3) := by decide +kernel
theorem dX6_look_81 : decode cX6_look 81 = .ok (.iinc 4 1, 3) := by decide +kernel
theorem dX6_look_84 : decode cX6_look 84 = .ok (.goto (-62), 3) := by decide +kernel
theorem dX6_look_87 : decode cX6_look 87 = .ok (.iload_n 3, 1) := by decide +kernel
theorem dX6_look_88 : decode cX6_look 88 = .ok (.bipush (-4), 2) := by decide +kernel
theorem dX6_look_90 : decode cX6_look 90 = .ok (.if_icmp .ne 6, 3) := by decide +kernel
theorem dX6_look_93 : decode cX6_look 93 = .ok (.bipush (-4), 2) := by decide +kernel
theorem dX6_look_95 : decode cX6_look 95 = .ok (.ireturn, 1) := by decide +kernel
theorem dX6_look_96 : decode cX6_look 96 = .ok (.iload_n 1, 1) := by decide +kernel
theorem dX6_look_97 : decode cX6_look 97 = .ok (.ifCond .ne 7, 3) := by decide +kernel
theorem dX6_look_100 : decode cX6_look 100 = .ok (.iload_n 3, 1) := by decide +kernel
theorem dX6_look_101 : decode cX6_look 101 = .ok (.goto 4, 3) := by decide +kernel
theorem dX6_look_104 : decode cX6_look 104 = .ok (.iload_n 2, 1) := by decide +kernel
theorem dX6_look_105 : decode cX6_look 105 = .ok (.ireturn, 1) := by decide +kernel
theorem dX6_drift_0 : decode cX6_drift 0 = .ok (.iload_n 2, 1) := by decide +kernel
theorem dX6_drift_1 : decode cX6_drift 1 = .ok (.iconst 1, 1) := by decide +kernel
theorem dX6_drift_2 : decode cX6_drift 2 = .ok (.bipush 60, 2) := by decide +kernel
theorem dX6_drift_4 : decode cX6_drift 4 = .ok (.invokestatic 54, 3) := by decide +kernel
theorem dX6_drift_7 : decode cX6_drift 7 = .ok (.ifCond .ne 12, 3) := by decide +kernel
theorem dX6_drift_10 : decode cX6_drift 10 = .ok (.iload_n 3, 1) := by decide +kernel
theorem dX6_drift_11 : decode cX6_drift 11 = .ok (.iconst 0, 1) := by decide +kernel
theorem dX6_drift_12 : decode cX6_drift 12 = .ok (.iconst 1, 1) := by decide +kernel
theorem dX6_drift_13 : decode cX6_drift 13 = .ok (.invokestatic 54, 3) := by decide +kernel
theorem dX6_drift_16 : decode cX6_drift 16 = .ok (.ifCond .eq 5, 3) := by decide +kernel
theorem dX6_drift_19 : decode cX6_drift 19 = .ok (.iconst (-1), 1) := by decide +kernel
theorem dX6_drift_20 : decode cX6_drift 20 = .ok (.ireturn, 1) := by decide +kernel
theorem dX6_drift_21 : decode cX6_drift 21 = .ok (.aload_n 0, 1) := by decide +kernel
theorem dX6_drift_22 : decode cX6_drift 22 = .ok (.getfield 19, 3) := by decide +kernel
theorem dX6_drift_25 : decode cX6_drift 25 = .ok (.getfield 101, 3) := by decide +kernel
theorem dX6_drift_28 : decode cX6_drift 28 = .ok (.ifCond .ne 6, 3) := by decide +kernel
theorem dX6_drift_31 : decode cX6_drift 31 = .ok (.bipush (-2), 2) := by decide +kernel
theorem dX6_drift_33 : decode cX6_drift 33 = .ok (.ireturn, 1) := by decide +kernel
theorem dX6_drift_34 : decode cX6_drift 34 = .ok (.aload_n 0, 1) := by decide +kernel
theorem dX6_drift_35 : decode cX6_drift 35 = .ok (.invokevirtual 149, 3) := by decide +kernel
theorem dX6_drift_38 : decode cX6_drift 38 = .ok (.iload_n 1, 1) := by decide +kernel
theorem dX6_drift_39 : decode cX6_drift 39 = .ok (.istore 4, 2) := by decide +kernel
theorem dX6_drift_41 : decode cX6_drift 41 = .ok (.iconst 0, 1) := by decide +kernel
theorem dX6_drift_42 : decode cX6_drift 42 = .ok (.istore 5, 2) := by decide +kernel
theorem dX6_drift_44 : decode cX6_drift 44 = .ok (.iload 5, 2) := by decide +kernel
theorem dX6_drift_46 : decode cX6_drift 46 = .ok (.iload_n 2, 1) := by decide +kernel
theorem dX6_drift_47 : decode cX6_drift 47 = .ok (.if_icmp .ge 68, 3) := by decide +kernel
theorem dX6_drift_50 : decode cX6_drift 50 = .ok (.iload 4, 2) := by decide +kernel
theorem dX6_drift_52 : decode cX6_drift 52 = .ok (.ldc 222, 2) := by decide +kernel
theorem dX6_drift_54 : decode cX6_drift 54 = .ok (.imul, 1) := by decide +kernel
theorem dX6_drift_55 : decode cX6_drift 55 = .ok (.sipush 12345, 3) := by decide +kernel
theorem dX6_drift_58 : decode cX6_drift 58 = .ok (.iadd, 1) := by decide +kernel
theorem dX6_drift_59 : decode cX6_drift 59 = .ok (.istore 4, 2) := by decide +kernel
theorem dX6_drift_61 : decode cX6_drift 61 = .ok (.iload 4, 2) := by decide +kernel
theorem dX6_drift_63 : decode cX6_drift 63 = .ok (.bipush 16, 2) := by decide +kernel
theorem dX6_drift_65 : decode cX6_drift 65 = .ok (.iushr, 1) := by decide +kernel
theorem dX6_drift_66 : decode cX6_drift 66 = .ok (.sipush 32767, 3) := by decide +kernel
theorem dX6_drift_69 : decode cX6_drift 69 = .ok (.iand, 1) := by decide +kernel
theorem dX6_drift_70 : decode cX6_drift 70 = .ok (.istore 6, 2) := by decide +kernel
theorem dX6_drift_72 : decode cX6_drift 72 = .ok (.iload 6, 2) := by decide +kernel
theorem dX6_drift_74 : decode cX6_drift 74 = .ok (.bipush 8, 2) := by decide +kernel
theorem dX6_drift_76 : decode cX6_drift 76 = .ok (.irem, 1) := by decide +kernel
theorem dX6_drift_77 : decode cX6_drift 77 = .ok (.iconst 2, 1) := by decide +kernel
theorem dX6_drift_78 : decode cX6_drift 78 = .ok (.if_icmp .lt 31, 3) := by decide +kernel
theorem dX6_drift_81 : decode cX6_drift 81 = .ok (.aload_n 0, 1) := by decide +kernel
theorem dX6_drift_82 : decode cX6_drift 82 = .ok (.getfield 23, 3) := by decide +kernel
theorem dX6_drift_85 : decode cX6_drift 85 = .ok (.aload_n 0, 1) := by decide +kernel
theorem dX6_drift_86 : decode cX6_drift 86 = .ok (.getfield 23, 3) := by decide +kernel
theorem dX6_drift_89 : decode cX6_drift 89 = .ok (.getfield 104, 3) := by decide +kernel
theorem dX6_drift_92 : decode cX6_drift 92 = .ok (.iload 6, 2) := by decide +kernel
theorem dX6_drift_94 : decode cX6_drift 94 = .ok (.bipush 8, 2) := by decide +kernel
theorem dX6_drift_96 : decode cX6_drift 96 = .ok (.idiv, 1) := by decide +kernel
theorem dX6_drift_97 : decode cX6_drift 97 = .ok (.iconst 4, 1) := by decide +kernel
theorem dX6_drift_98 : decode cX6_drift 98 = .ok (.irem, 1) := by decide +kernel
theorem dX6_drift_99 : decode cX6_drift 99 = .ok (.invokevirtual 223, 3) := by decide +kernel
theorem dX6_drift_102 : decode cX6_drift 102 = .ok (.aload_n 0, 1) := by decide +kernel
theorem dX6_drift_103 : decode cX6_drift 103 = .ok (.getfield 23, 3) := by decide +kernel
theorem dX6_drift_106 : decode cX6_drift 106 = .ok (.invokevirtual 226, 3) := by decide +kernel
theorem dX6_drift_109 : decode cX6_drift 109 = .ok (.iinc 5 1, 3) := by decide +kernel
theorem dX6_drift_112 : decode cX6_drift 112 = .ok (.goto (-68), 3) := by decide +kernel
theorem dX6_drift_115 : decode cX6_drift 115 = .ok (.iload_n 3, 1) := by decide +kernel
theorem dX6_drift_116 : decode cX6_drift 116 = .ok (.ifCond .ne 13, 3) := by decide +kernel
theorem dX6_drift_119 : decode cX6_drift 119 = .ok (.aload_n 0, 1) := by decide +kernel
theorem dX6_drift_120 : decode cX6_drift 120 = .ok (.getfield 23, 3) := by decide +kernel
theorem dX6_drift_123 : decode cX6_drift 123 = .ok (.getfield 119, 3) := by decide +kernel
theorem dX6_drift_126 : decode cX6_drift 126 = .ok (.goto 10, 3) := by decide +kernel
theorem dX6_drift_129 : decode cX6_drift 129 = .ok (.aload_n 0, 1) := by decide +kernel
theorem dX6_drift_130 : decode cX6_drift 130 = .ok (.getfield 23, 3) := by decide +kernel
theorem dX6_drift_133 : decode cX6_drift 133 = .ok (.invokevirtual 125, 3) := by decide +kernel
theorem dX6_drift_136 : decode cX6_drift 136 = .ok (.ireturn, 1) := by decide +kernel
theorem dX6_keep_0 : decode cX6_keep 0 = .ok (.iload_n 1, 1) := by decide +kernel
theorem dX6_keep_1 : decode cX6_keep 1 = .ok (.iconst 0, 1) := by decide +kernel
theorem dX6_keep_2 : decode cX6_keep 2 = .ok (.iconst 1, 1) := by decide +kernel
theorem dX6_keep_3 : decode cX6_keep 3 = .ok (.invokestatic 54, 3) := by decide +kernel
theorem dX6_keep_6 : decode cX6_keep 6 = .ok (.ifCond .eq 5, 3) := by decide +kernel
theorem dX6_keep_9 : decode cX6_keep 9 = .ok (.iconst (-1), 1) := by decide +kernel
theorem dX6_keep_10 : decode cX6_keep 10 = .ok (.ireturn, 1) := by decide +kernel
theorem dX6_keep_11 : decode cX6_keep 11 = .ok (.aload_n 0, 1) := by decide +kernel
theorem dX6_keep_12 : decode cX6_keep 12 = .ok (.getfield 35, 3) := by decide +kernel
theorem dX6_keep_15 : decode cX6_keep 15 = .ok (.iload_n 1, 1) := by decide +kernel
theorem dX6_keep_16 : decode cX6_keep 16 = .ok (.aaload, 1) := by decide +kernel
theorem dX6_keep_17 : decode cX6_keep 17 = .ok (.astore_n 2, 1) := by decide +kernel
theorem dX6_keep_18 : decode cX6_keep 18 = .ok (.aload_n 2, 1) := by decide +kernel
theorem dX6_keep_19 : decode cX6_keep 19 = .ok (.getfield 94, 3) := by decide +kernel
theorem dX6_keep_22 : decode cX6_keep 22 = .ok (.ifCond .eq 7, 3) := by decide +kernel
theorem dX6_keep_25 : decode cX6_keep 25 = .ok (.iconst 1, 1) := by decide +kernel
theorem dX6_keep_26 : decode cX6_keep 26 = .ok (.goto 4, 3) := by decide +kernel
theorem dX6_keep_29 : decode cX6_keep 29 = .ok (.iconst 0, 1) := by decide +kernel
theorem dX6_keep_30 : decode cX6_keep 30 = .ok (.istore_n 3, 1) := by decide +kernel
theorem dX6_keep_31 : decode cX6_keep 31 = .ok (.aload_n 2, 1) := by decide +kernel
theorem dX6_keep_32 : decode cX6_keep 32 = .ok (.iconst 1, 1) := by decide +kernel
theorem dX6_keep_33 : decode cX6_keep 33 = .ok (.putfield 94, 3) := by decide +kernel
theorem dX6_keep_36 : decode cX6_keep 36 = .ok (.aload_n 2, 1) := by decide +kernel
theorem dX6_keep_37 : decode cX6_keep 37 = .ok (.getfield 229, 3) := by decide +kernel
theorem dX6_keep_40 : decode cX6_keep 40 = .ok (.aload_n 0, 1) := by decide +kernel
theorem dX6_keep_41 : decode cX6_keep 41 = .ok (.getfield 19, 3) := by decide +kernel
theorem dX6_keep_44 : decode cX6_keep 44 = .ok (.invokevirtual 87, 3) := by decide +kernel
theorem dX6_keep_47 : decode cX6_keep 47 = .ok (.aload_n 2, 1) := by decide +kernel
theorem dX6_keep_48 : decode cX6_keep 48 = .ok (.getfield 232, 3) := by decide +kernel
theorem dX6_keep_51 : decode cX6_keep 51 = .ok (.aload_n 0, 1) := by decide +kernel
theorem dX6_keep_52 : decode cX6_keep 52 = .ok (.getfield 29, 3) := by decide +kernel
theorem dX6_keep_55 : decode cX6_keep 55 = .ok (.invokevirtual 233, 3) := by decide +kernel
theorem dX6_keep_58 : decode cX6_keep 58 = .ok (.iload_n 3, 1) := by decide +kernel
theorem dX6_keep_59 : decode cX6_keep 59 = .ok (.ireturn, 1) := by decide +kernel
theorem dX6_back_0 : decode cX6_back 0 = .ok (.iload_n 1, 1) := by decide +kernel
theorem dX6_back_1 : decode cX6_back 1 = .ok (.iconst 0, 1) := by decide +kernel
theorem dX6_back_2 : decode cX6_back 2 = .ok (.iconst 1, 1) := by decide +kernel
theorem dX6_back_3 : decode cX6_back 3 = .ok (.invokestatic 54, 3) := by decide +kernel
theorem dX6_back_6 : decode cX6_back 6 = .ok (.ifCond .eq 5, 3) := by decide +kernel
theorem dX6_back_9 : decode cX6_back 9 = .ok (.iconst (-1), 1) := by decide +kernel
theorem dX6_back_10 : decode cX6_back 10 = .ok (.ireturn, 1) := by decide +kernel
theorem dX6_back_11 : decode cX6_back 11 = .ok (.aload_n 0, 1) := by decide +kernel
theorem dX6_back_12 : decode cX6_back 12 = .ok (.getfield 35, 3) := by decide +kernel
theorem dX6_back_15 : decode cX6_back 15 = .ok (.iload_n 1, 1) := by decide +kernel
theorem dX6_back_16 : decode cX6_back 16 = .ok (.aaload, 1) := by decide +kernel
theorem dX6_back_17 : decode cX6_back 17 = .ok (.astore_n 2, 1) := by decide +kernel
theorem dX6_back_18 : decode cX6_back 18 = .ok (.aload_n 2, 1) := by decide +kernel
theorem dX6_back_19 : decode cX6_back 19 = .ok (.getfield 94, 3) := by decide +kernel
theorem dX6_back_22 : decode cX6_back 22 = .ok (.ifCond .ne 6, 3) := by decide +kernel
theorem dX6_back_25 : decode cX6_back 25 = .ok (.bipush (-2), 2) := by decide +kernel
theorem dX6_back_27 : decode cX6_back 27 = .ok (.ireturn, 1) := by decide +kernel
theorem dX6_back_28 : decode cX6_back 28 = .ok (.aload_n 0, 1) := by decide +kernel
theorem dX6_back_29 : decode cX6_back 29 = .ok (.getfield 19, 3) := by decide +kernel
theorem dX6_back_32 : decode cX6_back 32 = .ok (.aload_n 2, 1) := by decide +kernel
theorem dX6_back_33 : decode cX6_back 33 = .ok (.getfield 229, 3) := by decide +kernel
theorem dX6_back_36 : decode cX6_back 36 = .ok (.invokevirtual 87, 3) := by decide +kernel
theorem dX6_back_39 : decode cX6_back 39 = .ok (.aload_n 0, 1) := by decide +kernel
theorem dX6_back_40 : decode cX6_back 40 = .ok (.getfield 29, 3) := by decide +kernel
theorem dX6_back_43 : decode cX6_back 43 = .ok (.aload_n 2, 1) := by decide +kernel
theorem dX6_back_44 : decode cX6_back 44 = .ok (.getfield 232, 3) := by decide +kernel
theorem dX6_back_47 : decode cX6_back 47 = .ok (.invokevirtual 233, 3) := by decide +kernel
theorem dX6_back_50 : decode cX6_back 50 = .ok (.aload_n 0, 1) := by decide +kernel
theorem dX6_back_51 : decode cX6_back 51 = .ok (.getfield 19, 3) := by decide +kernel
theorem dX6_back_54 : decode cX6_back 54 = .ok (.getfield 116, 3) := by decide +kernel
theorem dX6_back_57 : decode cX6_back 57 = .ok (.ireturn, 1) := by decide +kernel
theorem dX6_sheet_0 : decode cX6_sheet 0 = .ok (.iload_n 1, 1) := by decide +kernel
theorem dX6_sheet_1 : decode cX6_sheet 1 = .ok (.iconst 0, 1) := by decide +kernel
theorem dX6_sheet_2 : decode cX6_sheet 2 = .ok (.iconst 3, 1) := by decide +kernel
theorem dX6_sheet_3 : decode cX6_sheet 3 = .ok (.invokestatic 54, 3) := by decide +kernel
theorem dX6_sheet_6 : decode cX6_sheet 6 = .ok (.ifCond .ne 18, 3) := by decide +kernel
theorem dX6_sheet_9 : decode cX6_sheet 9 = .ok (.iload_n 2, 1) := by decide +kernel
theorem dX6_sheet_10 : decode cX6_sheet 10 = .ok (.iconst 0, 1) := by decide +kernel
theorem dX6_sheet_11 : decode cX6_sheet 11 = .ok (.iconst 2, 1) := by decide +kernel
theorem dX6_sheet_12 : decode cX6_sheet 12 = .ok (.invokestatic 54, 3) := by decide +kernel
theorem dX6_sheet_15 : decode cX6_sheet 15 = .ok (.ifCond .ne 9, 3) := by decide +kernel
theorem dX6_sheet_18 : decode cX6_sheet 18 = .ok (.iload_n 3, 1) := by decide +kernel
theorem dX6_sheet_19 : decode cX6_sheet 19 = .ok (.bipush 40, 2) := by decide +kernel
theorem dX6_sheet_21 : decode cX6_sheet 21 = .ok (.if_icmp .le 5, 3) := by decide +kernel
theorem dX6_sheet_24 : decode cX6_sheet 24 = .ok (.iconst (-1), 1) := by decide +kernel
theorem dX6_sheet_25 : decode cX6_sheet 25 = .ok (.ireturn, 1) := by decide +kernel
theorem dX6_sheet_26 : decode cX6_sheet 26 = .ok (.iload_n 3, 1) := by decide +kernel
theorem dX6_sheet_27 : decode cX6_sheet 27 = .ok (.ifCond .ge 6, 3) := by decide +kernel
theorem dX6_sheet_30 : decode cX6_sheet 30 = .ok (.bipush (-14), 2) := by decide +kernel
theorem dX6_sheet_32 : decode cX6_sheet 32 = .ok (.ireturn, 1) := by decide +kernel
theorem dX6_sheet_33 : decode cX6_sheet 33 = .ok (.aload_n 0, 1) := by decide +kernel
theorem dX6_sheet_34 : decode cX6_sheet 34 = .ok (.getfield 42, 3) := by decide +kernel
theorem dX6_sheet_37 : decode cX6_sheet 37 = .ok (.iload_n 1, 1) := by decide +kernel
theorem dX6_sheet_38 : decode cX6_sheet 38 = .ok (.aaload, 1) := by decide +kernel
theorem dX6_sheet_39 : decode cX6_sheet 39 = .ok (.iload_n 2, 1) := by decide +kernel
theorem dX6_sheet_40 : decode cX6_sheet 40 = .ok (.iload_n 3, 1) := by decide +kernel
theorem dX6_sheet_41 : decode cX6_sheet 41 = .ok (.invokevirtual 236, 3) := by decide +kernel
theorem dX6_sheet_44 : decode cX6_sheet 44 = .ok (.iconst 1, 1) := by decide +kernel
theorem dX6_sheet_45 : decode cX6_sheet 45 = .ok (.ireturn, 1) := by decide +kernel
theorem dX6_lay_0 : decode cX6_lay 0 = .ok (.iload_n 1, 1) := by decide +kernel
theorem dX6_lay_1 : decode cX6_lay 1 = .ok (.iconst 0, 1) := by decide +kernel
theorem dX6_lay_2 : decode cX6_lay 2 = .ok (.iconst 3, 1) := by decide +kernel
theorem dX6_lay_3 : decode cX6_lay 3 = .ok (.invokestatic 54, 3) := by decide +kernel
theorem dX6_lay_6 : decode cX6_lay 6 = .ok (.ifCond .eq 5, 3) := by decide +kernel
theorem dX6_lay_9 : decode cX6_lay 9 = .ok (.iconst (-1), 1) := by decide +kernel
theorem dX6_lay_10 : decode cX6_lay 10 = .ok (.ireturn, 1) := by decide +kernel
theorem dX6_lay_11 : decode cX6_lay 11 = .ok (.aload_n 0, 1) := by decide +kernel
theorem dX6_lay_12 : decode cX6_lay 12 = .ok (.getfield 42, 3) := by decide +kernel
theorem dX6_lay_15 : decode cX6_lay 15 = .ok (.iload_n 1, 1) := by decide +kernel
theorem dX6_lay_16 : decode cX6_lay 16 = .ok (.aaload, 1) := by decide +kernel
theorem dX6_lay_17 : decode cX6_lay 17 = .ok (.astore 4, 2) := by decide +kernel
theorem dX6_lay_19 : decode cX6_lay 19 = .ok (.aload 4, 2) := by decide +kernel
theorem dX6_lay_21 : decode cX6_lay 21 = .ok (.aload 4, 2) := by decide +kernel
theorem dX6_lay_23 : decode cX6_lay 23 = .ok (.getfield 239, 3) := by decide +kernel
theorem dX6_lay_26 : decode cX6_lay 26 = .ok (.iload_n 2, 1) := by decide +kernel
theorem dX6_lay_27 : decode cX6_lay 27 = .ok (.invokevirtual 242, 3) := by decide +kernel
theorem dX6_lay_30 : decode cX6_lay 30 = .ok (.istore 5, 2) := by decide +kernel
theorem dX6_lay_32 : decode cX6_lay 32 = .ok (.iload 5, 2) := by decide +kernel
theorem dX6_lay_34 : decode cX6_lay 34 = .ok (.ifCond .eq 9, 3) := by decide +kernel
theorem dX6_lay_37 : decode cX6_lay 37 = .ok (.bipush (-10), 2) := by decide +kernel
theorem dX6_lay_39 : decode cX6_lay 39 = .ok (.iload 5, 2) := by decide +kernel
theorem dX6_lay_41 : decode cX6_lay 41 = .ok (.isub, 1) := by decide +kernel
theorem dX6_lay_42 : decode cX6_lay 42 = .ok (.ireturn, 1) := by decide +kernel
theorem dX6_lay_43 : decode cX6_lay 43 = .ok (.aload 4, 2) := by decide +kernel
theorem dX6_lay_45 : decode cX6_lay 45 = .ok (.iload_n 2, 1) := by decide +kernel
theorem dX6_lay_46 : decode cX6_lay 46 = .ok (.iload_n 3, 1) := by decide +kernel
theorem dX6_lay_47 : decode cX6_lay 47 = .ok (.invokevirtual 245, 3) := by decide +kernel
theorem dX6_lay_50 : decode cX6_lay 50 = .ok (.iconst 1, 1) := by decide +kernel
theorem dX6_lay_51 : decode cX6_lay 51 = .ok (.ireturn, 1) := by decide +kernel
theorem dX6_read_0 : decode cX6_read 0 = .ok (.iload_n 1, 1) := by decide +kernel
theorem dX6_read_1 : decode cX6_read 1 = .ok (.iconst 0, 1) := by decide +kernel
theorem dX6_read_2 : decode cX6_read 2 = .ok (.iconst 3, 1) := by decide +kernel
theorem dX6_read_3 : decode cX6_read 3 = .ok (.invokestatic 54, 3) := by decide +kernel
theorem dX6_read_6 : decode cX6_read 6 = .ok (.ifCond .ne 23, 3) := by decide +kernel
theorem dX6_read_9 : decode cX6_read 9 = .ok (.iload_n 2, 1) := by decide +kernel
theorem dX6_read_10 : decode cX6_read 10 = .ok (.iconst 0, 1) := by decide +kernel
theorem dX6_read_11 : decode cX6_read 11 = .ok (.iconst 2, 1) := by decide +kernel
theorem dX6_read_12 : decode cX6_read 12 = .ok (.invokestatic 54, 3) := by decide +kernel
theorem dX6_read_15 : decode cX6_read 15 = .ok (.ifCond .ne 14, 3) := by decide +kernel
theorem dX6_read_18 : decode cX6_read 18 = .ok (.iload 4, 2) := by decide +kernel
theorem dX6_read_20 : decode cX6_read 20 = .ok (.iconst 0, 1) := by decide +kernel
theorem dX6_read_21 : decode cX6_read 21 = .ok (.bipush 20, 2) := by decide +kernel
theorem dX6_read_23 : decode cX6_read 23 = .ok (.invokestatic 54, 3) := by decide +kernel
theorem dX6_read_26 : decode cX6_read 26 = .ok (.ifCond .eq 5, 3) := by decide +kernel
theorem dX6_read_29 : decode cX6_read 29 = .ok (.iconst (-1), 1) := by decide +kernel
theorem dX6_read_30 : decode cX6_read 30 = .ok (.ireturn, 1) := by decide +kernel
theorem dX6_read_31 : decode cX6_read 31 = .ok (.aload_n 0, 1) := by decide +kernel
theorem dX6_read_32 : decode cX6_read 32 = .ok (.getfield 42, 3) := by decide +kernel
theorem dX6_read_35 : decode cX6_read 35 = .ok (.iload_n 1, 1) := by decide +kernel
theorem dX6_read_36 : decode cX6_read 36 = .ok (.aaload, 1) := by decide +kernel
theorem dX6_read_37 : decode cX6_read 37 = .ok (.astore 5, 2) := by decide +kernel
theorem dX6_read_39 : decode cX6_read 39 = .ok (.aload_n 0, 1) := by decide +kernel
theorem dX6_read_40 : decode cX6_read 40 = .ok (.getfield 23, 3) := by decide +kernel
theorem dX6_read_43 : decode cX6_read 43 = .ok (.aload_n 0, 1) := by decide +kernel
theorem dX6_read_44 : decode cX6_read 44 = .ok (.getfield 19, 3) := by decide +kernel
theorem dX6_read_47 : decode cX6_read 47 = .ok (.invokevirtual 87, 3) := by decide +kernel
theorem dX6_read_50 : decode cX6_read 50 = .ok (.iconst 0, 1) := by decide +kernel
theorem dX6_read_51 : decode cX6_read 51 = .ok (.istore 6, 2) := by decide +kernel
theorem dX6_read_53 : decode cX6_read 53 = .ok (.iconst 0, 1) := by decide +kernel
theorem dX6_read_54 : decode cX6_read 54 = .ok (.istore 7, 2) := by decide +kernel
theorem dX6_read_56 : decode cX6_read 56 = .ok (.iconst 0, 1) := by decide +kernel
theorem dX6_read_57 : decode cX6_read 57 = .ok (.istore 8, 2) := by decide +kernel
theorem dX6_read_59 : decode cX6_read 59 = .ok (.iload 8, 2) := by decide +kernel
theorem dX6_read_61 : decode cX6_read 61 = .ok (.iload 4, 2) := by decide +kernel
theorem dX6_read_63 : decode cX6_read 63 = .ok (.if_icmp .ge 72, 3) := by decide +kernel
theorem dX6_read_66 : decode cX6_read 66 = .ok (.iload 6, 2) := by decide +kernel
theorem dX6_read_68 : decode cX6_read 68 = .ok (.ifCond .ne 67, 3) := by decide +kernel
theorem dX6_read_71 : decode cX6_read 71 = .ok (.iload_n 3, 1) := by decide +kernel
theorem dX6_read_72 : decode cX6_read 72 = .ok (.iconst 2, 1) := by decide +kernel
theorem dX6_read_73 : decode cX6_read 73 = .ok (.iload 8, 2) := by decide +kernel
theorem dX6_read_75 : decode cX6_read 75 = .ok (.imul, 1) := by decide +kernel
theorem dX6_read_76 : decode cX6_read 76 = .ok (.iadd, 1) := by decide +kernel
theorem dX6_read_77 : decode cX6_read 77 = .ok (.istore 9, 2) := by decide +kernel
theorem dX6_read_79 : decode cX6_read 79 = .ok (.aload 5, 2) := by decide +kernel
theorem dX6_read_81 : decode cX6_read 81 = .ok (.iload_n 2, 1) := by decide +kernel
theorem dX6_read_82 : decode cX6_read 82 = .ok (.iload 9, 2) := by decide +kernel
theorem dX6_read_84 : decode cX6_read 84 = .ok (.invokevirtual 248, 3) := by decide +kernel
theorem dX6_read_87 : decode cX6_read 87 = .ok (.istore 6, 2) := by decide +kernel
theorem dX6_read_89 : decode cX6_read 89 = .ok (.iload 6, 2) := by decide +kernel
theorem dX6_read_91 : decode cX6_read 91 = .ok (.ifCond .ne 38, 3) := by decide +kernel
theorem dX6_read_94 : decode cX6_read 94 = .ok (.aload_n 0, 1) := by decide +kernel
theorem dX6_read_95 : decode cX6_read 95 = .ok (.getfield 23, 3) := by decide +kernel
theorem dX6_read_98 : decode cX6_read 98 = .ok (.aload 5, 2) := by decide +kernel
theorem dX6_read_100 : decode cX6_read 100 = .ok (.iload 9, 2) := by decide +kernel
theorem dX6_read_102 : decode cX6_read 102 = .ok (.invokevirtual 251, 3) := by decide +kernel
theorem dX6_read_105 : decode cX6_read 105 = .ok (.aload 5, 2) := by decide +kernel
theorem dX6_read_107 : decode cX6_read 107 = .ok (.iload 9, 2) := by decide +kernel
theorem dX6_read_109 : decode cX6_read 109 = .ok (.iconst 1, 1) := by decide +kernel
theorem dX6_read_110 : decode cX6_read 110 = .ok (.iadd, 1) := by decide +kernel
theorem dX6_read_111 : decode cX6_read 111 = .ok (.invokevirtual 251, 3) := by decide +kernel
theorem dX6_read_114 : decode cX6_read 114 = .ok (.invokevirtual 141, 3) := by decide +kernel
theorem dX6_read_117 : decode cX6_read 117 = .ok (.ifCond .ge 9, 3) := by decide +kernel
theorem dX6_read_120 : decode cX6_read 120 = .ok (.bipush (-20), 2) := by decide +kernel
theorem dX6_read_122 : decode cX6_read 122 = .ok (.iload 8, 2) := by decide +kernel
theorem dX6_read_124 : decode cX6_read 124 = .ok (.isub, 1) := by decide +kernel
theorem dX6_read_125 : decode cX6_read 125 = .ok (.ireturn, 1) := by decide +kernel
theorem dX6_read_126 : decode cX6_read 126 = .ok (.iinc 7 1, 3) := by decide +kernel
theorem dX6_read_129 : decode cX6_read 129 = .ok (.iinc 8 1, 3) := by decide +kernel
theorem dX6_read_132 : decode cX6_read 132 = .ok (.goto (-73), 3) := by decide +kernel
theorem dX6_read_135 : decode cX6_read 135 = .ok (.aload_n 0, 1) := by decide +kernel
theorem dX6_read_136 : decode cX6_read 136 = .ok (.getfield 19, 3) := by decide +kernel
theorem dX6_read_139 : decode cX6_read 139 = .ok (.aload_n 0, 1) := by decide +kernel
theorem dX6_read_140 : decode cX6_read 140 = .ok (.getfield 23, 3) := by decide +kernel
theorem dX6_read_143 : decode cX6_read 143 = .ok (.invokevirtual 87, 3) := by decide +kernel
theorem dX6_read_146 : decode cX6_read 146 = .ok (.aload_n 0, 1) := by decide +kernel
theorem dX6_read_147 : decode cX6_read 147 = .ok (.iload 6, 2) := by decide +kernel
theorem dX6_read_149 : decode cX6_read 149 = .ok (.putfield 254, 3) := by decide +kernel
theorem dX6_read_152 : decode cX6_read 152 = .ok (.iload 7, 2) := by decide +kernel
theorem dX6_read_154 : decode cX6_read 154 = .ok (.ireturn, 1) := by decide +kernel
theorem dX6_torn_0 : decode cX6_torn 0 = .ok (.aload_n 0, 1) := by decide +kernel
theorem dX6_torn_1 : decode cX6_torn 1 = .ok (.getfield 254, 3) := by decide +kernel
theorem dX6_torn_4 : decode cX6_torn 4 = .ok (.ireturn, 1) := by decide +kernel
theorem dX6_count_0 : decode cX6_count 0 = .ok (.iload_n 1, 1) := by decide +kernel
theorem dX6_count_1 : decode cX6_count 1 = .ok (.tableswitch 94 0 4 #[35, 43, 51, 56, 67], 35) := by decide +kernel
theorem dX6_count_36 : decode cX6_count 36 = .ok (.aload_n 0, 1) := by decide +kernel
theorem dX6_count_37 : decode cX6_count 37 = .ok (.getfield 19, 3) := by decide +kernel
theorem dX6_count_40 : decode cX6_count 40 = .ok (.invokevirtual 257, 3) := by decide +kernel
theorem dX6_count_43 : decode cX6_count 43 = .ok (.ireturn, 1) := by decide +kernel
theorem dX6_count_44 : decode cX6_count 44 = .ok (.aload_n 0, 1) := by decide +kernel
theorem dX6_count_45 : decode cX6_count 45 = .ok (.getfield 29, 3) := by decide +kernel
theorem dX6_count_48 : decode cX6_count 48 = .ok (.getfield 91, 3) := by decide +kernel
theorem dX6_count_51 : decode cX6_count 51 = .ok (.ireturn, 1) := by decide +kernel
theorem dX6_count_52 : decode cX6_count 52 = .ok (.aload_n 0, 1) := by decide +kernel
theorem dX6_count_53 : decode cX6_count 53 = .ok (.invokevirtual 260, 3) := by decide +kernel
theorem dX6_count_56 : decode cX6_count 56 = .ok (.ireturn, 1) := by decide +kernel
theorem dX6_count_57 : decode cX6_count 57 = .ok (.aload_n 0, 1) := by decide +kernel
theorem dX6_count_58 : decode cX6_count 58 = .ok (.getfield 10, 3) := by decide +kernel
theorem dX6_count_61 : decode cX6_count 61 = .ok (.getfield 58, 3) := by decide +kernel
theorem dX6_count_64 : decode cX6_count 64 = .ok (.getfield 68, 3) := by decide +kernel
theorem dX6_count_67 : decode cX6_count 67 = .ok (.ireturn, 1) := by decide +kernel
theorem dX6_count_68 : decode cX6_count 68 = .ok (.aload_n 0, 1) := by decide +kernel
theorem dX6_count_69 : decode cX6_count 69 = .ok (.getfield 42, 3) := by decide +kernel
theorem dX6_count_72 : decode cX6_count 72 = .ok (.iconst 0, 1) := by decide +kernel
theorem dX6_count_73 : decode cX6_count 73 = .ok (.aaload, 1) := by decide +kernel
theorem dX6_count_74 : decode cX6_count 74 = .ok (.getfield 263, 3) := by decide +kernel
theorem dX6_count_77 : decode cX6_count 77 = .ok (.ifCond .eq 15, 3) := by decide +kernel
theorem dX6_count_80 : decode cX6_count 80 = .ok (.aload_n 0, 1) := by decide +kernel
theorem dX6_count_81 : decode cX6_count 81 = .ok (.getfield 42, 3) := by decide +kernel
theorem dX6_count_84 : decode cX6_count 84 = .ok (.iconst 0, 1) := by decide +kernel
theorem dX6_count_85 : decode cX6_count 85 = .ok (.aaload, 1) := by decide +kernel
theorem dX6_count_86 : decode cX6_count 86 = .ok (.getfield 264, 3) := by decide +kernel
theorem dX6_count_89 : decode cX6_count 89 = .ok (.goto 5, 3) := by decide +kernel
theorem dX6_count_92 : decode cX6_count 92 = .ok (.bipush (-4), 2) := by decide +kernel
theorem dX6_count_94 : decode cX6_count 94 = .ok (.ireturn, 1) := by decide +kernel
theorem dX6_count_95 : decode cX6_count 95 = .ok (.iconst (-1), 1) := by decide +kernel
theorem dX6_count_96 : decode cX6_count 96 = .ok (.ireturn, 1) := by decide +kernel
theorem dX6_outside_0 : decode cX6_outside 0 = .ok (.iload_n 0, 1) := by decide +kernel
theorem dX6_outside_1 : decode cX6_outside 1 = .ok (.iload_n 1, 1) := by decide +kernel
theorem dX6_outside_2 : decode cX6_outside 2 = .ok (.if_icmp .lt 8, 3) := by decide +kernel
theorem dX6_outside_5 : decode cX6_outside 5 = .ok (.iload_n 0, 1) := by decide +kernel
theorem dX6_outside_6 : decode cX6_outside 6 = .ok (.iload_n 2, 1) := by decide +kernel
theorem dX6_outside_7 : decode cX6_outside 7 = .ok (.if_icmp .le 7, 3) := by decide +kernel
theorem dX6_outside_10 : decode cX6_outside 10 = .ok (.iconst 1, 1) := by decide +kernel
theorem dX6_outside_11 : decode cX6_outside 11 = .ok (.goto 4, 3) := by decide +kernel
theorem dX6_outside_14 : decode cX6_outside 14 = .ok (.iconst 0, 1) := by decide +kernel
theorem dX6_outside_15 : decode cX6_outside 15 = .ok (.ireturn, 1) := by decide +kernel
theorem dX6_startTrial_0 : decode cX6_startTrial 0 = .ok (.aload_n 0, 1) := by decide +kernel
theorem dX6_startTrial_1 : decode cX6_startTrial 1 = .ok (.getfield 23, 3) := by decide +kernel
theorem dX6_startTrial_4 : decode cX6_startTrial 4 = .ok (.aload_n 0, 1) := by decide +kernel
theorem dX6_startTrial_5 : decode cX6_startTrial 5 = .ok (.getfield 19, 3) := by decide +kernel
theorem dX6_startTrial_8 : decode cX6_startTrial 8 = .ok (.invokevirtual 87, 3) := by decide +kernel
theorem dX6_startTrial_11 : decode cX6_startTrial 11 = .ok (.aload_n 0, 1) := by decide +kernel
theorem dX6_startTrial_12 : decode cX6_startTrial 12 = .ok (.getfield 23, 3) := by decide +kernel
theorem dX6_startTrial_15 : decode cX6_startTrial 15 = .ok (.invokevirtual 265, 3) := by decide +kernel
theorem dX6_startTrial_18 : decode cX6_startTrial 18 = .ok (.return_, 1) := by decide +kernel
theorem dX6_lossAsItIs_0 : decode cX6_lossAsItIs 0 = .ok (.aload_n 0, 1) := by decide +kernel
theorem dX6_lossAsItIs_1 : decode cX6_lossAsItIs 1 = .ok (.invokevirtual 149, 3) := by decide +kernel
theorem dX6_lossAsItIs_4 : decode cX6_lossAsItIs 4 = .ok (.aload_n 0, 1) := by decide +kernel
theorem dX6_lossAsItIs_5 : decode cX6_lossAsItIs 5 = .ok (.getfield 23, 3) := by decide +kernel
theorem dX6_lossAsItIs_8 : decode cX6_lossAsItIs 8 = .ok (.iload_n 1, 1) := by decide +kernel
theorem dX6_lossAsItIs_9 : decode cX6_lossAsItIs 9 = .ok (.invokevirtual 145, 3) := by decide +kernel
theorem dX6_lossAsItIs_12 : decode cX6_lossAsItIs 12 = .ok (.aload_n 0, 1) := by decide +kernel
theorem dX6_lossAsItIs_13 : decode cX6_lossAsItIs 13 = .ok (.getfield 23, 3) := by decide +kernel
theorem dX6_lossAsItIs_16 : decode cX6_lossAsItIs 16 = .ok (.invokevirtual 172, 3) := by decide +kernel
theorem dX6_lossAsItIs_19 : decode cX6_lossAsItIs 19 = .ok (.ireturn, 1) := by decide +kernel
theorem dX6_lossByKinds_0 : decode cX6_lossByKinds 0 = .ok (.aload_n 0, 1) := by decide +kernel
theorem dX6_lossByKinds_1 : decode cX6_lossByKinds 1 = .ok (.invokevirtual 149, 3) := by decide +kernel
theorem dX6_lossByKinds_4 : decode cX6_lossByKinds 4 = .ok (.aload_n 0, 1) := by decide +kernel
theorem dX6_lossByKinds_5 : decode cX6_lossByKinds 5 = .ok (.getfield 23, 3) := by decide +kernel
theorem dX6_lossByKinds_8 : decode cX6_lossByKinds 8 = .ok (.iload_n 1, 1) := by decide +kernel
theorem dX6_lossByKinds_9 : decode cX6_lossByKinds 9 = .ok (.invokevirtual 268, 3) := by decide +kernel
theorem dX6_lossByKinds_12 : decode cX6_lossByKinds 12 = .ok (.aload_n 0, 1) := by decide +kernel
theorem dX6_lossByKinds_13 : decode cX6_lossByKinds 13 = .ok (.getfield 23, 3) := by decide +kernel
theorem dX6_lossByKinds_16 : decode cX6_lossByKinds 16 = .ok (.iload_n 2, 1) := by decide +kernel
theorem dX6_lossByKinds_17 : decode cX6_lossByKinds 17 = .ok (.invokevirtual 145, 3) := by decide +kernel
theorem dX6_lossByKinds_20 : decode cX6_lossByKinds 20 = .ok (.aload_n 0, 1) := by decide +kernel
theorem dX6_lossByKinds_21 : decode cX6_lossByKinds 21 = .ok (.getfield 23, 3) := by decide +kernel
theorem dX6_lossByKinds_24 : decode cX6_lossByKinds 24 = .ok (.invokevirtual 172, 3) := by decide +kernel
theorem dX6_lossByKinds_27 : decode cX6_lossByKinds 27 = .ok (.ireturn, 1) := by decide +kernel
theorem dX6_playWith_0 : decode cX6_playWith 0 = .ok (.aload_n 0, 1) := by decide +kernel
theorem dX6_playWith_1 : decode cX6_playWith 1 = .ok (.invokevirtual 149, 3) := by decide +kernel
theorem dX6_playWith_4 : decode cX6_playWith 4 = .ok (.aload_n 0, 1) := by decide +kernel
theorem dX6_playWith_5 : decode cX6_playWith 5 = .ok (.getfield 23, 3) := by decide +kernel
theorem dX6_playWith_8 : decode cX6_playWith 8 = .ok (.iload_n 1, 1) := by decide +kernel
theorem dX6_playWith_9 : decode cX6_playWith 9 = .ok (.iload_n 2, 1) := by decide +kernel
theorem dX6_playWith_10 : decode cX6_playWith 10 = .ok (.invokevirtual 271, 3) := by decide +kernel
theorem dX6_playWith_13 : decode cX6_playWith 13 = .ok (.aload_n 0, 1) := by decide +kernel
theorem dX6_playWith_14 : decode cX6_playWith 14 = .ok (.getfield 23, 3) := by decide +kernel
theorem dX6_playWith_17 : decode cX6_playWith 17 = .ok (.iload_n 3, 1) := by decide +kernel
theorem dX6_playWith_18 : decode cX6_playWith 18 = .ok (.invokevirtual 145, 3) := by decide +kernel
theorem dX6_playWith_21 : decode cX6_playWith 21 = .ok (.aload_n 0, 1) := by decide +kernel
theorem dX6_playWith_22 : decode cX6_playWith 22 = .ok (.getfield 23, 3) := by decide +kernel
theorem dX6_playWith_25 : decode cX6_playWith 25 = .ok (.areturn, 1) := by decide +kernel
theorem dX6_oddsOfOut_0 : decode cX6_oddsOfOut 0 = .ok (.iload_n 1, 1) := by decide +kernel
theorem dX6_oddsOfOut_1 : decode cX6_oddsOfOut 1 = .ok (.invokestatic 175, 3) := by decide +kernel
theorem dX6_oddsOfOut_4 : decode cX6_oddsOfOut 4 = .ok (.istore_n 3, 1) := by decide +kernel
theorem dX6_oddsOfOut_5 : decode cX6_oddsOfOut 5 = .ok (.iload_n 2, 1) := by decide +kernel
theorem dX6_oddsOfOut_6 : decode cX6_oddsOfOut 6 = .ok (.iload_n 3, 1) := by decide +kernel
theorem dX6_oddsOfOut_7 : decode cX6_oddsOfOut 7 = .ok (.invokestatic 197, 3) := by decide +kernel
theorem dX6_oddsOfOut_10 : decode cX6_oddsOfOut 10 = .ok (.bipush 10, 2) := by decide +kernel
theorem dX6_oddsOfOut_12 : decode cX6_oddsOfOut 12 = .ok (.iload_n 2, 1) := by decide +kernel
theorem dX6_oddsOfOut_13 : decode cX6_oddsOfOut 13 = .ok (.isub, 1) := by decide +kernel
theorem dX6_oddsOfOut_14 : decode cX6_oddsOfOut 14 = .ok (.aload_n 0, 1) := by decide +kernel
theorem dX6_oddsOfOut_15 : decode cX6_oddsOfOut 15 = .ok (.getfield 19, 3) := by decide +kernel
theorem dX6_oddsOfOut_18 : decode cX6_oddsOfOut 18 = .ok (.getfield 101, 3) := by decide +kernel
theorem dX6_oddsOfOut_21 : decode cX6_oddsOfOut 21 = .ok (.iload_n 3, 1) := by decide +kernel
theorem dX6_oddsOfOut_22 : decode cX6_oddsOfOut 22 = .ok (.isub, 1) := by decide +kernel
theorem dX6_oddsOfOut_23 : decode cX6_oddsOfOut 23 = .ok (.invokestatic 197, 3) := by decide +kernel
theorem dX6_oddsOfOut_26 : decode cX6_oddsOfOut 26 = .ok (.lmul, 1) := by decide +kernel
theorem dX6_oddsOfOut_27 : decode cX6_oddsOfOut 27 = .ok (.lreturn, 1) := by decide +kernel
theorem dX6_power_0 : decode cX6_power 0 = .ok (.lconst 1, 1) := by decide +kernel
theorem dX6_power_1 : decode cX6_power 1 = .ok (.lstore_n 2, 1) := by decide +kernel
theorem dX6_power_2 : decode cX6_power 2 = .ok (.iconst 0, 1) := by decide +kernel
theorem dX6_power_3 : decode cX6_power 3 = .ok (.istore 4, 2) := by decide +kernel
theorem dX6_power_5 : decode cX6_power 5 = .ok (.iload 4, 2) := by decide +kernel
theorem dX6_power_7 : decode cX6_power 7 = .ok (.iload_n 1, 1) := by decide +kernel
theorem dX6_power_8 : decode cX6_power 8 = .ok (.if_icmp .ge 14, 3) := by decide +kernel
theorem dX6_power_11 : decode cX6_power 11 = .ok (.lload_n 2, 1) := by decide +kernel
theorem dX6_power_12 : decode cX6_power 12 = .ok (.iload_n 0, 1) := by decide +kernel
theorem dX6_power_13 : decode cX6_power 13 = .ok (.i2l, 1) := by decide +kernel
theorem dX6_power_14 : decode cX6_power 14 = .ok (.lmul, 1) := by decide +kernel
theorem dX6_power_15 : decode cX6_power 15 = .ok (.lstore_n 2, 1) := by decide +kernel
theorem dX6_power_16 : decode cX6_power 16 = .ok (.iinc 4 1, 3) := by decide +kernel
theorem dX6_power_19 : decode cX6_power 19 = .ok (.goto (-14), 3) := by decide +kernel
theorem dX6_power_22 : decode cX6_power 22 = .ok (.lload_n 2, 1) := by decide +kernel
theorem dX6_power_23 : decode cX6_power 23 = .ok (.lreturn, 1) := by decide +kernel
theorem dX6_factorial_0 : decode cX6_factorial 0 = .ok (.iload_n 0, 1) := by decide +kernel
theorem dX6_factorial_1 : decode cX6_factorial 1 = .ok (.iconst 0, 1) := by decide +kernel
theorem dX6_factorial_2 : decode cX6_factorial 2 = .ok (.iconst 5, 1) := by decide +kernel
theorem dX6_factorial_3 : decode cX6_factorial 3 = .ok (.invokestatic 54, 3) := by decide +kernel
theorem dX6_factorial_6 : decode cX6_factorial 6 = .ok (.ifCond .eq 7, 3) := by decide +kernel
theorem dX6_factorial_9 : decode cX6_factorial 9 = .ok (.lconst 0, 1) := by decide +kernel
theorem dX6_factorial_10 : decode cX6_factorial 10 = .ok (.goto 9, 3) := by decide +kernel
theorem dX6_factorial_13 : decode cX6_factorial 13 = .ok (.getstatic 274, 3) := by decide +kernel
theorem dX6_factorial_16 : decode cX6_factorial 16 = .ok (.iload_n 0, 1) := by decide +kernel
theorem dX6_factorial_17 : decode cX6_factorial 17 = .ok (.iaload, 1) := by decide +kernel
theorem dX6_factorial_18 : decode cX6_factorial 18 = .ok (.i2l, 1) := by decide +kernel
theorem dX6_factorial_19 : decode cX6_factorial 19 = .ok (.lreturn, 1) := by decide +kernel
theorem dX6_partOfFraction_0 : decode cX6_partOfFraction 0 = .ok (.lload_n 0, 1) := by decide +kernel
theorem dX6_partOfFraction_1 : decode cX6_partOfFraction 1 = .ok (.invokestatic 277, 3) := by decide +kernel
theorem dX6_partOfFraction_4 : decode cX6_partOfFraction 4 = .ok (.lload_n 2, 1) := by decide +kernel
theorem dX6_partOfFraction_5 : decode cX6_partOfFraction 5 = .ok (.invokestatic 283, 3) := by decide +kernel
theorem dX6_partOfFraction_8 : decode cX6_partOfFraction 8 = .ok (.lstore 5, 2) := by decide +kernel
theorem dX6_partOfFraction_10 : decode cX6_partOfFraction 10 = .ok (.lload 5, 2) := by decide +kernel
theorem dX6_partOfFraction_12 : decode cX6_partOfFraction 12 = .ok (.lconst 0, 1) := by decide +kernel
theorem dX6_partOfFraction_13 : decode cX6_partOfFraction 13 = .ok (.lcmp, 1) := by decide +kernel
theorem dX6_partOfFraction_14 : decode cX6_partOfFraction 14 = .ok (.ifCond .ne 5, 3) := by decide +kernel
theorem dX6_partOfFraction_17 : decode cX6_partOfFraction 17 = .ok (.lconst 0, 1) := by decide +kernel
theorem dX6_partOfFraction_18 : decode cX6_partOfFraction 18 = .ok (.lreturn, 1) := by decide +kernel
theorem dX6_partOfFraction_19 : decode cX6_partOfFraction 19 = .ok (.iload 4, 2) := by decide +kernel
theorem dX6_partOfFraction_21 : decode cX6_partOfFraction 21 = .ok (.ifCond .ne 10, 3) := by decide +kernel
theorem dX6_partOfFraction_24 : decode cX6_partOfFraction 24 = .ok (.lload_n 0, 1) := by decide +kernel
theorem dX6_partOfFraction_25 : decode cX6_partOfFraction 25 = .ok (.lload 5, 2) := by decide +kernel
theorem dX6_partOfFraction_27 : decode cX6_partOfFraction 27 = .ok (.ldiv, 1) := by decide +kernel
theorem dX6_partOfFraction_28 : decode cX6_partOfFraction 28 = .ok (.goto 7, 3) := by decide +kernel
theorem dX6_partOfFraction_31 : decode cX6_partOfFraction 31 = .ok (.lload_n 2, 1) := by decide +kernel
theorem dX6_partOfFraction_32 : decode cX6_partOfFraction 32 = .ok (.lload 5, 2) := by decide +kernel
theorem dX6_partOfFraction_34 : decode cX6_partOfFraction 34 = .ok (.ldiv, 1) := by decide +kernel
theorem dX6_partOfFraction_35 : decode cX6_partOfFraction 35 = .ok (.lreturn, 1) := by decide +kernel
theorem dX6_commonDivisor_0 : decode cX6_commonDivisor 0 = .ok (.lload_n 0, 1) := by decide +kernel
theorem dX6_commonDivisor_1 : decode cX6_commonDivisor 1 = .ok (.lstore 4, 2) := by decide +kernel
theorem dX6_commonDivisor_3 : decode cX6_commonDivisor 3 = .ok (.lload_n 2, 1) := by decide +kernel
theorem dX6_commonDivisor_4 : decode cX6_commonDivisor 4 = .ok (.lstore 6, 2) := by decide +kernel
theorem dX6_commonDivisor_6 : decode cX6_commonDivisor 6 = .ok (.iconst 0, 1) := by decide +kernel
theorem dX6_commonDivisor_7 : decode cX6_commonDivisor 7 = .ok (.istore 8, 2) := by decide +kernel
theorem dX6_commonDivisor_9 : decode cX6_commonDivisor 9 = .ok (.iload 8, 2) := by decide +kernel
theorem dX6_commonDivisor_11 : decode cX6_commonDivisor 11 = .ok (.sipush 128, 3) := by decide +kernel
theorem dX6_commonDivisor_14 : decode cX6_commonDivisor 14 = .ok (.if_icmp .ge 31, 3) := by decide +kernel
theorem dX6_commonDivisor_17 : decode cX6_commonDivisor 17 = .ok (.lload 6, 2) := by decide +kernel
theorem dX6_commonDivisor_19 : decode cX6_commonDivisor 19 = .ok (.lconst 0, 1) := by decide +kernel
theorem dX6_commonDivisor_20 : decode cX6_commonDivisor 20 = .ok (.lcmp, 1) := by decide +kernel
theorem dX6_commonDivisor_21 : decode cX6_commonDivisor 21 = .ok (.ifCond .eq 24, 3) := by decide +kernel
theorem dX6_commonDivisor_24 : decode cX6_commonDivisor 24 = .ok (.lload 4, 2) := by decide +kernel
theorem dX6_commonDivisor_26 : decode cX6_commonDivisor 26 = .ok (.lload 6, 2) := by decide +kernel
theorem dX6_commonDivisor_28 : decode cX6_commonDivisor 28 = .ok (.lrem, 1) := by decide +kernel
theorem dX6_commonDivisor_29 : decode cX6_commonDivisor 29 = .ok (.lstore 9, 2) := by decide +kernel
theorem dX6_commonDivisor_31 : decode cX6_commonDivisor 31 = .ok (.lload 6, 2) := by decide +kernel
theorem dX6_commonDivisor_33 : decode cX6_commonDivisor 33 = .ok (.lstore 4, 2) := by decide +kernel
theorem dX6_commonDivisor_35 : decode cX6_commonDivisor 35 = .ok (.lload 9, 2) := by decide +kernel
theorem dX6_commonDivisor_37 : decode cX6_commonDivisor 37 = .ok (.lstore 6, 2) := by decide +kernel
theorem dX6_commonDivisor_39 : decode cX6_commonDivisor 39 = .ok (.iinc 8 1, 3) := by decide +kernel
theorem dX6_commonDivisor_42 : decode cX6_commonDivisor 42 = .ok (.goto (-33), 3) := by decide +kernel
theorem dX6_commonDivisor_45 : decode cX6_commonDivisor 45 = .ok (.lload 4, 2) := by decide +kernel
theorem dX6_commonDivisor_47 : decode cX6_commonDivisor 47 = .ok (.lreturn, 1) := by decide +kernel
theorem dX6_slot_0 : decode cX6_slot 0 = .ok (.iload_n 0, 1) := by decide +kernel
theorem dX6_slot_1 : decode cX6_slot 1 = .ok (.bipush 9, 2) := by decide +kernel
theorem dX6_slot_3 : decode cX6_slot 3 = .ok (.imul, 1) := by decide +kernel
theorem dX6_slot_4 : decode cX6_slot 4 = .ok (.iload_n 1, 1) := by decide +kernel
theorem dX6_slot_5 : decode cX6_slot 5 = .ok (.iadd, 1) := by decide +kernel
theorem dX6_slot_6 : decode cX6_slot 6 = .ok (.iconst 1, 1) := by decide +kernel
theorem dX6_slot_7 : decode cX6_slot 7 = .ok (.isub, 1) := by decide +kernel
theorem dX6_slot_8 : decode cX6_slot 8 = .ok (.ireturn, 1) := by decide +kernel
theorem dX6_tryKinds_0 : decode cX6_tryKinds 0 = .ok (.aload_n 0, 1) := by decide +kernel
theorem dX6_tryKinds_1 : decode cX6_tryKinds 1 = .ok (.invokevirtual 149, 3) := by decide +kernel
theorem dX6_tryKinds_4 : decode cX6_tryKinds 4 = .ok (.aload_n 0, 1) := by decide +kernel
theorem dX6_tryKinds_5 : decode cX6_tryKinds 5 = .ok (.getfield 23, 3) := by decide +kernel
theorem dX6_tryKinds_8 : decode cX6_tryKinds 8 = .ok (.iload_n 1, 1) := by decide +kernel
theorem dX6_tryKinds_9 : decode cX6_tryKinds 9 = .ok (.invokevirtual 268, 3) := by decide +kernel
theorem dX6_tryKinds_12 : decode cX6_tryKinds 12 = .ok (.iconst 1, 1) := by decide +kernel
theorem dX6_tryKinds_13 : decode cX6_tryKinds 13 = .ok (.istore_n 3, 1) := by decide +kernel
theorem dX6_tryKinds_14 : decode cX6_tryKinds 14 = .ok (.iload_n 3, 1) := by decide +kernel
theorem dX6_tryKinds_15 : decode cX6_tryKinds 15 = .ok (.iload_n 2, 1) := by decide +kernel
theorem dX6_tryKinds_16 : decode cX6_tryKinds 16 = .ok (.if_icmp .gt 64, 3) := by decide +kernel
theorem dX6_tryKinds_19 : decode cX6_tryKinds 19 = .ok (.iload_n 3, 1) := by decide +kernel
theorem dX6_tryKinds_20 : decode cX6_tryKinds 20 = .ok (.bipush 9, 2) := by decide +kernel
theorem dX6_tryKinds_22 : decode cX6_tryKinds 22 = .ok (.if_icmp .gt 58, 3) := by decide +kernel
theorem dX6_tryKinds_25 : decode cX6_tryKinds 25 = .ok (.aload_n 0, 1) := by decide +kernel
theorem dX6_tryKinds_26 : decode cX6_tryKinds 26 = .ok (.getfield 23, 3) := by decide +kernel
theorem dX6_tryKinds_29 : decode cX6_tryKinds 29 = .ok (.invokevirtual 152, 3) := by decide +kernel
theorem dX6_tryKinds_32 : decode cX6_tryKinds 32 = .ok (.iconst 0, 1) := by decide +kernel
theorem dX6_tryKinds_33 : decode cX6_tryKinds 33 = .ok (.istore 4, 2) := by decide +kernel
theorem dX6_tryKinds_35 : decode cX6_tryKinds 35 = .ok (.iload 4, 2) := by decide +kernel
theorem dX6_tryKinds_37 : decode cX6_tryKinds 37 = .ok (.aload_n 0, 1) := by decide +kernel
theorem dX6_tryKinds_38 : decode cX6_tryKinds 38 = .ok (.getfield 23, 3) := by decide +kernel
theorem dX6_tryKinds_41 : decode cX6_tryKinds 41 = .ok (.getfield 101, 3) := by decide +kernel
theorem dX6_tryKinds_44 : decode cX6_tryKinds 44 = .ok (.if_icmp .ge 30, 3) := by decide +kernel
theorem dX6_tryKinds_47 : decode cX6_tryKinds 47 = .ok (.aload_n 0, 1) := by decide +kernel
theorem dX6_tryKinds_48 : decode cX6_tryKinds 48 = .ok (.getfield 47, 3) := by decide +kernel
theorem dX6_tryKinds_51 : decode cX6_tryKinds 51 = .ok (.iload 4, 2) := by decide +kernel
theorem dX6_tryKinds_53 : decode cX6_tryKinds 53 = .ok (.iload_n 3, 1) := by decide +kernel
theorem dX6_tryKinds_54 : decode cX6_tryKinds 54 = .ok (.invokestatic 216, 3) := by decide +kernel
theorem dX6_tryKinds_57 : decode cX6_tryKinds 57 = .ok (.aload_n 0, 1) := by decide +kernel
theorem dX6_tryKinds_58 : decode cX6_tryKinds 58 = .ok (.getfield 23, 3) := by decide +kernel
theorem dX6_tryKinds_61 : decode cX6_tryKinds 61 = .ok (.getfield 135, 3) := by decide +kernel
theorem dX6_tryKinds_64 : decode cX6_tryKinds 64 = .ok (.iload 4, 2) := by decide +kernel
theorem dX6_tryKinds_66 : decode cX6_tryKinds 66 = .ok (.iaload, 1) := by decide +kernel
theorem dX6_tryKinds_67 : decode cX6_tryKinds 67 = .ok (.iastore, 1) := by decide +kernel
theorem dX6_tryKinds_68 : decode cX6_tryKinds 68 = .ok (.iinc 4 1, 3) := by decide +kernel
theorem dX6_tryKinds_71 : decode cX6_tryKinds 71 = .ok (.goto (-36), 3) := by decide +kernel
theorem dX6_tryKinds_74 : decode cX6_tryKinds 74 = .ok (.iinc 3 1, 3) := by decide +kernel
theorem dX6_tryKinds_77 : decode cX6_tryKinds 77 = .ok (.goto (-63), 3) := by decide +kernel
theorem dX6_tryKinds_80 : decode cX6_tryKinds 80 = .ok (.return_, 1) := by decide +kernel
theorem dX6_tallyFitting_0 : decode cX6_tallyFitting 0 = .ok (.aload_n 0, 1) := by decide +kernel
theorem dX6_tallyFitting_1 : decode cX6_tallyFitting 1 = .ok (.getfield 51, 3) := by decide +kernel
theorem dX6_tallyFitting_4 : decode cX6_tallyFitting 4 = .ok (.iconst 0, 1) := by decide +kernel
theorem dX6_tallyFitting_5 : decode cX6_tallyFitting 5 = .ok (.invokestatic 287, 3) := by decide +kernel
theorem dX6_tallyFitting_8 : decode cX6_tallyFitting 8 = .ok (.aload_n 0, 1) := by decide +kernel
theorem dX6_tallyFitting_9 : decode cX6_tallyFitting 9 = .ok (.getfield 19, 3) := by decide +kernel
theorem dX6_tallyFitting_12 : decode cX6_tallyFitting 12 = .ok (.invokevirtual 155, 3) := by decide +kernel
theorem dX6_tallyFitting_15 : decode cX6_tallyFitting 15 = .ok (.istore_n 1, 1) := by decide +kernel
theorem dX6_tallyFitting_16 : decode cX6_tallyFitting 16 = .ok (.aload_n 0, 1) := by decide +kernel
theorem dX6_tallyFitting_17 : decode cX6_tallyFitting 17 = .ok (.getfield 19, 3) := by decide +kernel
theorem dX6_tallyFitting_20 : decode cX6_tallyFitting 20 = .ok (.getfield 101, 3) := by decide +kernel
theorem dX6_tallyFitting_23 : decode cX6_tallyFitting 23 = .ok (.bipush 9, 2) := by decide +kernel
theorem dX6_tallyFitting_25 : decode cX6_tallyFitting 25 = .ok (.imul, 1) := by decide +kernel
theorem dX6_tallyFitting_26 : decode cX6_tallyFitting 26 = .ok (.istore_n 2, 1) := by decide +kernel
theorem dX6_tallyFitting_27 : decode cX6_tallyFitting 27 = .ok (.iconst 0, 1) := by decide +kernel
theorem dX6_tallyFitting_28 : decode cX6_tallyFitting 28 = .ok (.istore_n 3, 1) := by decide +kernel
theorem dX6_tallyFitting_29 : decode cX6_tallyFitting 29 = .ok (.iconst 0, 1) := by decide +kernel
theorem dX6_tallyFitting_30 : decode cX6_tallyFitting 30 = .ok (.istore 4, 2) := by decide +kernel
theorem dX6_tallyFitting_32 : decode cX6_tallyFitting 32 = .ok (.iload 4, 2) := by decide +kernel
theorem dX6_tallyFitting_34 : decode cX6_tallyFitting 34 = .ok (.iload_n 1, 1) := by decide +kernel
theorem dX6_tallyFitting_35 : decode cX6_tallyFitting 35 = .ok (.if_icmp .ge 71, 3) := by decide +kernel
theorem dX6_tallyFitting_38 : decode cX6_tallyFitting 38 = .ok (.aload_n 0, 1) := by decide +kernel
theorem dX6_tallyFitting_39 : decode cX6_tallyFitting 39 = .ok (.iload 4, 2) := by decide +kernel
theorem dX6_tallyFitting_41 : decode cX6_tallyFitting 41 = .ok (.bipush 9, 2) := by decide +kernel
theorem dX6_tallyFitting_43 : decode cX6_tallyFitting 43 = .ok (.invokevirtual 205, 3) := by decide +kernel
theorem dX6_tallyFitting_46 : decode cX6_tallyFitting 46 = .ok (.aload_n 0, 1) := by decide +kernel
theorem dX6_tallyFitting_47 : decode cX6_tallyFitting 47 = .ok (.getfield 29, 3) := by decide +kernel
theorem dX6_tallyFitting_50 : decode cX6_tallyFitting 50 = .ok (.aload_n 0, 1) := by decide +kernel
theorem dX6_tallyFitting_51 : decode cX6_tallyFitting 51 = .ok (.getfield 47, 3) := by decide +kernel
theorem dX6_tallyFitting_54 : decode cX6_tallyFitting 54 = .ok (.invokevirtual 209, 3) := by decide +kernel
theorem dX6_tallyFitting_57 : decode cX6_tallyFitting 57 = .ok (.ifCond .eq 43, 3) := by decide +kernel
theorem dX6_tallyFitting_60 : decode cX6_tallyFitting 60 = .ok (.iinc 3 1, 3) := by decide +kernel
theorem dX6_tallyFitting_63 : decode cX6_tallyFitting 63 = .ok (.iconst 0, 1) := by decide +kernel
theorem dX6_tallyFitting_64 : decode cX6_tallyFitting 64 = .ok (.istore 5, 2) := by decide +kernel
theorem dX6_tallyFitting_66 : decode cX6_tallyFitting 66 = .ok (.iload 5, 2) := by decide +kernel
theorem dX6_tallyFitting_68 : decode cX6_tallyFitting 68 = .ok (.iload_n 2, 1) := by decide +kernel
theorem dX6_tallyFitting_69 : decode cX6_tallyFitting 69 = .ok (.if_icmp .ge 31, 3) := by decide +kernel
theorem dX6_tallyFitting_72 : decode cX6_tallyFitting 72 = .ok (.aload_n 0, 1) := by decide +kernel
theorem dX6_tallyFitting_73 : decode cX6_tallyFitting 73 = .ok (.getfield 51, 3) := by decide +kernel
theorem dX6_tallyFitting_76 : decode cX6_tallyFitting 76 = .ok (.iload 5, 2) := by decide +kernel
theorem dX6_tallyFitting_78 : decode cX6_tallyFitting 78 = .ok (.bipush 100, 2) := by decide +kernel
theorem dX6_tallyFitting_80 : decode cX6_tallyFitting 80 = .ok (.imul, 1) := by decide +kernel
theorem dX6_tallyFitting_81 : decode cX6_tallyFitting 81 = .ok (.aload_n 0, 1) := by decide +kernel
theorem dX6_tallyFitting_82 : decode cX6_tallyFitting 82 = .ok (.getfield 47, 3) := by decide +kernel
theorem dX6_tallyFitting_85 : decode cX6_tallyFitting 85 = .ok (.iload 5, 2) := by decide +kernel
theorem dX6_tallyFitting_87 : decode cX6_tallyFitting 87 = .ok (.iaload, 1) := by decide +kernel
theorem dX6_tallyFitting_88 : decode cX6_tallyFitting 88 = .ok (.iadd, 1) := by decide +kernel
theorem dX6_tallyFitting_89 : decode cX6_tallyFitting 89 = .ok (.dup2, 1) := by decide +kernel
theorem dX6_tallyFitting_90 : decode cX6_tallyFitting 90 = .ok (.iaload, 1) := by decide +kernel
theorem dX6_tallyFitting_91 : decode cX6_tallyFitting 91 = .ok (.iconst 1, 1) := by decide +kernel
theorem dX6_tallyFitting_92 : decode cX6_tallyFitting 92 = .ok (.iadd, 1) := by decide +kernel
theorem dX6_tallyFitting_93 : decode cX6_tallyFitting 93 = .ok (.iastore, 1) := by decide +kernel
theorem dX6_tallyFitting_94 : decode cX6_tallyFitting 94 = .ok (.iinc 5 1, 3) := by decide +kernel
theorem dX6_tallyFitting_97 : decode cX6_tallyFitting 97 = .ok (.goto (-31), 3) := by decide +kernel
theorem dX6_tallyFitting_100 : decode cX6_tallyFitting 100 = .ok (.iinc 4 1, 3) := by decide +kernel
theorem dX6_tallyFitting_103 : decode cX6_tallyFitting 103 = .ok (.goto (-71), 3) := by decide +kernel
theorem dX6_tallyFitting_106 : decode cX6_tallyFitting 106 = .ok (.iload_n 3, 1) := by decide +kernel
theorem dX6_tallyFitting_107 : decode cX6_tallyFitting 107 = .ok (.ireturn, 1) := by decide +kernel
theorem dX6_mostInRow_0 : decode cX6_mostInRow 0 = .ok (.iload_n 1, 1) := by decide +kernel
theorem dX6_mostInRow_1 : decode cX6_mostInRow 1 = .ok (.bipush 100, 2) := by decide +kernel
theorem dX6_mostInRow_3 : decode cX6_mostInRow 3 = .ok (.imul, 1) := by decide +kernel
theorem dX6_mostInRow_4 : decode cX6_mostInRow 4 = .ok (.istore_n 2, 1) := by decide +kernel
theorem dX6_mostInRow_5 : decode cX6_mostInRow 5 = .ok (.iconst 0, 1) := by decide +kernel
theorem dX6_mostInRow_6 : decode cX6_mostInRow 6 = .ok (.istore_n 3, 1) := by decide +kernel
theorem dX6_mostInRow_7 : decode cX6_mostInRow 7 = .ok (.iconst 0, 1) := by decide +kernel
theorem dX6_mostInRow_8 : decode cX6_mostInRow 8 = .ok (.istore 4, 2) := by decide +kernel
theorem dX6_mostInRow_10 : decode cX6_mostInRow 10 = .ok (.iload 4, 2) := by decide +kernel
theorem dX6_mostInRow_12 : decode cX6_mostInRow 12 = .ok (.bipush 99, 2) := by decide +kernel
theorem dX6_mostInRow_14 : decode cX6_mostInRow 14 = .ok (.if_icmp .gt 23, 3) := by decide +kernel
theorem dX6_mostInRow_17 : decode cX6_mostInRow 17 = .ok (.iload_n 3, 1) := by decide +kernel
theorem dX6_mostInRow_18 : decode cX6_mostInRow 18 = .ok (.aload_n 0, 1) := by decide +kernel
theorem dX6_mostInRow_19 : decode cX6_mostInRow 19 = .ok (.getfield 51, 3) := by decide +kernel
theorem dX6_mostInRow_22 : decode cX6_mostInRow 22 = .ok (.iload_n 2, 1) := by decide +kernel
theorem dX6_mostInRow_23 : decode cX6_mostInRow 23 = .ok (.iload 4, 2) := by decide +kernel
theorem dX6_mostInRow_25 : decode cX6_mostInRow 25 = .ok (.iadd, 1) := by decide +kernel
theorem dX6_mostInRow_26 : decode cX6_mostInRow 26 = .ok (.iaload, 1) := by decide +kernel
theorem dX6_mostInRow_27 : decode cX6_mostInRow 27 = .ok (.invokestatic 293, 3) := by decide +kernel
theorem dX6_mostInRow_30 : decode cX6_mostInRow 30 = .ok (.istore_n 3, 1) := by decide +kernel
theorem dX6_mostInRow_31 : decode cX6_mostInRow 31 = .ok (.iinc 4 1, 3) := by decide +kernel
theorem dX6_mostInRow_34 : decode cX6_mostInRow 34 = .ok (.goto (-24), 3) := by decide +kernel
theorem dX6_mostInRow_37 : decode cX6_mostInRow 37 = .ok (.iload_n 3, 1) := by decide +kernel
theorem dX6_mostInRow_38 : decode cX6_mostInRow 38 = .ok (.ireturn, 1) := by decide +kernel
theorem dX6_imagesKept_0 : decode cX6_imagesKept 0 = .ok (.iconst 0, 1) := by decide +kernel
theorem dX6_imagesKept_1 : decode cX6_imagesKept 1 = .ok (.istore_n 1, 1) := by decide +kernel
theorem dX6_imagesKept_2 : decode cX6_imagesKept 2 = .ok (.iconst 0, 1) := by decide +kernel
theorem dX6_imagesKept_3 : decode cX6_imagesKept 3 = .ok (.istore_n 2, 1) := by decide +kernel
theorem dX6_imagesKept_4 : decode cX6_imagesKept 4 = .ok (.iload_n 2, 1) := by decide +kernel
theorem dX6_imagesKept_5 : decode cX6_imagesKept 5 = .ok (.iconst 2, 1) := by decide +kernel
theorem dX6_imagesKept_6 : decode cX6_imagesKept 6 = .ok (.if_icmp .ge 24, 3) := by decide +kernel
theorem dX6_imagesKept_9 : decode cX6_imagesKept 9 = .ok (.aload_n 0, 1) := by decide +kernel
theorem dX6_imagesKept_10 : decode cX6_imagesKept 10 = .ok (.getfield 35, 3) := by decide +kernel
theorem dX6_imagesKept_13 : decode cX6_imagesKept 13 = .ok (.iload_n 2, 1) := by decide +kernel
theorem dX6_imagesKept_14 : decode cX6_imagesKept 14 = .ok (.aaload, 1) := by decide +kernel
theorem dX6_imagesKept_15 : decode cX6_imagesKept 15 = .ok (.getfield 94, 3) := by decide +kernel
theorem dX6_imagesKept_18 : decode cX6_imagesKept 18 = .ok (.ifCond .eq 6, 3) := by decide +kernel
theorem dX6_imagesKept_21 : decode cX6_imagesKept 21 = .ok (.iinc 1 1, 3) := by decide +kernel
theorem dX6_imagesKept_24 : decode cX6_imagesKept 24 = .ok (.iinc 2 1, 3) := by decide +kernel
theorem dX6_imagesKept_27 : decode cX6_imagesKept 27 = .ok (.goto (-23), 3) := by decide +kernel
theorem dX6_imagesKept_30 : decode cX6_imagesKept 30 = .ok (.iload_n 1, 1) := by decide +kernel
theorem dX6_imagesKept_31 : decode cX6_imagesKept 31 = .ok (.ireturn, 1) := by decide +kernel
