theorem dX5_init_0 : decode cX5_init 0 = .ok (.aload_n 0, 1) := by decide +kernel
theorem dX5_init_1 : decode cX5_init 1 = .ok (.invokespecial 3, 3) := by decide +kernel
theorem dX5_init_4 : decode cX5_init 4 = .ok (.aload_n 0, 1) := by decide +kernel
theorem dX5_init_5 : decode cX5_init 5 = .ok (.new 9, 3) := by decide +kernel
theorem dX5_init_8 : decode cX5_init 8 = .ok (.dup, 1) := by decide +kernel
theorem dX5_init_9 : decode cX5_init 9 = .ok (.invokespecial 11, 3) := by decide +kernel
theorem dX5_init_12 : decode cX5_init 12 = .ok (.putfield 12, 3) := by decide +kernel
theorem dX5_init_15 : decode cX5_init 15 = .ok (.aload_n 0, 1) := by decide +kernel
theorem dX5_init_16 : decode cX5_init 16 = .ok (.new 18, 3) := by decide +kernel
theorem dX5_init_19 : decode cX5_init 19 = .ok (.dup, 1) := by decide +kernel
theorem dX5_init_20 : decode cX5_init 20 = .ok (.invokespecial 20, 3) := by decide +kernel
theorem dX5_init_23 : decode cX5_init 23 = .ok (.putfield 21, 3) := by decide +kernel
theorem dX5_init_26 : decode cX5_init 26 = .ok (.aload_n 0, 1) := by decide +kernel
theorem dX5_init_27 : decode cX5_init 27 = .ok (.iconst 4, 1) := by decide +kernel
theorem dX5_init_28 : decode cX5_init 28 = .ok (.newarray .int, 2) := by decide +kernel
theorem dX5_init_30 : decode cX5_init 30 = .ok (.putfield 25, 3) := by decide +kernel
theorem dX5_init_33 : decode cX5_init 33 = .ok (.aload_n 0, 1) := by decide +kernel
theorem dX5_init_34 : decode cX5_init 34 = .ok (.iconst 4, 1) := by decide +kernel
theorem dX5_init_35 : decode cX5_init 35 = .ok (.newarray .int, 2) := by decide +kernel
theorem dX5_init_37 : decode cX5_init 37 = .ok (.putfield 29, 3) := by decide +kernel
theorem dX5_init_40 : decode cX5_init 40 = .ok (.return_, 1) := by decide +kernel
theorem dX5_takeText_0 : decode cX5_takeText 0 = .ok (.aload_n 0, 1) := by decide +kernel
theorem dX5_takeText_1 : decode cX5_takeText 1 = .ok (.getfield 12, 3) := by decide +kernel
theorem dX5_takeText_4 : decode cX5_takeText 4 = .ok (.invokevirtual 32, 3) := by decide +kernel
theorem dX5_takeText_7 : decode cX5_takeText 7 = .ok (.aload_n 0, 1) := by decide +kernel
theorem dX5_takeText_8 : decode cX5_takeText 8 = .ok (.getfield 21, 3) := by decide +kernel
theorem dX5_takeText_11 : decode cX5_takeText 11 = .ok (.invokevirtual 35, 3) := by decide +kernel
theorem dX5_takeText_14 : decode cX5_takeText 14 = .ok (.aload_n 0, 1) := by decide +kernel
theorem dX5_takeText_15 : decode cX5_takeText 15 = .ok (.iconst 0, 1) := by decide +kernel
theorem dX5_takeText_16 : decode cX5_takeText 16 = .ok (.putfield 38, 3) := by decide +kernel
theorem dX5_takeText_19 : decode cX5_takeText 19 = .ok (.aload_n 0, 1) := by decide +kernel
theorem dX5_takeText_20 : decode cX5_takeText 20 = .ok (.iconst 0, 1) := by decide +kernel
theorem dX5_takeText_21 : decode cX5_takeText 21 = .ok (.putfield 42, 3) := by decide +kernel
theorem dX5_takeText_24 : decode cX5_takeText 24 = .ok (.aload_n 0, 1) := by decide +kernel
theorem dX5_takeText_25 : decode cX5_takeText 25 = .ok (.iconst 0, 1) := by decide +kernel
theorem dX5_takeText_26 : decode cX5_takeText 26 = .ok (.putfield 46, 3) := by decide +kernel
theorem dX5_takeText_29 : decode cX5_takeText 29 = .ok (.aload_n 0, 1) := by decide +kernel
theorem dX5_takeText_30 : decode cX5_takeText 30 = .ok (.iconst 0, 1) := by decide +kernel
theorem dX5_takeText_31 : decode cX5_takeText 31 = .ok (.putfield 49, 3) := by decide +kernel
theorem dX5_takeText_34 : decode cX5_takeText 34 = .ok (.aload_n 0, 1) := by decide +kernel
theorem dX5_takeText_35 : decode cX5_takeText 35 = .ok (.getfield 12, 3) := by decide +kernel
theorem dX5_takeText_38 : decode cX5_takeText 38 = .ok (.invokevirtual 52, 3) := by decide +kernel
theorem dX5_takeText_41 : decode cX5_takeText 41 = .ok (.istore_n 1, 1) := by decide +kernel
theorem dX5_takeText_42 : decode cX5_takeText 42 = .ok (.iconst 0, 1) := by decide +kernel
theorem dX5_takeText_43 : decode cX5_takeText 43 = .ok (.istore_n 2, 1) := by decide +kernel
theorem dX5_takeText_44 : decode cX5_takeText 44 = .ok (.iload_n 2, 1) := by decide +kernel
theorem dX5_takeText_45 : decode cX5_takeText 45 = .ok (.sipush 160, 3) := by decide +kernel
theorem dX5_takeText_48 : decode cX5_takeText 48 = .ok (.if_icmp .ge 50, 3) := by decide +kernel
theorem dX5_takeText_51 : decode cX5_takeText 51 = .ok (.aload_n 0, 1) := by decide +kernel
theorem dX5_takeText_52 : decode cX5_takeText 52 = .ok (.getfield 49, 3) := by decide +kernel
theorem dX5_takeText_55 : decode cX5_takeText 55 = .ok (.ifCond .ne 43, 3) := by decide +kernel
theorem dX5_takeText_58 : decode cX5_takeText 58 = .ok (.iload_n 1, 1) := by decide +kernel
theorem dX5_takeText_59 : decode cX5_takeText 59 = .ok (.ifCond .eq 39, 3) := by decide +kernel
theorem dX5_takeText_62 : decode cX5_takeText 62 = .ok (.aload_n 0, 1) := by decide +kernel
theorem dX5_takeText_63 : decode cX5_takeText 63 = .ok (.iload_n 1, 1) := by decide +kernel
theorem dX5_takeText_64 : decode cX5_takeText 64 = .ok (.invokevirtual 56, 3) := by decide +kernel
theorem dX5_takeText_67 : decode cX5_takeText 67 = .ok (.aload_n 0, 1) := by decide +kernel
theorem dX5_takeText_68 : decode cX5_takeText 68 = .ok (.getfield 49, 3) := by decide +kernel
theorem dX5_takeText_71 : decode cX5_takeText 71 = .ok (.ifCond .ne 21, 3) := by decide +kernel
theorem dX5_takeText_74 : decode cX5_takeText 74 = .ok (.aload_n 0, 1) := by decide +kernel
theorem dX5_takeText_75 : decode cX5_takeText 75 = .ok (.dup, 1) := by decide +kernel
theorem dX5_takeText_76 : decode cX5_takeText 76 = .ok (.getfield 46, 3) := by decide +kernel
theorem dX5_takeText_79 : decode cX5_takeText 79 = .ok (.iconst 1, 1) := by decide +kernel
theorem dX5_takeText_80 : decode cX5_takeText 80 = .ok (.iadd, 1) := by decide +kernel
theorem dX5_takeText_81 : decode cX5_takeText 81 = .ok (.putfield 46, 3) := by decide +kernel
theorem dX5_takeText_84 : decode cX5_takeText 84 = .ok (.aload_n 0, 1) := by decide +kernel
theorem dX5_takeText_85 : decode cX5_takeText 85 = .ok (.getfield 12, 3) := by decide +kernel
theorem dX5_takeText_88 : decode cX5_takeText 88 = .ok (.invokevirtual 52, 3) := by decide +kernel
theorem dX5_takeText_91 : decode cX5_takeText 91 = .ok (.istore_n 1, 1) := by decide +kernel
theorem dX5_takeText_92 : decode cX5_takeText 92 = .ok (.iinc 2 1, 3) := by decide +kernel
theorem dX5_takeText_95 : decode cX5_takeText 95 = .ok (.goto (-51), 3) := by decide +kernel
theorem dX5_takeText_98 : decode cX5_takeText 98 = .ok (.aload_n 0, 1) := by decide +kernel
theorem dX5_takeText_99 : decode cX5_takeText 99 = .ok (.getfield 49, 3) := by decide +kernel
theorem dX5_takeText_102 : decode cX5_takeText 102 = .ok (.ifCond .ne 7, 3) := by decide +kernel
theorem dX5_takeText_105 : decode cX5_takeText 105 = .ok (.aload_n 0, 1) := by decide +kernel
theorem dX5_takeText_106 : decode cX5_takeText 106 = .ok (.invokevirtual 60, 3) := by decide +kernel
theorem dX5_takeText_109 : decode cX5_takeText 109 = .ok (.aload_n 0, 1) := by decide +kernel
theorem dX5_takeText_110 : decode cX5_takeText 110 = .ok (.getfield 49, 3) := by decide +kernel
theorem dX5_takeText_113 : decode cX5_takeText 113 = .ok (.ifCond .ne 7, 3) := by decide +kernel
theorem dX5_takeText_116 : decode cX5_takeText 116 = .ok (.aload_n 0, 1) := by decide +kernel
theorem dX5_takeText_117 : decode cX5_takeText 117 = .ok (.invokevirtual 63, 3) := by decide +kernel
theorem dX5_takeText_120 : decode cX5_takeText 120 = .ok (.return_, 1) := by decide +kernel
theorem dX5_fail_0 : decode cX5_fail 0 = .ok (.aload_n 0, 1) := by decide +kernel
theorem dX5_fail_1 : decode cX5_fail 1 = .ok (.getfield 49, 3) := by decide +kernel
theorem dX5_fail_4 : decode cX5_fail 4 = .ok (.ifCond .ne 13, 3) := by decide +kernel
theorem dX5_fail_7 : decode cX5_fail 7 = .ok (.aload_n 0, 1) := by decide +kernel
theorem dX5_fail_8 : decode cX5_fail 8 = .ok (.iload_n 1, 1) := by decide +kernel
theorem dX5_fail_9 : decode cX5_fail 9 = .ok (.putfield 49, 3) := by decide +kernel
theorem dX5_fail_12 : decode cX5_fail 12 = .ok (.aload_n 0, 1) := by decide +kernel
theorem dX5_fail_13 : decode cX5_fail 13 = .ok (.iload_n 2, 1) := by decide +kernel
theorem dX5_fail_14 : decode cX5_fail 14 = .ok (.putfield 66, 3) := by decide +kernel
theorem dX5_fail_17 : decode cX5_fail 17 = .ok (.return_, 1) := by decide +kernel
theorem dX5_refuseToken_0 : decode cX5_refuseToken 0 = .ok (.aload_n 0, 1) := by decide +kernel
theorem dX5_refuseToken_1 : decode cX5_refuseToken 1 = .ok (.iload_n 1, 1) := by decide +kernel
theorem dX5_refuseToken_2 : decode cX5_refuseToken 2 = .ok (.iconst 4, 1) := by decide +kernel
theorem dX5_refuseToken_3 : decode cX5_refuseToken 3 = .ok (.if_icmp .ne 7, 3) := by decide +kernel
theorem dX5_refuseToken_6 : decode cX5_refuseToken 6 = .ok (.iconst 1, 1) := by decide +kernel
theorem dX5_refuseToken_7 : decode cX5_refuseToken 7 = .ok (.goto 4, 3) := by decide +kernel
theorem dX5_refuseToken_10 : decode cX5_refuseToken 10 = .ok (.iconst 2, 1) := by decide +kernel
theorem dX5_refuseToken_11 : decode cX5_refuseToken 11 = .ok (.aload_n 0, 1) := by decide +kernel
theorem dX5_refuseToken_12 : decode cX5_refuseToken 12 = .ok (.getfield 12, 3) := by decide +kernel
theorem dX5_refuseToken_15 : decode cX5_refuseToken 15 = .ok (.getfield 69, 3) := by decide +kernel
theorem dX5_refuseToken_18 : decode cX5_refuseToken 18 = .ok (.invokevirtual 72, 3) := by decide +kernel
theorem dX5_refuseToken_21 : decode cX5_refuseToken 21 = .ok (.return_, 1) := by decide +kernel
theorem dX5_takeLine_0 : decode cX5_takeLine 0 = .ok (.iload_n 1, 1) := by decide +kernel
theorem dX5_takeLine_1 : decode cX5_takeLine 1 = .ok (.iconst 1, 1) := by decide +kernel
theorem dX5_takeLine_2 : decode cX5_takeLine 2 = .ok (.if_icmp .ne 10, 3) := by decide +kernel
theorem dX5_takeLine_5 : decode cX5_takeLine 5 = .ok (.aload_n 0, 1) := by decide +kernel
theorem dX5_takeLine_6 : decode cX5_takeLine 6 = .ok (.invokevirtual 76, 3) := by decide +kernel
theorem dX5_takeLine_9 : decode cX5_takeLine 9 = .ok (.goto 5, 3) := by decide +kernel
theorem dX5_takeLine_12 : decode cX5_takeLine 12 = .ok (.bipush 7, 2) := by decide +kernel
theorem dX5_takeLine_14 : decode cX5_takeLine 14 = .ok (.istore_n 2, 1) := by decide +kernel
theorem dX5_takeLine_15 : decode cX5_takeLine 15 = .ok (.iload_n 2, 1) := by decide +kernel
theorem dX5_takeLine_16 : decode cX5_takeLine 16 = .ok (.tableswitch 61 4 7 #[40, 47, 54, 32], 32) := by decide +kernel
theorem dX5_takeLine_48 : decode cX5_takeLine 48 = .ok (.aload_n 0, 1) := by decide +kernel
theorem dX5_takeLine_49 : decode cX5_takeLine 49 = .ok (.iload_n 1, 1) := by decide +kernel
theorem dX5_takeLine_50 : decode cX5_takeLine 50 = .ok (.invokevirtual 79, 3) := by decide +kernel
theorem dX5_takeLine_53 : decode cX5_takeLine 53 = .ok (.goto 29, 3) := by decide +kernel
theorem dX5_takeLine_56 : decode cX5_takeLine 56 = .ok (.aload_n 0, 1) := by decide +kernel
theorem dX5_takeLine_57 : decode cX5_takeLine 57 = .ok (.invokevirtual 82, 3) := by decide +kernel
theorem dX5_takeLine_60 : decode cX5_takeLine 60 = .ok (.goto 22, 3) := by decide +kernel
theorem dX5_takeLine_63 : decode cX5_takeLine 63 = .ok (.aload_n 0, 1) := by decide +kernel
theorem dX5_takeLine_64 : decode cX5_takeLine 64 = .ok (.invokevirtual 85, 3) := by decide +kernel
theorem dX5_takeLine_67 : decode cX5_takeLine 67 = .ok (.goto 15, 3) := by decide +kernel
theorem dX5_takeLine_70 : decode cX5_takeLine 70 = .ok (.aload_n 0, 1) := by decide +kernel
theorem dX5_takeLine_71 : decode cX5_takeLine 71 = .ok (.invokevirtual 88, 3) := by decide +kernel
theorem dX5_takeLine_74 : decode cX5_takeLine 74 = .ok (.goto 8, 3) := by decide +kernel
theorem dX5_takeLine_77 : decode cX5_takeLine 77 = .ok (.aload_n 0, 1) := by decide +kernel
theorem dX5_takeLine_78 : decode cX5_takeLine 78 = .ok (.iload_n 2, 1) := by decide +kernel
theorem dX5_takeLine_79 : decode cX5_takeLine 79 = .ok (.invokevirtual 91, 3) := by decide +kernel
theorem dX5_takeLine_82 : decode cX5_takeLine 82 = .ok (.aload_n 0, 1) := by decide +kernel
theorem dX5_takeLine_83 : decode cX5_takeLine 83 = .ok (.getfield 49, 3) := by decide +kernel
theorem dX5_takeLine_86 : decode cX5_takeLine 86 = .ok (.ifCond .ne 7, 3) := by decide +kernel
theorem dX5_takeLine_89 : decode cX5_takeLine 89 = .ok (.aload_n 0, 1) := by decide +kernel
theorem dX5_takeLine_90 : decode cX5_takeLine 90 = .ok (.invokevirtual 94, 3) := by decide +kernel
theorem dX5_takeLine_93 : decode cX5_takeLine 93 = .ok (.return_, 1) := by decide +kernel
theorem dX5_takeStop_0 : decode cX5_takeStop 0 = .ok (.aload_n 0, 1) := by decide +kernel
theorem dX5_takeStop_1 : decode cX5_takeStop 1 = .ok (.getfield 12, 3) := by decide +kernel
theorem dX5_takeStop_4 : decode cX5_takeStop 4 = .ok (.invokevirtual 52, 3) := by decide +kernel
theorem dX5_takeStop_7 : decode cX5_takeStop 7 = .ok (.istore_n 1, 1) := by decide +kernel
theorem dX5_takeStop_8 : decode cX5_takeStop 8 = .ok (.iload_n 1, 1) := by decide +kernel
theorem dX5_takeStop_9 : decode cX5_takeStop 9 = .ok (.iconst 3, 1) := by decide +kernel
theorem dX5_takeStop_10 : decode cX5_takeStop 10 = .ok (.if_icmp .eq 8, 3) := by decide +kernel
theorem dX5_takeStop_13 : decode cX5_takeStop 13 = .ok (.aload_n 0, 1) := by decide +kernel
theorem dX5_takeStop_14 : decode cX5_takeStop 14 = .ok (.iload_n 1, 1) := by decide +kernel
theorem dX5_takeStop_15 : decode cX5_takeStop 15 = .ok (.invokevirtual 79, 3) := by decide +kernel
theorem dX5_takeStop_18 : decode cX5_takeStop 18 = .ok (.return_, 1) := by decide +kernel
theorem dX5_lineByName_0 : decode cX5_lineByName 0 = .ok (.aload_n 0, 1) := by decide +kernel
theorem dX5_lineByName_1 : decode cX5_lineByName 1 = .ok (.getfield 12, 3) := by decide +kernel
theorem dX5_lineByName_4 : decode cX5_lineByName 4 = .ok (.ldc 97, 2) := by decide +kernel
theorem dX5_lineByName_6 : decode cX5_lineByName 6 = .ok (.invokevirtual 99, 3) := by decide +kernel
theorem dX5_lineByName_9 : decode cX5_lineByName 9 = .ok (.ifCond .eq 5, 3) := by decide +kernel
theorem dX5_lineByName_12 : decode cX5_lineByName 12 = .ok (.iconst 0, 1) := by decide +kernel
theorem dX5_lineByName_13 : decode cX5_lineByName 13 = .ok (.ireturn, 1) := by decide +kernel
theorem dX5_lineByName_14 : decode cX5_lineByName 14 = .ok (.aload_n 0, 1) := by decide +kernel
theorem dX5_lineByName_15 : decode cX5_lineByName 15 = .ok (.getfield 12, 3) := by decide +kernel
theorem dX5_lineByName_18 : decode cX5_lineByName 18 = .ok (.ldc 103, 2) := by decide +kernel
theorem dX5_lineByName_20 : decode cX5_lineByName 20 = .ok (.invokevirtual 99, 3) := by decide +kernel
theorem dX5_lineByName_23 : decode cX5_lineByName 23 = .ok (.ifCond .eq 5, 3) := by decide +kernel
theorem dX5_lineByName_26 : decode cX5_lineByName 26 = .ok (.iconst 1, 1) := by decide +kernel
theorem dX5_lineByName_27 : decode cX5_lineByName 27 = .ok (.ireturn, 1) := by decide +kernel
theorem dX5_lineByName_28 : decode cX5_lineByName 28 = .ok (.aload_n 0, 1) := by decide +kernel
theorem dX5_lineByName_29 : decode cX5_lineByName 29 = .ok (.getfield 12, 3) := by decide +kernel
theorem dX5_lineByName_32 : decode cX5_lineByName 32 = .ok (.ldc 105, 2) := by decide +kernel
theorem dX5_lineByName_34 : decode cX5_lineByName 34 = .ok (.invokevirtual 99, 3) := by decide +kernel
theorem dX5_lineByName_37 : decode cX5_lineByName 37 = .ok (.ifCond .eq 5, 3) := by decide +kernel
theorem dX5_lineByName_40 : decode cX5_lineByName 40 = .ok (.iconst 2, 1) := by decide +kernel
theorem dX5_lineByName_41 : decode cX5_lineByName 41 = .ok (.ireturn, 1) := by decide +kernel
theorem dX5_lineByName_42 : decode cX5_lineByName 42 = .ok (.aload_n 0, 1) := by decide +kernel
theorem dX5_lineByName_43 : decode cX5_lineByName 43 = .ok (.getfield 12, 3) := by decide +kernel
theorem dX5_lineByName_46 : decode cX5_lineByName 46 = .ok (.ldc 107, 2) := by decide +kernel
theorem dX5_lineByName_48 : decode cX5_lineByName 48 = .ok (.invokevirtual 99, 3) := by decide +kernel
theorem dX5_lineByName_51 : decode cX5_lineByName 51 = .ok (.ifCond .eq 5, 3) := by decide +kernel
theorem dX5_lineByName_54 : decode cX5_lineByName 54 = .ok (.iconst 3, 1) := by decide +kernel
theorem dX5_lineByName_55 : decode cX5_lineByName 55 = .ok (.ireturn, 1) := by decide +kernel
theorem dX5_lineByName_56 : decode cX5_lineByName 56 = .ok (.aload_n 0, 1) := by decide +kernel
theorem dX5_lineByName_57 : decode cX5_lineByName 57 = .ok (.getfield 12, 3) := by decide +kernel
theorem dX5_lineByName_60 : decode cX5_lineByName 60 = .ok (.ldc 109, 2) := by decide +kernel
theorem dX5_lineByName_62 : decode cX5_lineByName 62 = .ok (.invokevirtual 99, 3) := by decide +kernel
theorem dX5_lineByName_65 : decode cX5_lineByName 65 = .ok (.ifCond .eq 5, 3) := by decide +kernel
theorem dX5_lineByName_68 : decode cX5_lineByName 68 = .ok (.iconst 4, 1) := by decide +kernel
theorem dX5_lineByName_69 : decode cX5_lineByName 69 = .ok (.ireturn, 1) := by decide +kernel
theorem dX5_lineByName_70 : decode cX5_lineByName 70 = .ok (.aload_n 0, 1) := by decide +kernel
theorem dX5_lineByName_71 : decode cX5_lineByName 71 = .ok (.getfield 12, 3) := by decide +kernel
theorem dX5_lineByName_74 : decode cX5_lineByName 74 = .ok (.ldc 111, 2) := by decide +kernel
theorem dX5_lineByName_76 : decode cX5_lineByName 76 = .ok (.invokevirtual 99, 3) := by decide +kernel
theorem dX5_lineByName_79 : decode cX5_lineByName 79 = .ok (.ifCond .eq 5, 3) := by decide +kernel
theorem dX5_lineByName_82 : decode cX5_lineByName 82 = .ok (.iconst 5, 1) := by decide +kernel
theorem dX5_lineByName_83 : decode cX5_lineByName 83 = .ok (.ireturn, 1) := by decide +kernel
theorem dX5_lineByName_84 : decode cX5_lineByName 84 = .ok (.aload_n 0, 1) := by decide +kernel
theorem dX5_lineByName_85 : decode cX5_lineByName 85 = .ok (.getfield 12, 3) := by decide +kernel
theorem dX5_lineByName_88 : decode cX5_lineByName 88 = .ok (.ldc 113, 2) := by decide +kernel
theorem dX5_lineByName_90 : decode cX5_lineByName 90 = .ok (.invokevirtual 99, 3) := by decide +kernel
theorem dX5_lineByName_93 : decode cX5_lineByName 93 = .ok (.ifCond .eq 8, 3) := by decide +kernel
theorem dX5_lineByName_96 : decode cX5_lineByName 96 = .ok (.bipush 6, 2) := by decide +kernel
theorem dX5_lineByName_98 : decode cX5_lineByName 98 = .ok (.goto 5, 3) := by decide +kernel
theorem dX5_lineByName_101 : decode cX5_lineByName 101 = .ok (.bipush 7, 2) := by decide +kernel
theorem dX5_lineByName_103 : decode cX5_lineByName 103 = .ok (.ireturn, 1) := by decide +kernel
theorem dX5_takeNumber_0 : decode cX5_takeNumber 0 = .ok (.aload_n 0, 1) := by decide +kernel
theorem dX5_takeNumber_1 : decode cX5_takeNumber 1 = .ok (.getfield 49, 3) := by decide +kernel
theorem dX5_takeNumber_4 : decode cX5_takeNumber 4 = .ok (.ifCond .eq 5, 3) := by decide +kernel
theorem dX5_takeNumber_7 : decode cX5_takeNumber 7 = .ok (.iload_n 1, 1) := by decide +kernel
theorem dX5_takeNumber_8 : decode cX5_takeNumber 8 = .ok (.ireturn, 1) := by decide +kernel
theorem dX5_takeNumber_9 : decode cX5_takeNumber 9 = .ok (.aload_n 0, 1) := by decide +kernel
theorem dX5_takeNumber_10 : decode cX5_takeNumber 10 = .ok (.getfield 12, 3) := by decide +kernel
theorem dX5_takeNumber_13 : decode cX5_takeNumber 13 = .ok (.invokevirtual 52, 3) := by decide +kernel
theorem dX5_takeNumber_16 : decode cX5_takeNumber 16 = .ok (.istore_n 3, 1) := by decide +kernel
theorem dX5_takeNumber_17 : decode cX5_takeNumber 17 = .ok (.iload_n 3, 1) := by decide +kernel
theorem dX5_takeNumber_18 : decode cX5_takeNumber 18 = .ok (.iconst 2, 1) := by decide +kernel
theorem dX5_takeNumber_19 : decode cX5_takeNumber 19 = .ok (.if_icmp .eq 10, 3) := by decide +kernel
theorem dX5_takeNumber_22 : decode cX5_takeNumber 22 = .ok (.aload_n 0, 1) := by decide +kernel
theorem dX5_takeNumber_23 : decode cX5_takeNumber 23 = .ok (.iload_n 3, 1) := by decide +kernel
theorem dX5_takeNumber_24 : decode cX5_takeNumber 24 = .ok (.invokevirtual 79, 3) := by decide +kernel
theorem dX5_takeNumber_27 : decode cX5_takeNumber 27 = .ok (.iload_n 1, 1) := by decide +kernel
theorem dX5_takeNumber_28 : decode cX5_takeNumber 28 = .ok (.ireturn, 1) := by decide +kernel
theorem dX5_takeNumber_29 : decode cX5_takeNumber 29 = .ok (.aload_n 0, 1) := by decide +kernel
theorem dX5_takeNumber_30 : decode cX5_takeNumber 30 = .ok (.getfield 12, 3) := by decide +kernel
theorem dX5_takeNumber_33 : decode cX5_takeNumber 33 = .ok (.invokevirtual 115, 3) := by decide +kernel
theorem dX5_takeNumber_36 : decode cX5_takeNumber 36 = .ok (.istore 4, 2) := by decide +kernel
theorem dX5_takeNumber_38 : decode cX5_takeNumber 38 = .ok (.iload 4, 2) := by decide +kernel
theorem dX5_takeNumber_40 : decode cX5_takeNumber 40 = .ok (.iload_n 1, 1) := by decide +kernel
theorem dX5_takeNumber_41 : decode cX5_takeNumber 41 = .ok (.iload_n 2, 1) := by decide +kernel
theorem dX5_takeNumber_42 : decode cX5_takeNumber 42 = .ok (.invokestatic 118, 3) := by decide +kernel
theorem dX5_takeNumber_45 : decode cX5_takeNumber 45 = .ok (.ifCond .eq 17, 3) := by decide +kernel
theorem dX5_takeNumber_48 : decode cX5_takeNumber 48 = .ok (.aload_n 0, 1) := by decide +kernel
theorem dX5_takeNumber_49 : decode cX5_takeNumber 49 = .ok (.iconst 3, 1) := by decide +kernel
theorem dX5_takeNumber_50 : decode cX5_takeNumber 50 = .ok (.aload_n 0, 1) := by decide +kernel
theorem dX5_takeNumber_51 : decode cX5_takeNumber 51 = .ok (.getfield 12, 3) := by decide +kernel
theorem dX5_takeNumber_54 : decode cX5_takeNumber 54 = .ok (.getfield 69, 3) := by decide +kernel
theorem dX5_takeNumber_57 : decode cX5_takeNumber 57 = .ok (.invokevirtual 72, 3) := by decide +kernel
theorem dX5_takeNumber_60 : decode cX5_takeNumber 60 = .ok (.iload_n 1, 1) := by decide +kernel
theorem dX5_takeNumber_61 : decode cX5_takeNumber 61 = .ok (.ireturn, 1) := by decide +kernel
theorem dX5_takeNumber_62 : decode cX5_takeNumber 62 = .ok (.iload 4, 2) := by decide +kernel
theorem dX5_takeNumber_64 : decode cX5_takeNumber 64 = .ok (.ireturn, 1) := by decide +kernel
theorem dX5_takeHouse_0 : decode cX5_takeHouse 0 = .ok (.aload_n 0, 1) := by decide +kernel
theorem dX5_takeHouse_1 : decode cX5_takeHouse 1 = .ok (.getfield 21, 3) := by decide +kernel
theorem dX5_takeHouse_4 : decode cX5_takeHouse 4 = .ok (.getfield 122, 3) := by decide +kernel
theorem dX5_takeHouse_7 : decode cX5_takeHouse 7 = .ok (.iconst 5, 1) := by decide +kernel
theorem dX5_takeHouse_8 : decode cX5_takeHouse 8 = .ok (.if_icmp .lt 16, 3) := by decide +kernel
theorem dX5_takeHouse_11 : decode cX5_takeHouse 11 = .ok (.aload_n 0, 1) := by decide +kernel
theorem dX5_takeHouse_12 : decode cX5_takeHouse 12 = .ok (.iconst 5, 1) := by decide +kernel
theorem dX5_takeHouse_13 : decode cX5_takeHouse 13 = .ok (.aload_n 0, 1) := by decide +kernel
theorem dX5_takeHouse_14 : decode cX5_takeHouse 14 = .ok (.getfield 12, 3) := by decide +kernel
theorem dX5_takeHouse_17 : decode cX5_takeHouse 17 = .ok (.getfield 69, 3) := by decide +kernel
theorem dX5_takeHouse_20 : decode cX5_takeHouse 20 = .ok (.invokevirtual 72, 3) := by decide +kernel
theorem dX5_takeHouse_23 : decode cX5_takeHouse 23 = .ok (.return_, 1) := by decide +kernel
theorem dX5_takeHouse_24 : decode cX5_takeHouse 24 = .ok (.aload_n 0, 1) := by decide +kernel
theorem dX5_takeHouse_25 : decode cX5_takeHouse 25 = .ok (.getfield 21, 3) := by decide +kernel
theorem dX5_takeHouse_28 : decode cX5_takeHouse 28 = .ok (.iload_n 1, 1) := by decide +kernel
theorem dX5_takeHouse_29 : decode cX5_takeHouse 29 = .ok (.aload_n 0, 1) := by decide +kernel
theorem dX5_takeHouse_30 : decode cX5_takeHouse 30 = .ok (.iconst 0, 1) := by decide +kernel
theorem dX5_takeHouse_31 : decode cX5_takeHouse 31 = .ok (.bipush 99, 2) := by decide +kernel
theorem dX5_takeHouse_33 : decode cX5_takeHouse 33 = .ok (.invokevirtual 125, 3) := by decide +kernel
theorem dX5_takeHouse_36 : decode cX5_takeHouse 36 = .ok (.invokevirtual 129, 3) := by decide +kernel
theorem dX5_takeHouse_39 : decode cX5_takeHouse 39 = .ok (.return_, 1) := by decide +kernel
theorem dX5_takeFire_0 : decode cX5_takeFire 0 = .ok (.aload_n 0, 1) := by decide +kernel
theorem dX5_takeFire_1 : decode cX5_takeFire 1 = .ok (.getfield 42, 3) := by decide +kernel
theorem dX5_takeFire_4 : decode cX5_takeFire 4 = .ok (.ifCond .eq 16, 3) := by decide +kernel
theorem dX5_takeFire_7 : decode cX5_takeFire 7 = .ok (.aload_n 0, 1) := by decide +kernel
theorem dX5_takeFire_8 : decode cX5_takeFire 8 = .ok (.iconst 4, 1) := by decide +kernel
theorem dX5_takeFire_9 : decode cX5_takeFire 9 = .ok (.aload_n 0, 1) := by decide +kernel
theorem dX5_takeFire_10 : decode cX5_takeFire 10 = .ok (.getfield 12, 3) := by decide +kernel
theorem dX5_takeFire_13 : decode cX5_takeFire 13 = .ok (.getfield 69, 3) := by decide +kernel
theorem dX5_takeFire_16 : decode cX5_takeFire 16 = .ok (.invokevirtual 72, 3) := by decide +kernel
theorem dX5_takeFire_19 : decode cX5_takeFire 19 = .ok (.return_, 1) := by decide +kernel
theorem dX5_takeFire_20 : decode cX5_takeFire 20 = .ok (.aload_n 0, 1) := by decide +kernel
theorem dX5_takeFire_21 : decode cX5_takeFire 21 = .ok (.iconst 1, 1) := by decide +kernel
theorem dX5_takeFire_22 : decode cX5_takeFire 22 = .ok (.putfield 42, 3) := by decide +kernel
theorem dX5_takeFire_25 : decode cX5_takeFire 25 = .ok (.aload_n 0, 1) := by decide +kernel
theorem dX5_takeFire_26 : decode cX5_takeFire 26 = .ok (.getfield 21, 3) := by decide +kernel
theorem dX5_takeFire_29 : decode cX5_takeFire 29 = .ok (.aload_n 0, 1) := by decide +kernel
theorem dX5_takeFire_30 : decode cX5_takeFire 30 = .ok (.iconst 0, 1) := by decide +kernel
theorem dX5_takeFire_31 : decode cX5_takeFire 31 = .ok (.iconst 4, 1) := by decide +kernel
theorem dX5_takeFire_32 : decode cX5_takeFire 32 = .ok (.invokevirtual 125, 3) := by decide +kernel
theorem dX5_takeFire_35 : decode cX5_takeFire 35 = .ok (.putfield 132, 3) := by decide +kernel
theorem dX5_takeFire_38 : decode cX5_takeFire 38 = .ok (.aload_n 0, 1) := by decide +kernel
theorem dX5_takeFire_39 : decode cX5_takeFire 39 = .ok (.getfield 21, 3) := by decide +kernel
theorem dX5_takeFire_42 : decode cX5_takeFire 42 = .ok (.aload_n 0, 1) := by decide +kernel
theorem dX5_takeFire_43 : decode cX5_takeFire 43 = .ok (.iconst 0, 1) := by decide +kernel
theorem dX5_takeFire_44 : decode cX5_takeFire 44 = .ok (.bipush 20, 2) := by decide +kernel
theorem dX5_takeFire_46 : decode cX5_takeFire 46 = .ok (.invokevirtual 125, 3) := by decide +kernel
theorem dX5_takeFire_49 : decode cX5_takeFire 49 = .ok (.putfield 135, 3) := by decide +kernel
theorem dX5_takeFire_52 : decode cX5_takeFire 52 = .ok (.aload_n 0, 1) := by decide +kernel
theorem dX5_takeFire_53 : decode cX5_takeFire 53 = .ok (.getfield 21, 3) := by decide +kernel
theorem dX5_takeFire_56 : decode cX5_takeFire 56 = .ok (.aload_n 0, 1) := by decide +kernel
theorem dX5_takeFire_57 : decode cX5_takeFire 57 = .ok (.iconst 0, 1) := by decide +kernel
theorem dX5_takeFire_58 : decode cX5_takeFire 58 = .ok (.bipush 9, 2) := by decide +kernel
theorem dX5_takeFire_60 : decode cX5_takeFire 60 = .ok (.invokevirtual 125, 3) := by decide +kernel
theorem dX5_takeFire_63 : decode cX5_takeFire 63 = .ok (.putfield 138, 3) := by decide +kernel
theorem dX5_takeFire_66 : decode cX5_takeFire 66 = .ok (.return_, 1) := by decide +kernel
theorem dX5_takeRain_0 : decode cX5_takeRain 0 = .ok (.iconst 1, 1) := by decide +kernel
theorem dX5_takeRain_1 : decode cX5_takeRain 1 = .ok (.aload_n 0, 1) := by decide +kernel
theorem dX5_takeRain_2 : decode cX5_takeRain 2 = .ok (.iconst 0, 1) := by decide +kernel
theorem dX5_takeRain_3 : decode cX5_takeRain 3 = .ok (.bipush 6, 2) := by decide +kernel
theorem dX5_takeRain_5 : decode cX5_takeRain 5 = .ok (.invokevirtual 125, 3) := by decide +kernel
theorem dX5_takeRain_8 : decode cX5_takeRain 8 = .ok (.ishl, 1) := by decide +kernel
theorem dX5_takeRain_9 : decode cX5_takeRain 9 = .ok (.istore_n 1, 1) := by decide +kernel
theorem dX5_takeRain_10 : decode cX5_takeRain 10 = .ok (.aload_n 0, 1) := by decide +kernel
theorem dX5_takeRain_11 : decode cX5_takeRain 11 = .ok (.getfield 21, 3) := by decide +kernel
theorem dX5_takeRain_14 : decode cX5_takeRain 14 = .ok (.getfield 141, 3) := by decide +kernel
theorem dX5_takeRain_17 : decode cX5_takeRain 17 = .ok (.iload_n 1, 1) := by decide +kernel
theorem dX5_takeRain_18 : decode cX5_takeRain 18 = .ok (.iand, 1) := by decide +kernel
theorem dX5_takeRain_19 : decode cX5_takeRain 19 = .ok (.ifCond .eq 15, 3) := by decide +kernel
theorem dX5_takeRain_22 : decode cX5_takeRain 22 = .ok (.aload_n 0, 1) := by decide +kernel
theorem dX5_takeRain_23 : decode cX5_takeRain 23 = .ok (.iconst 4, 1) := by decide +kernel
theorem dX5_takeRain_24 : decode cX5_takeRain 24 = .ok (.aload_n 0, 1) := by decide +kernel
theorem dX5_takeRain_25 : decode cX5_takeRain 25 = .ok (.getfield 12, 3) := by decide +kernel
theorem dX5_takeRain_28 : decode cX5_takeRain 28 = .ok (.getfield 69, 3) := by decide +kernel
theorem dX5_takeRain_31 : decode cX5_takeRain 31 = .ok (.invokevirtual 72, 3) := by decide +kernel
theorem dX5_takeRain_34 : decode cX5_takeRain 34 = .ok (.aload_n 0, 1) := by decide +kernel
theorem dX5_takeRain_35 : decode cX5_takeRain 35 = .ok (.getfield 21, 3) := by decide +kernel
theorem dX5_takeRain_38 : decode cX5_takeRain 38 = .ok (.dup, 1) := by decide +kernel
theorem dX5_takeRain_39 : decode cX5_takeRain 39 = .ok (.getfield 141, 3) := by decide +kernel
theorem dX5_takeRain_42 : decode cX5_takeRain 42 = .ok (.iload_n 1, 1) := by decide +kernel
theorem dX5_takeRain_43 : decode cX5_takeRain 43 = .ok (.ior, 1) := by decide +kernel
theorem dX5_takeRain_44 : decode cX5_takeRain 44 = .ok (.putfield 141, 3) := by decide +kernel
theorem dX5_takeRain_47 : decode cX5_takeRain 47 = .ok (.return_, 1) := by decide +kernel
theorem dX5_takeOffer_0 : decode cX5_takeOffer 0 = .ok (.aload_n 0, 1) := by decide +kernel
theorem dX5_takeOffer_1 : decode cX5_takeOffer 1 = .ok (.getfield 38, 3) := by decide +kernel
theorem dX5_takeOffer_4 : decode cX5_takeOffer 4 = .ok (.iconst 4, 1) := by decide +kernel
theorem dX5_takeOffer_5 : decode cX5_takeOffer 5 = .ok (.if_icmp .lt 16, 3) := by decide +kernel
theorem dX5_takeOffer_8 : decode cX5_takeOffer 8 = .ok (.aload_n 0, 1) := by decide +kernel
theorem dX5_takeOffer_9 : decode cX5_takeOffer 9 = .ok (.iconst 5, 1) := by decide +kernel
theorem dX5_takeOffer_10 : decode cX5_takeOffer 10 = .ok (.aload_n 0, 1) := by decide +kernel
theorem dX5_takeOffer_11 : decode cX5_takeOffer 11 = .ok (.getfield 12, 3) := by decide +kernel
theorem dX5_takeOffer_14 : decode cX5_takeOffer 14 = .ok (.getfield 69, 3) := by decide +kernel
theorem dX5_takeOffer_17 : decode cX5_takeOffer 17 = .ok (.invokevirtual 72, 3) := by decide +kernel
theorem dX5_takeOffer_20 : decode cX5_takeOffer 20 = .ok (.return_, 1) := by decide +kernel
theorem dX5_takeOffer_21 : decode cX5_takeOffer 21 = .ok (.aload_n 0, 1) := by decide +kernel
theorem dX5_takeOffer_22 : decode cX5_takeOffer 22 = .ok (.getfield 25, 3) := by decide +kernel
theorem dX5_takeOffer_25 : decode cX5_takeOffer 25 = .ok (.aload_n 0, 1) := by decide +kernel
theorem dX5_takeOffer_26 : decode cX5_takeOffer 26 = .ok (.getfield 38, 3) := by decide +kernel
theorem dX5_takeOffer_29 : decode cX5_takeOffer 29 = .ok (.aload_n 0, 1) := by decide +kernel
theorem dX5_takeOffer_30 : decode cX5_takeOffer 30 = .ok (.iconst 0, 1) := by decide +kernel
theorem dX5_takeOffer_31 : decode cX5_takeOffer 31 = .ok (.iconst 4, 1) := by decide +kernel
theorem dX5_takeOffer_32 : decode cX5_takeOffer 32 = .ok (.invokevirtual 125, 3) := by decide +kernel
theorem dX5_takeOffer_35 : decode cX5_takeOffer 35 = .ok (.iastore, 1) := by decide +kernel
theorem dX5_takeOffer_36 : decode cX5_takeOffer 36 = .ok (.aload_n 0, 1) := by decide +kernel
theorem dX5_takeOffer_37 : decode cX5_takeOffer 37 = .ok (.getfield 29, 3) := by decide +kernel
theorem dX5_takeOffer_40 : decode cX5_takeOffer 40 = .ok (.aload_n 0, 1) := by decide +kernel
theorem dX5_takeOffer_41 : decode cX5_takeOffer 41 = .ok (.getfield 38, 3) := by decide +kernel
theorem dX5_takeOffer_44 : decode cX5_takeOffer 44 = .ok (.aload_n 0, 1) := by decide +kernel
theorem dX5_takeOffer_45 : decode cX5_takeOffer 45 = .ok (.iconst 1, 1) := by decide +kernel
theorem dX5_takeOffer_46 : decode cX5_takeOffer 46 = .ok (.bipush 20, 2) := by decide +kernel
theorem dX5_takeOffer_48 : decode cX5_takeOffer 48 = .ok (.invokevirtual 125, 3) := by decide +kernel
theorem dX5_takeOffer_51 : decode cX5_takeOffer 51 = .ok (.iastore, 1) := by decide +kernel
theorem dX5_takeOffer_52 : decode cX5_takeOffer 52 = .ok (.aload_n 0, 1) := by decide +kernel
theorem dX5_takeOffer_53 : decode cX5_takeOffer 53 = .ok (.dup, 1) := by decide +kernel
theorem dX5_takeOffer_54 : decode cX5_takeOffer 54 = .ok (.getfield 38, 3) := by decide +kernel
theorem dX5_takeOffer_57 : decode cX5_takeOffer 57 = .ok (.iconst 1, 1) := by decide +kernel
theorem dX5_takeOffer_58 : decode cX5_takeOffer 58 = .ok (.iadd, 1) := by decide +kernel
theorem dX5_takeOffer_59 : decode cX5_takeOffer 59 = .ok (.putfield 38, 3) := by decide +kernel
theorem dX5_takeOffer_62 : decode cX5_takeOffer 62 = .ok (.return_, 1) := by decide +kernel
theorem dX5_checkHouses_0 : decode cX5_checkHouses 0 = .ok (.aload_n 0, 1) := by decide +kernel
theorem dX5_checkHouses_1 : decode cX5_checkHouses 1 = .ok (.getfield 42, 3) := by decide +kernel
theorem dX5_checkHouses_4 : decode cX5_checkHouses 4 = .ok (.ifCond .eq 33, 3) := by decide +kernel
theorem dX5_checkHouses_7 : decode cX5_checkHouses 7 = .ok (.aload_n 0, 1) := by decide +kernel
theorem dX5_checkHouses_8 : decode cX5_checkHouses 8 = .ok (.getfield 21, 3) := by decide +kernel
theorem dX5_checkHouses_11 : decode cX5_checkHouses 11 = .ok (.aload_n 0, 1) := by decide +kernel
theorem dX5_checkHouses_12 : decode cX5_checkHouses 12 = .ok (.getfield 21, 3) := by decide +kernel
theorem dX5_checkHouses_15 : decode cX5_checkHouses 15 = .ok (.getfield 132, 3) := by decide +kernel
theorem dX5_checkHouses_18 : decode cX5_checkHouses 18 = .ok (.invokevirtual 144, 3) := by decide +kernel
theorem dX5_checkHouses_21 : decode cX5_checkHouses 21 = .ok (.ifCond .ne 16, 3) := by decide +kernel
theorem dX5_checkHouses_24 : decode cX5_checkHouses 24 = .ok (.aload_n 0, 1) := by decide +kernel
theorem dX5_checkHouses_25 : decode cX5_checkHouses 25 = .ok (.bipush 6, 2) := by decide +kernel
theorem dX5_checkHouses_27 : decode cX5_checkHouses 27 = .ok (.aload_n 0, 1) := by decide +kernel
theorem dX5_checkHouses_28 : decode cX5_checkHouses 28 = .ok (.getfield 12, 3) := by decide +kernel
theorem dX5_checkHouses_31 : decode cX5_checkHouses 31 = .ok (.getfield 148, 3) := by decide +kernel
theorem dX5_checkHouses_34 : decode cX5_checkHouses 34 = .ok (.invokevirtual 72, 3) := by decide +kernel
theorem dX5_checkHouses_37 : decode cX5_checkHouses 37 = .ok (.iconst 0, 1) := by decide +kernel
theorem dX5_checkHouses_38 : decode cX5_checkHouses 38 = .ok (.istore_n 1, 1) := by decide +kernel
theorem dX5_checkHouses_39 : decode cX5_checkHouses 39 = .ok (.iload_n 1, 1) := by decide +kernel
theorem dX5_checkHouses_40 : decode cX5_checkHouses 40 = .ok (.aload_n 0, 1) := by decide +kernel
theorem dX5_checkHouses_41 : decode cX5_checkHouses 41 = .ok (.getfield 38, 3) := by decide +kernel
theorem dX5_checkHouses_44 : decode cX5_checkHouses 44 = .ok (.if_icmp .ge 38, 3) := by decide +kernel
theorem dX5_checkHouses_47 : decode cX5_checkHouses 47 = .ok (.aload_n 0, 1) := by decide +kernel
theorem dX5_checkHouses_48 : decode cX5_checkHouses 48 = .ok (.getfield 21, 3) := by decide +kernel
theorem dX5_checkHouses_51 : decode cX5_checkHouses 51 = .ok (.aload_n 0, 1) := by decide +kernel
theorem dX5_checkHouses_52 : decode cX5_checkHouses 52 = .ok (.getfield 25, 3) := by decide +kernel
theorem dX5_checkHouses_55 : decode cX5_checkHouses 55 = .ok (.iload_n 1, 1) := by decide +kernel
theorem dX5_checkHouses_56 : decode cX5_checkHouses 56 = .ok (.iaload, 1) := by decide +kernel
theorem dX5_checkHouses_57 : decode cX5_checkHouses 57 = .ok (.invokevirtual 144, 3) := by decide +kernel
theorem dX5_checkHouses_60 : decode cX5_checkHouses 60 = .ok (.ifCond .ne 16, 3) := by decide +kernel
theorem dX5_checkHouses_63 : decode cX5_checkHouses 63 = .ok (.aload_n 0, 1) := by decide +kernel
theorem dX5_checkHouses_64 : decode cX5_checkHouses 64 = .ok (.bipush 6, 2) := by decide +kernel
theorem dX5_checkHouses_66 : decode cX5_checkHouses 66 = .ok (.aload_n 0, 1) := by decide +kernel
theorem dX5_checkHouses_67 : decode cX5_checkHouses 67 = .ok (.getfield 12, 3) := by decide +kernel
theorem dX5_checkHouses_70 : decode cX5_checkHouses 70 = .ok (.getfield 148, 3) := by decide +kernel
theorem dX5_checkHouses_73 : decode cX5_checkHouses 73 = .ok (.invokevirtual 72, 3) := by decide +kernel
theorem dX5_checkHouses_76 : decode cX5_checkHouses 76 = .ok (.iinc 1 1, 3) := by decide +kernel
theorem dX5_checkHouses_79 : decode cX5_checkHouses 79 = .ok (.goto (-40), 3) := by decide +kernel
theorem dX5_checkHouses_82 : decode cX5_checkHouses 82 = .ok (.return_, 1) := by decide +kernel
theorem dX5_makeOffers_0 : decode cX5_makeOffers 0 = .ok (.iconst 0, 1) := by decide +kernel
theorem dX5_makeOffers_1 : decode cX5_makeOffers 1 = .ok (.istore_n 1, 1) := by decide +kernel
theorem dX5_makeOffers_2 : decode cX5_makeOffers 2 = .ok (.iload_n 1, 1) := by decide +kernel
theorem dX5_makeOffers_3 : decode cX5_makeOffers 3 = .ok (.aload_n 0, 1) := by decide +kernel
theorem dX5_makeOffers_4 : decode cX5_makeOffers 4 = .ok (.getfield 38, 3) := by decide +kernel
theorem dX5_makeOffers_7 : decode cX5_makeOffers 7 = .ok (.if_icmp .ge 51, 3) := by decide +kernel
theorem dX5_makeOffers_10 : decode cX5_makeOffers 10 = .ok (.aload_n 0, 1) := by decide +kernel
theorem dX5_makeOffers_11 : decode cX5_makeOffers 11 = .ok (.getfield 49, 3) := by decide +kernel
theorem dX5_makeOffers_14 : decode cX5_makeOffers 14 = .ok (.ifCond .ne 44, 3) := by decide +kernel
theorem dX5_makeOffers_17 : decode cX5_makeOffers 17 = .ok (.aload_n 0, 1) := by decide +kernel
theorem dX5_makeOffers_18 : decode cX5_makeOffers 18 = .ok (.getfield 21, 3) := by decide +kernel
theorem dX5_makeOffers_21 : decode cX5_makeOffers 21 = .ok (.aload_n 0, 1) := by decide +kernel
theorem dX5_makeOffers_22 : decode cX5_makeOffers 22 = .ok (.getfield 25, 3) := by decide +kernel
theorem dX5_makeOffers_25 : decode cX5_makeOffers 25 = .ok (.iload_n 1, 1) := by decide +kernel
theorem dX5_makeOffers_26 : decode cX5_makeOffers 26 = .ok (.iaload, 1) := by decide +kernel
theorem dX5_makeOffers_27 : decode cX5_makeOffers 27 = .ok (.aload_n 0, 1) := by decide +kernel
theorem dX5_makeOffers_28 : decode cX5_makeOffers 28 = .ok (.getfield 29, 3) := by decide +kernel
theorem dX5_makeOffers_31 : decode cX5_makeOffers 31 = .ok (.iload_n 1, 1) := by decide +kernel
theorem dX5_makeOffers_32 : decode cX5_makeOffers 32 = .ok (.iaload, 1) := by decide +kernel
theorem dX5_makeOffers_33 : decode cX5_makeOffers 33 = .ok (.invokevirtual 151, 3) := by decide +kernel
theorem dX5_makeOffers_36 : decode cX5_makeOffers 36 = .ok (.ifCond .ge 16, 3) := by decide +kernel
theorem dX5_makeOffers_39 : decode cX5_makeOffers 39 = .ok (.aload_n 0, 1) := by decide +kernel
theorem dX5_makeOffers_40 : decode cX5_makeOffers 40 = .ok (.bipush 7, 2) := by decide +kernel
theorem dX5_makeOffers_42 : decode cX5_makeOffers 42 = .ok (.aload_n 0, 1) := by decide +kernel
theorem dX5_makeOffers_43 : decode cX5_makeOffers 43 = .ok (.getfield 12, 3) := by decide +kernel
theorem dX5_makeOffers_46 : decode cX5_makeOffers 46 = .ok (.getfield 148, 3) := by decide +kernel
theorem dX5_makeOffers_49 : decode cX5_makeOffers 49 = .ok (.invokevirtual 72, 3) := by decide +kernel
theorem dX5_makeOffers_52 : decode cX5_makeOffers 52 = .ok (.iinc 1 1, 3) := by decide +kernel
theorem dX5_makeOffers_55 : decode cX5_makeOffers 55 = .ok (.goto (-53), 3) := by decide +kernel
theorem dX5_makeOffers_58 : decode cX5_makeOffers 58 = .ok (.return_, 1) := by decide +kernel
