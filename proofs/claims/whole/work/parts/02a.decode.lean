theorem dX0_init_0 : decode cX0_init 0 = .ok (.aload_n 0, 1) := by decide +kernel
theorem dX0_init_1 : decode cX0_init 1 = .ok (.invokespecial 3, 3) := by decide +kernel
theorem dX0_init_4 : decode cX0_init 4 = .ok (.aload_n 0, 1) := by decide +kernel
theorem dX0_init_5 : decode cX0_init 5 = .ok (.iconst 5, 1) := by decide +kernel
theorem dX0_init_6 : decode cX0_init 6 = .ok (.newarray .int, 2) := by decide +kernel
theorem dX0_init_8 : decode cX0_init 8 = .ok (.putfield 9, 3) := by decide +kernel
theorem dX0_init_11 : decode cX0_init 11 = .ok (.aload_n 0, 1) := by decide +kernel
theorem dX0_init_12 : decode cX0_init 12 = .ok (.iconst 5, 1) := by decide +kernel
theorem dX0_init_13 : decode cX0_init 13 = .ok (.newarray .int, 2) := by decide +kernel
theorem dX0_init_15 : decode cX0_init 15 = .ok (.putfield 15, 3) := by decide +kernel
theorem dX0_init_18 : decode cX0_init 18 = .ok (.aload_n 0, 1) := by decide +kernel
theorem dX0_init_19 : decode cX0_init 19 = .ok (.iconst 5, 1) := by decide +kernel
theorem dX0_init_20 : decode cX0_init 20 = .ok (.newarray .int, 2) := by decide +kernel
theorem dX0_init_22 : decode cX0_init 22 = .ok (.putfield 18, 3) := by decide +kernel
theorem dX0_init_25 : decode cX0_init 25 = .ok (.aload_n 0, 1) := by decide +kernel
theorem dX0_init_26 : decode cX0_init 26 = .ok (.iconst 5, 1) := by decide +kernel
theorem dX0_init_27 : decode cX0_init 27 = .ok (.newarray .int, 2) := by decide +kernel
theorem dX0_init_29 : decode cX0_init 29 = .ok (.putfield 21, 3) := by decide +kernel
theorem dX0_init_32 : decode cX0_init 32 = .ok (.aload_n 0, 1) := by decide +kernel
theorem dX0_init_33 : decode cX0_init 33 = .ok (.iconst 3, 1) := by decide +kernel
theorem dX0_init_34 : decode cX0_init 34 = .ok (.putfield 24, 3) := by decide +kernel
theorem dX0_init_37 : decode cX0_init 37 = .ok (.return_, 1) := by decide +kernel
theorem dX0_clear_0 : decode cX0_clear 0 = .ok (.aload_n 0, 1) := by decide +kernel
theorem dX0_clear_1 : decode cX0_clear 1 = .ok (.iconst 0, 1) := by decide +kernel
theorem dX0_clear_2 : decode cX0_clear 2 = .ok (.putfield 28, 3) := by decide +kernel
theorem dX0_clear_5 : decode cX0_clear 5 = .ok (.aload_n 0, 1) := by decide +kernel
theorem dX0_clear_6 : decode cX0_clear 6 = .ok (.iconst 0, 1) := by decide +kernel
theorem dX0_clear_7 : decode cX0_clear 7 = .ok (.putfield 31, 3) := by decide +kernel
theorem dX0_clear_10 : decode cX0_clear 10 = .ok (.aload_n 0, 1) := by decide +kernel
theorem dX0_clear_11 : decode cX0_clear 11 = .ok (.iconst 3, 1) := by decide +kernel
theorem dX0_clear_12 : decode cX0_clear 12 = .ok (.putfield 24, 3) := by decide +kernel
theorem dX0_clear_15 : decode cX0_clear 15 = .ok (.aload_n 0, 1) := by decide +kernel
theorem dX0_clear_16 : decode cX0_clear 16 = .ok (.iconst 0, 1) := by decide +kernel
theorem dX0_clear_17 : decode cX0_clear 17 = .ok (.putfield 34, 3) := by decide +kernel
theorem dX0_clear_20 : decode cX0_clear 20 = .ok (.aload_n 0, 1) := by decide +kernel
theorem dX0_clear_21 : decode cX0_clear 21 = .ok (.iconst 0, 1) := by decide +kernel
theorem dX0_clear_22 : decode cX0_clear 22 = .ok (.putfield 37, 3) := by decide +kernel
theorem dX0_clear_25 : decode cX0_clear 25 = .ok (.aload_n 0, 1) := by decide +kernel
theorem dX0_clear_26 : decode cX0_clear 26 = .ok (.iconst 0, 1) := by decide +kernel
theorem dX0_clear_27 : decode cX0_clear 27 = .ok (.putfield 40, 3) := by decide +kernel
theorem dX0_clear_30 : decode cX0_clear 30 = .ok (.aload_n 0, 1) := by decide +kernel
theorem dX0_clear_31 : decode cX0_clear 31 = .ok (.iconst 0, 1) := by decide +kernel
theorem dX0_clear_32 : decode cX0_clear 32 = .ok (.putfield 43, 3) := by decide +kernel
theorem dX0_clear_35 : decode cX0_clear 35 = .ok (.aload_n 0, 1) := by decide +kernel
theorem dX0_clear_36 : decode cX0_clear 36 = .ok (.iconst 0, 1) := by decide +kernel
theorem dX0_clear_37 : decode cX0_clear 37 = .ok (.putfield 46, 3) := by decide +kernel
theorem dX0_clear_40 : decode cX0_clear 40 = .ok (.return_, 1) := by decide +kernel
theorem dX0_becomeLike_0 : decode cX0_becomeLike 0 = .ok (.aload_n 1, 1) := by decide +kernel
theorem dX0_becomeLike_1 : decode cX0_becomeLike 1 = .ok (.getfield 9, 3) := by decide +kernel
theorem dX0_becomeLike_4 : decode cX0_becomeLike 4 = .ok (.iconst 0, 1) := by decide +kernel
theorem dX0_becomeLike_5 : decode cX0_becomeLike 5 = .ok (.aload_n 0, 1) := by decide +kernel
theorem dX0_becomeLike_6 : decode cX0_becomeLike 6 = .ok (.getfield 9, 3) := by decide +kernel
theorem dX0_becomeLike_9 : decode cX0_becomeLike 9 = .ok (.iconst 0, 1) := by decide +kernel
theorem dX0_becomeLike_10 : decode cX0_becomeLike 10 = .ok (.iconst 5, 1) := by decide +kernel
theorem dX0_becomeLike_11 : decode cX0_becomeLike 11 = .ok (.invokestatic 49, 3) := by decide +kernel
theorem dX0_becomeLike_14 : decode cX0_becomeLike 14 = .ok (.aload_n 1, 1) := by decide +kernel
theorem dX0_becomeLike_15 : decode cX0_becomeLike 15 = .ok (.getfield 15, 3) := by decide +kernel
theorem dX0_becomeLike_18 : decode cX0_becomeLike 18 = .ok (.iconst 0, 1) := by decide +kernel
theorem dX0_becomeLike_19 : decode cX0_becomeLike 19 = .ok (.aload_n 0, 1) := by decide +kernel
theorem dX0_becomeLike_20 : decode cX0_becomeLike 20 = .ok (.getfield 15, 3) := by decide +kernel
theorem dX0_becomeLike_23 : decode cX0_becomeLike 23 = .ok (.iconst 0, 1) := by decide +kernel
theorem dX0_becomeLike_24 : decode cX0_becomeLike 24 = .ok (.iconst 5, 1) := by decide +kernel
theorem dX0_becomeLike_25 : decode cX0_becomeLike 25 = .ok (.invokestatic 49, 3) := by decide +kernel
theorem dX0_becomeLike_28 : decode cX0_becomeLike 28 = .ok (.aload_n 1, 1) := by decide +kernel
theorem dX0_becomeLike_29 : decode cX0_becomeLike 29 = .ok (.getfield 18, 3) := by decide +kernel
theorem dX0_becomeLike_32 : decode cX0_becomeLike 32 = .ok (.iconst 0, 1) := by decide +kernel
theorem dX0_becomeLike_33 : decode cX0_becomeLike 33 = .ok (.aload_n 0, 1) := by decide +kernel
theorem dX0_becomeLike_34 : decode cX0_becomeLike 34 = .ok (.getfield 18, 3) := by decide +kernel
theorem dX0_becomeLike_37 : decode cX0_becomeLike 37 = .ok (.iconst 0, 1) := by decide +kernel
theorem dX0_becomeLike_38 : decode cX0_becomeLike 38 = .ok (.iconst 5, 1) := by decide +kernel
theorem dX0_becomeLike_39 : decode cX0_becomeLike 39 = .ok (.invokestatic 49, 3) := by decide +kernel
theorem dX0_becomeLike_42 : decode cX0_becomeLike 42 = .ok (.aload_n 0, 1) := by decide +kernel
theorem dX0_becomeLike_43 : decode cX0_becomeLike 43 = .ok (.aload_n 1, 1) := by decide +kernel
theorem dX0_becomeLike_44 : decode cX0_becomeLike 44 = .ok (.getfield 28, 3) := by decide +kernel
theorem dX0_becomeLike_47 : decode cX0_becomeLike 47 = .ok (.putfield 28, 3) := by decide +kernel
theorem dX0_becomeLike_50 : decode cX0_becomeLike 50 = .ok (.aload_n 0, 1) := by decide +kernel
theorem dX0_becomeLike_51 : decode cX0_becomeLike 51 = .ok (.aload_n 1, 1) := by decide +kernel
theorem dX0_becomeLike_52 : decode cX0_becomeLike 52 = .ok (.getfield 31, 3) := by decide +kernel
theorem dX0_becomeLike_55 : decode cX0_becomeLike 55 = .ok (.putfield 31, 3) := by decide +kernel
theorem dX0_becomeLike_58 : decode cX0_becomeLike 58 = .ok (.aload_n 0, 1) := by decide +kernel
theorem dX0_becomeLike_59 : decode cX0_becomeLike 59 = .ok (.aload_n 1, 1) := by decide +kernel
theorem dX0_becomeLike_60 : decode cX0_becomeLike 60 = .ok (.getfield 24, 3) := by decide +kernel
theorem dX0_becomeLike_63 : decode cX0_becomeLike 63 = .ok (.putfield 24, 3) := by decide +kernel
theorem dX0_becomeLike_66 : decode cX0_becomeLike 66 = .ok (.aload_n 0, 1) := by decide +kernel
theorem dX0_becomeLike_67 : decode cX0_becomeLike 67 = .ok (.aload_n 1, 1) := by decide +kernel
theorem dX0_becomeLike_68 : decode cX0_becomeLike 68 = .ok (.getfield 34, 3) := by decide +kernel
theorem dX0_becomeLike_71 : decode cX0_becomeLike 71 = .ok (.putfield 34, 3) := by decide +kernel
theorem dX0_becomeLike_74 : decode cX0_becomeLike 74 = .ok (.aload_n 0, 1) := by decide +kernel
theorem dX0_becomeLike_75 : decode cX0_becomeLike 75 = .ok (.aload_n 1, 1) := by decide +kernel
theorem dX0_becomeLike_76 : decode cX0_becomeLike 76 = .ok (.getfield 37, 3) := by decide +kernel
theorem dX0_becomeLike_79 : decode cX0_becomeLike 79 = .ok (.putfield 37, 3) := by decide +kernel
theorem dX0_becomeLike_82 : decode cX0_becomeLike 82 = .ok (.aload_n 0, 1) := by decide +kernel
theorem dX0_becomeLike_83 : decode cX0_becomeLike 83 = .ok (.aload_n 1, 1) := by decide +kernel
theorem dX0_becomeLike_84 : decode cX0_becomeLike 84 = .ok (.getfield 40, 3) := by decide +kernel
theorem dX0_becomeLike_87 : decode cX0_becomeLike 87 = .ok (.putfield 40, 3) := by decide +kernel
theorem dX0_becomeLike_90 : decode cX0_becomeLike 90 = .ok (.aload_n 0, 1) := by decide +kernel
theorem dX0_becomeLike_91 : decode cX0_becomeLike 91 = .ok (.aload_n 1, 1) := by decide +kernel
theorem dX0_becomeLike_92 : decode cX0_becomeLike 92 = .ok (.getfield 43, 3) := by decide +kernel
theorem dX0_becomeLike_95 : decode cX0_becomeLike 95 = .ok (.putfield 43, 3) := by decide +kernel
theorem dX0_becomeLike_98 : decode cX0_becomeLike 98 = .ok (.aload_n 0, 1) := by decide +kernel
theorem dX0_becomeLike_99 : decode cX0_becomeLike 99 = .ok (.aload_n 1, 1) := by decide +kernel
theorem dX0_becomeLike_100 : decode cX0_becomeLike 100 = .ok (.getfield 46, 3) := by decide +kernel
theorem dX0_becomeLike_103 : decode cX0_becomeLike 103 = .ok (.putfield 46, 3) := by decide +kernel
theorem dX0_becomeLike_106 : decode cX0_becomeLike 106 = .ok (.return_, 1) := by decide +kernel
theorem dX0_forgetLoss_0 : decode cX0_forgetLoss 0 = .ok (.aload_n 0, 1) := by decide +kernel
theorem dX0_forgetLoss_1 : decode cX0_forgetLoss 1 = .ok (.iconst 0, 1) := by decide +kernel
theorem dX0_forgetLoss_2 : decode cX0_forgetLoss 2 = .ok (.putfield 43, 3) := by decide +kernel
theorem dX0_forgetLoss_5 : decode cX0_forgetLoss 5 = .ok (.aload_n 0, 1) := by decide +kernel
theorem dX0_forgetLoss_6 : decode cX0_forgetLoss 6 = .ok (.iconst 0, 1) := by decide +kernel
theorem dX0_forgetLoss_7 : decode cX0_forgetLoss 7 = .ok (.putfield 46, 3) := by decide +kernel
theorem dX0_forgetLoss_10 : decode cX0_forgetLoss 10 = .ok (.aload_n 0, 1) := by decide +kernel
theorem dX0_forgetLoss_11 : decode cX0_forgetLoss 11 = .ok (.getfield 21, 3) := by decide +kernel
theorem dX0_forgetLoss_14 : decode cX0_forgetLoss 14 = .ok (.iconst 0, 1) := by decide +kernel
theorem dX0_forgetLoss_15 : decode cX0_forgetLoss 15 = .ok (.invokestatic 55, 3) := by decide +kernel
theorem dX0_forgetLoss_18 : decode cX0_forgetLoss 18 = .ok (.return_, 1) := by decide +kernel
theorem dX0_loss_0 : decode cX0_loss 0 = .ok (.aload_n 0, 1) := by decide +kernel
theorem dX0_loss_1 : decode cX0_loss 1 = .ok (.getfield 43, 3) := by decide +kernel
theorem dX0_loss_4 : decode cX0_loss 4 = .ok (.aload_n 0, 1) := by decide +kernel
theorem dX0_loss_5 : decode cX0_loss 5 = .ok (.getfield 46, 3) := by decide +kernel
theorem dX0_loss_8 : decode cX0_loss 8 = .ok (.iadd, 1) := by decide +kernel
theorem dX0_loss_9 : decode cX0_loss 9 = .ok (.ireturn, 1) := by decide +kernel
theorem dX0_has_0 : decode cX0_has 0 = .ok (.iload_n 1, 1) := by decide +kernel
theorem dX0_has_1 : decode cX0_has 1 = .ok (.ifCond .lt 15, 3) := by decide +kernel
theorem dX0_has_4 : decode cX0_has 4 = .ok (.iload_n 1, 1) := by decide +kernel
theorem dX0_has_5 : decode cX0_has 5 = .ok (.aload_n 0, 1) := by decide +kernel
theorem dX0_has_6 : decode cX0_has 6 = .ok (.getfield 28, 3) := by decide +kernel
theorem dX0_has_9 : decode cX0_has 9 = .ok (.if_icmp .ge 7, 3) := by decide +kernel
theorem dX0_has_12 : decode cX0_has 12 = .ok (.iconst 1, 1) := by decide +kernel
theorem dX0_has_13 : decode cX0_has 13 = .ok (.goto 4, 3) := by decide +kernel
theorem dX0_has_16 : decode cX0_has 16 = .ok (.iconst 0, 1) := by decide +kernel
theorem dX0_has_17 : decode cX0_has 17 = .ok (.ireturn, 1) := by decide +kernel
theorem dX0_addHouse_0 : decode cX0_addHouse 0 = .ok (.aload_n 0, 1) := by decide +kernel
theorem dX0_addHouse_1 : decode cX0_addHouse 1 = .ok (.getfield 28, 3) := by decide +kernel
theorem dX0_addHouse_4 : decode cX0_addHouse 4 = .ok (.iconst 5, 1) := by decide +kernel
theorem dX0_addHouse_5 : decode cX0_addHouse 5 = .ok (.if_icmp .lt 4, 3) := by decide +kernel
theorem dX0_addHouse_8 : decode cX0_addHouse 8 = .ok (.return_, 1) := by decide +kernel
theorem dX0_addHouse_9 : decode cX0_addHouse 9 = .ok (.aload_n 0, 1) := by decide +kernel
theorem dX0_addHouse_10 : decode cX0_addHouse 10 = .ok (.getfield 9, 3) := by decide +kernel
theorem dX0_addHouse_13 : decode cX0_addHouse 13 = .ok (.aload_n 0, 1) := by decide +kernel
theorem dX0_addHouse_14 : decode cX0_addHouse 14 = .ok (.getfield 28, 3) := by decide +kernel
theorem dX0_addHouse_17 : decode cX0_addHouse 17 = .ok (.iload_n 1, 1) := by decide +kernel
theorem dX0_addHouse_18 : decode cX0_addHouse 18 = .ok (.iastore, 1) := by decide +kernel
theorem dX0_addHouse_19 : decode cX0_addHouse 19 = .ok (.aload_n 0, 1) := by decide +kernel
theorem dX0_addHouse_20 : decode cX0_addHouse 20 = .ok (.getfield 15, 3) := by decide +kernel
theorem dX0_addHouse_23 : decode cX0_addHouse 23 = .ok (.aload_n 0, 1) := by decide +kernel
theorem dX0_addHouse_24 : decode cX0_addHouse 24 = .ok (.getfield 28, 3) := by decide +kernel
theorem dX0_addHouse_27 : decode cX0_addHouse 27 = .ok (.iload_n 2, 1) := by decide +kernel
theorem dX0_addHouse_28 : decode cX0_addHouse 28 = .ok (.iastore, 1) := by decide +kernel
theorem dX0_addHouse_29 : decode cX0_addHouse 29 = .ok (.aload_n 0, 1) := by decide +kernel
theorem dX0_addHouse_30 : decode cX0_addHouse 30 = .ok (.getfield 18, 3) := by decide +kernel
theorem dX0_addHouse_33 : decode cX0_addHouse 33 = .ok (.aload_n 0, 1) := by decide +kernel
theorem dX0_addHouse_34 : decode cX0_addHouse 34 = .ok (.getfield 28, 3) := by decide +kernel
theorem dX0_addHouse_37 : decode cX0_addHouse 37 = .ok (.iconst 0, 1) := by decide +kernel
theorem dX0_addHouse_38 : decode cX0_addHouse 38 = .ok (.iastore, 1) := by decide +kernel
theorem dX0_addHouse_39 : decode cX0_addHouse 39 = .ok (.aload_n 0, 1) := by decide +kernel
theorem dX0_addHouse_40 : decode cX0_addHouse 40 = .ok (.dup, 1) := by decide +kernel
theorem dX0_addHouse_41 : decode cX0_addHouse 41 = .ok (.getfield 28, 3) := by decide +kernel
theorem dX0_addHouse_44 : decode cX0_addHouse 44 = .ok (.iconst 1, 1) := by decide +kernel
theorem dX0_addHouse_45 : decode cX0_addHouse 45 = .ok (.iadd, 1) := by decide +kernel
theorem dX0_addHouse_46 : decode cX0_addHouse 46 = .ok (.putfield 28, 3) := by decide +kernel
theorem dX0_addHouse_49 : decode cX0_addHouse 49 = .ok (.return_, 1) := by decide +kernel
theorem dX0_allWorth_0 : decode cX0_allWorth 0 = .ok (.iconst 0, 1) := by decide +kernel
theorem dX0_allWorth_1 : decode cX0_allWorth 1 = .ok (.istore_n 1, 1) := by decide +kernel
theorem dX0_allWorth_2 : decode cX0_allWorth 2 = .ok (.iconst 0, 1) := by decide +kernel
theorem dX0_allWorth_3 : decode cX0_allWorth 3 = .ok (.istore_n 2, 1) := by decide +kernel
theorem dX0_allWorth_4 : decode cX0_allWorth 4 = .ok (.iload_n 2, 1) := by decide +kernel
theorem dX0_allWorth_5 : decode cX0_allWorth 5 = .ok (.aload_n 0, 1) := by decide +kernel
theorem dX0_allWorth_6 : decode cX0_allWorth 6 = .ok (.getfield 28, 3) := by decide +kernel
theorem dX0_allWorth_9 : decode cX0_allWorth 9 = .ok (.if_icmp .ge 18, 3) := by decide +kernel
theorem dX0_allWorth_12 : decode cX0_allWorth 12 = .ok (.iload_n 1, 1) := by decide +kernel
theorem dX0_allWorth_13 : decode cX0_allWorth 13 = .ok (.aload_n 0, 1) := by decide +kernel
theorem dX0_allWorth_14 : decode cX0_allWorth 14 = .ok (.getfield 15, 3) := by decide +kernel
theorem dX0_allWorth_17 : decode cX0_allWorth 17 = .ok (.iload_n 2, 1) := by decide +kernel
theorem dX0_allWorth_18 : decode cX0_allWorth 18 = .ok (.iaload, 1) := by decide +kernel
theorem dX0_allWorth_19 : decode cX0_allWorth 19 = .ok (.iadd, 1) := by decide +kernel
theorem dX0_allWorth_20 : decode cX0_allWorth 20 = .ok (.istore_n 1, 1) := by decide +kernel
theorem dX0_allWorth_21 : decode cX0_allWorth 21 = .ok (.iinc 2 1, 3) := by decide +kernel
theorem dX0_allWorth_24 : decode cX0_allWorth 24 = .ok (.goto (-20), 3) := by decide +kernel
theorem dX0_allWorth_27 : decode cX0_allWorth 27 = .ok (.iload_n 1, 1) := by decide +kernel
theorem dX0_allWorth_28 : decode cX0_allWorth 28 = .ok (.ireturn, 1) := by decide +kernel
theorem dX0_allLost_0 : decode cX0_allLost 0 = .ok (.iconst 0, 1) := by decide +kernel
theorem dX0_allLost_1 : decode cX0_allLost 1 = .ok (.istore_n 1, 1) := by decide +kernel
theorem dX0_allLost_2 : decode cX0_allLost 2 = .ok (.iconst 0, 1) := by decide +kernel
theorem dX0_allLost_3 : decode cX0_allLost 3 = .ok (.istore_n 2, 1) := by decide +kernel
theorem dX0_allLost_4 : decode cX0_allLost 4 = .ok (.iload_n 2, 1) := by decide +kernel
theorem dX0_allLost_5 : decode cX0_allLost 5 = .ok (.aload_n 0, 1) := by decide +kernel
theorem dX0_allLost_6 : decode cX0_allLost 6 = .ok (.getfield 28, 3) := by decide +kernel
theorem dX0_allLost_9 : decode cX0_allLost 9 = .ok (.if_icmp .ge 18, 3) := by decide +kernel
theorem dX0_allLost_12 : decode cX0_allLost 12 = .ok (.iload_n 1, 1) := by decide +kernel
theorem dX0_allLost_13 : decode cX0_allLost 13 = .ok (.aload_n 0, 1) := by decide +kernel
theorem dX0_allLost_14 : decode cX0_allLost 14 = .ok (.getfield 18, 3) := by decide +kernel
theorem dX0_allLost_17 : decode cX0_allLost 17 = .ok (.iload_n 2, 1) := by decide +kernel
theorem dX0_allLost_18 : decode cX0_allLost 18 = .ok (.iaload, 1) := by decide +kernel
theorem dX0_allLost_19 : decode cX0_allLost 19 = .ok (.iadd, 1) := by decide +kernel
theorem dX0_allLost_20 : decode cX0_allLost 20 = .ok (.istore_n 1, 1) := by decide +kernel
theorem dX0_allLost_21 : decode cX0_allLost 21 = .ok (.iinc 2 1, 3) := by decide +kernel
theorem dX0_allLost_24 : decode cX0_allLost 24 = .ok (.goto (-20), 3) := by decide +kernel
theorem dX0_allLost_27 : decode cX0_allLost 27 = .ok (.iload_n 1, 1) := by decide +kernel
theorem dX0_allLost_28 : decode cX0_allLost 28 = .ok (.ireturn, 1) := by decide +kernel
theorem dX0_allKinds_0 : decode cX0_allKinds 0 = .ok (.iconst 1, 1) := by decide +kernel
theorem dX0_allKinds_1 : decode cX0_allKinds 1 = .ok (.iconst 2, 1) := by decide +kernel
theorem dX0_allKinds_2 : decode cX0_allKinds 2 = .ok (.aload_n 0, 1) := by decide +kernel
theorem dX0_allKinds_3 : decode cX0_allKinds 3 = .ok (.getfield 28, 3) := by decide +kernel
theorem dX0_allKinds_6 : decode cX0_allKinds 6 = .ok (.imul, 1) := by decide +kernel
theorem dX0_allKinds_7 : decode cX0_allKinds 7 = .ok (.ishl, 1) := by decide +kernel
theorem dX0_allKinds_8 : decode cX0_allKinds 8 = .ok (.ireturn, 1) := by decide +kernel
theorem dX0_kindBy_0 : decode cX0_kindBy 0 = .ok (.aload_n 0, 1) := by decide +kernel
theorem dX0_kindBy_1 : decode cX0_kindBy 1 = .ok (.iload_n 2, 1) := by decide +kernel
theorem dX0_kindBy_2 : decode cX0_kindBy 2 = .ok (.invokevirtual 61, 3) := by decide +kernel
theorem dX0_kindBy_5 : decode cX0_kindBy 5 = .ok (.ifCond .eq 20, 3) := by decide +kernel
theorem dX0_kindBy_8 : decode cX0_kindBy 8 = .ok (.iload_n 1, 1) := by decide +kernel
theorem dX0_kindBy_9 : decode cX0_kindBy 9 = .ok (.iconst 2, 1) := by decide +kernel
theorem dX0_kindBy_10 : decode cX0_kindBy 10 = .ok (.aload_n 0, 1) := by decide +kernel
theorem dX0_kindBy_11 : decode cX0_kindBy 11 = .ok (.getfield 28, 3) := by decide +kernel
theorem dX0_kindBy_14 : decode cX0_kindBy 14 = .ok (.iconst 1, 1) := by decide +kernel
theorem dX0_kindBy_15 : decode cX0_kindBy 15 = .ok (.isub, 1) := by decide +kernel
theorem dX0_kindBy_16 : decode cX0_kindBy 16 = .ok (.iload_n 2, 1) := by decide +kernel
theorem dX0_kindBy_17 : decode cX0_kindBy 17 = .ok (.isub, 1) := by decide +kernel
theorem dX0_kindBy_18 : decode cX0_kindBy 18 = .ok (.imul, 1) := by decide +kernel
theorem dX0_kindBy_19 : decode cX0_kindBy 19 = .ok (.ishr, 1) := by decide +kernel
theorem dX0_kindBy_20 : decode cX0_kindBy 20 = .ok (.iconst 3, 1) := by decide +kernel
theorem dX0_kindBy_21 : decode cX0_kindBy 21 = .ok (.iand, 1) := by decide +kernel
theorem dX0_kindBy_22 : decode cX0_kindBy 22 = .ok (.goto 4, 3) := by decide +kernel
theorem dX0_kindBy_25 : decode cX0_kindBy 25 = .ok (.iconst 0, 1) := by decide +kernel
theorem dX0_kindBy_26 : decode cX0_kindBy 26 = .ok (.ireturn, 1) := by decide +kernel
theorem dX0_putKinds_0 : decode cX0_putKinds 0 = .ok (.iconst 0, 1) := by decide +kernel
theorem dX0_putKinds_1 : decode cX0_putKinds 1 = .ok (.istore_n 2, 1) := by decide +kernel
theorem dX0_putKinds_2 : decode cX0_putKinds 2 = .ok (.iload_n 2, 1) := by decide +kernel
theorem dX0_putKinds_3 : decode cX0_putKinds 3 = .ok (.aload_n 0, 1) := by decide +kernel
theorem dX0_putKinds_4 : decode cX0_putKinds 4 = .ok (.getfield 28, 3) := by decide +kernel
theorem dX0_putKinds_7 : decode cX0_putKinds 7 = .ok (.if_icmp .ge 21, 3) := by decide +kernel
theorem dX0_putKinds_10 : decode cX0_putKinds 10 = .ok (.aload_n 0, 1) := by decide +kernel
theorem dX0_putKinds_11 : decode cX0_putKinds 11 = .ok (.getfield 9, 3) := by decide +kernel
theorem dX0_putKinds_14 : decode cX0_putKinds 14 = .ok (.iload_n 2, 1) := by decide +kernel
theorem dX0_putKinds_15 : decode cX0_putKinds 15 = .ok (.aload_n 0, 1) := by decide +kernel
theorem dX0_putKinds_16 : decode cX0_putKinds 16 = .ok (.iload_n 1, 1) := by decide +kernel
theorem dX0_putKinds_17 : decode cX0_putKinds 17 = .ok (.iload_n 2, 1) := by decide +kernel
theorem dX0_putKinds_18 : decode cX0_putKinds 18 = .ok (.invokevirtual 65, 3) := by decide +kernel
theorem dX0_putKinds_21 : decode cX0_putKinds 21 = .ok (.iastore, 1) := by decide +kernel
theorem dX0_putKinds_22 : decode cX0_putKinds 22 = .ok (.iinc 2 1, 3) := by decide +kernel
theorem dX0_putKinds_25 : decode cX0_putKinds 25 = .ok (.goto (-23), 3) := by decide +kernel
theorem dX0_putKinds_28 : decode cX0_putKinds 28 = .ok (.return_, 1) := by decide +kernel
theorem dX0_putKind_0 : decode cX0_putKind 0 = .ok (.aload_n 0, 1) := by decide +kernel
theorem dX0_putKind_1 : decode cX0_putKind 1 = .ok (.iload_n 1, 1) := by decide +kernel
theorem dX0_putKind_2 : decode cX0_putKind 2 = .ok (.invokevirtual 61, 3) := by decide +kernel
theorem dX0_putKind_5 : decode cX0_putKind 5 = .ok (.ifCond .eq 10, 3) := by decide +kernel
theorem dX0_putKind_8 : decode cX0_putKind 8 = .ok (.aload_n 0, 1) := by decide +kernel
theorem dX0_putKind_9 : decode cX0_putKind 9 = .ok (.getfield 9, 3) := by decide +kernel
theorem dX0_putKind_12 : decode cX0_putKind 12 = .ok (.iload_n 1, 1) := by decide +kernel
theorem dX0_putKind_13 : decode cX0_putKind 13 = .ok (.iload_n 2, 1) := by decide +kernel
theorem dX0_putKind_14 : decode cX0_putKind 14 = .ok (.iastore, 1) := by decide +kernel
theorem dX0_putKind_15 : decode cX0_putKind 15 = .ok (.return_, 1) := by decide +kernel
theorem dX0_putKindIn_0 : decode cX0_putKindIn 0 = .ok (.iconst 0, 1) := by decide +kernel
theorem dX0_putKindIn_1 : decode cX0_putKindIn 1 = .ok (.istore_n 3, 1) := by decide +kernel
theorem dX0_putKindIn_2 : decode cX0_putKindIn 2 = .ok (.iload_n 3, 1) := by decide +kernel
theorem dX0_putKindIn_3 : decode cX0_putKindIn 3 = .ok (.aload_n 0, 1) := by decide +kernel
theorem dX0_putKindIn_4 : decode cX0_putKindIn 4 = .ok (.getfield 28, 3) := by decide +kernel
theorem dX0_putKindIn_7 : decode cX0_putKindIn 7 = .ok (.if_icmp .ge 25, 3) := by decide +kernel
theorem dX0_putKindIn_10 : decode cX0_putKindIn 10 = .ok (.iload_n 1, 1) := by decide +kernel
theorem dX0_putKindIn_11 : decode cX0_putKindIn 11 = .ok (.iload_n 3, 1) := by decide +kernel
theorem dX0_putKindIn_12 : decode cX0_putKindIn 12 = .ok (.ishr, 1) := by decide +kernel
theorem dX0_putKindIn_13 : decode cX0_putKindIn 13 = .ok (.iconst 1, 1) := by decide +kernel
theorem dX0_putKindIn_14 : decode cX0_putKindIn 14 = .ok (.iand, 1) := by decide +kernel
theorem dX0_putKindIn_15 : decode cX0_putKindIn 15 = .ok (.iconst 1, 1) := by decide +kernel
theorem dX0_putKindIn_16 : decode cX0_putKindIn 16 = .ok (.if_icmp .ne 10, 3) := by decide +kernel
theorem dX0_putKindIn_19 : decode cX0_putKindIn 19 = .ok (.aload_n 0, 1) := by decide +kernel
theorem dX0_putKindIn_20 : decode cX0_putKindIn 20 = .ok (.getfield 9, 3) := by decide +kernel
theorem dX0_putKindIn_23 : decode cX0_putKindIn 23 = .ok (.iload_n 3, 1) := by decide +kernel
theorem dX0_putKindIn_24 : decode cX0_putKindIn 24 = .ok (.iload_n 2, 1) := by decide +kernel
theorem dX0_putKindIn_25 : decode cX0_putKindIn 25 = .ok (.iastore, 1) := by decide +kernel
theorem dX0_putKindIn_26 : decode cX0_putKindIn 26 = .ok (.iinc 3 1, 3) := by decide +kernel
theorem dX0_putKindIn_29 : decode cX0_putKindIn 29 = .ok (.goto (-27), 3) := by decide +kernel
theorem dX0_putKindIn_32 : decode cX0_putKindIn 32 = .ok (.return_, 1) := by decide +kernel
theorem dX0_giveAhead_0 : decode cX0_giveAhead 0 = .ok (.aload_n 0, 1) := by decide +kernel
theorem dX0_giveAhead_1 : decode cX0_giveAhead 1 = .ok (.iload_n 1, 1) := by decide +kernel
theorem dX0_giveAhead_2 : decode cX0_giveAhead 2 = .ok (.invokevirtual 61, 3) := by decide +kernel
theorem dX0_giveAhead_5 : decode cX0_giveAhead 5 = .ok (.ifCond .eq 13, 3) := by decide +kernel
theorem dX0_giveAhead_8 : decode cX0_giveAhead 8 = .ok (.iload_n 2, 1) := by decide +kernel
theorem dX0_giveAhead_9 : decode cX0_giveAhead 9 = .ok (.iconst 1, 1) := by decide +kernel
theorem dX0_giveAhead_10 : decode cX0_giveAhead 10 = .ok (.bipush 20, 2) := by decide +kernel
theorem dX0_giveAhead_12 : decode cX0_giveAhead 12 = .ok (.invokestatic 69, 3) := by decide +kernel
theorem dX0_giveAhead_15 : decode cX0_giveAhead 15 = .ok (.ifCond .eq 5, 3) := by decide +kernel
theorem dX0_giveAhead_18 : decode cX0_giveAhead 18 = .ok (.iconst (-1), 1) := by decide +kernel
theorem dX0_giveAhead_19 : decode cX0_giveAhead 19 = .ok (.ireturn, 1) := by decide +kernel
theorem dX0_giveAhead_20 : decode cX0_giveAhead 20 = .ok (.aload_n 0, 1) := by decide +kernel
theorem dX0_giveAhead_21 : decode cX0_giveAhead 21 = .ok (.getfield 15, 3) := by decide +kernel
theorem dX0_giveAhead_24 : decode cX0_giveAhead 24 = .ok (.iload_n 1, 1) := by decide +kernel
theorem dX0_giveAhead_25 : decode cX0_giveAhead 25 = .ok (.iaload, 1) := by decide +kernel
theorem dX0_giveAhead_26 : decode cX0_giveAhead 26 = .ok (.iload_n 2, 1) := by decide +kernel
theorem dX0_giveAhead_27 : decode cX0_giveAhead 27 = .ok (.if_icmp .ge 6, 3) := by decide +kernel
theorem dX0_giveAhead_30 : decode cX0_giveAhead 30 = .ok (.bipush (-2), 2) := by decide +kernel
theorem dX0_giveAhead_32 : decode cX0_giveAhead 32 = .ok (.ireturn, 1) := by decide +kernel
theorem dX0_giveAhead_33 : decode cX0_giveAhead 33 = .ok (.aload_n 0, 1) := by decide +kernel
theorem dX0_giveAhead_34 : decode cX0_giveAhead 34 = .ok (.iload_n 1, 1) := by decide +kernel
theorem dX0_giveAhead_35 : decode cX0_giveAhead 35 = .ok (.iload_n 2, 1) := by decide +kernel
theorem dX0_giveAhead_36 : decode cX0_giveAhead 36 = .ok (.invokevirtual 73, 3) := by decide +kernel
theorem dX0_giveAhead_39 : decode cX0_giveAhead 39 = .ok (.aload_n 0, 1) := by decide +kernel
theorem dX0_giveAhead_40 : decode cX0_giveAhead 40 = .ok (.getfield 24, 3) := by decide +kernel
theorem dX0_giveAhead_43 : decode cX0_giveAhead 43 = .ok (.ireturn, 1) := by decide +kernel
theorem dX0_passNights_0 : decode cX0_passNights 0 = .ok (.iconst 0, 1) := by decide +kernel
theorem dX0_passNights_1 : decode cX0_passNights 1 = .ok (.istore_n 2, 1) := by decide +kernel
theorem dX0_passNights_2 : decode cX0_passNights 2 = .ok (.iload_n 2, 1) := by decide +kernel
theorem dX0_passNights_3 : decode cX0_passNights 3 = .ok (.iload_n 1, 1) := by decide +kernel
theorem dX0_passNights_4 : decode cX0_passNights 4 = .ok (.if_icmp .ge 13, 3) := by decide +kernel
theorem dX0_passNights_7 : decode cX0_passNights 7 = .ok (.aload_n 0, 1) := by decide +kernel
theorem dX0_passNights_8 : decode cX0_passNights 8 = .ok (.invokevirtual 77, 3) := by decide +kernel
theorem dX0_passNights_11 : decode cX0_passNights 11 = .ok (.iinc 2 1, 3) := by decide +kernel
theorem dX0_passNights_14 : decode cX0_passNights 14 = .ok (.goto (-12), 3) := by decide +kernel
theorem dX0_passNights_17 : decode cX0_passNights 17 = .ok (.return_, 1) := by decide +kernel
theorem dX0_passNight_0 : decode cX0_passNight 0 = .ok (.aload_n 0, 1) := by decide +kernel
theorem dX0_passNight_1 : decode cX0_passNight 1 = .ok (.getfield 37, 3) := by decide +kernel
theorem dX0_passNight_4 : decode cX0_passNight 4 = .ok (.aload_n 0, 1) := by decide +kernel
theorem dX0_passNight_5 : decode cX0_passNight 5 = .ok (.getfield 40, 3) := by decide +kernel
theorem dX0_passNight_8 : decode cX0_passNight 8 = .ok (.bipush 7, 2) := by decide +kernel
theorem dX0_passNight_10 : decode cX0_passNight 10 = .ok (.irem, 1) := by decide +kernel
theorem dX0_passNight_11 : decode cX0_passNight 11 = .ok (.ishr, 1) := by decide +kernel
theorem dX0_passNight_12 : decode cX0_passNight 12 = .ok (.iconst 1, 1) := by decide +kernel
theorem dX0_passNight_13 : decode cX0_passNight 13 = .ok (.iand, 1) := by decide +kernel
theorem dX0_passNight_14 : decode cX0_passNight 14 = .ok (.ifCond .ne 7, 3) := by decide +kernel
theorem dX0_passNight_17 : decode cX0_passNight 17 = .ok (.aload_n 0, 1) := by decide +kernel
theorem dX0_passNight_18 : decode cX0_passNight 18 = .ok (.invokevirtual 80, 3) := by decide +kernel
theorem dX0_passNight_21 : decode cX0_passNight 21 = .ok (.aload_n 0, 1) := by decide +kernel
theorem dX0_passNight_22 : decode cX0_passNight 22 = .ok (.dup, 1) := by decide +kernel
theorem dX0_passNight_23 : decode cX0_passNight 23 = .ok (.getfield 40, 3) := by decide +kernel
theorem dX0_passNight_26 : decode cX0_passNight 26 = .ok (.iconst 1, 1) := by decide +kernel
theorem dX0_passNight_27 : decode cX0_passNight 27 = .ok (.iadd, 1) := by decide +kernel
theorem dX0_passNight_28 : decode cX0_passNight 28 = .ok (.putfield 40, 3) := by decide +kernel
theorem dX0_passNight_31 : decode cX0_passNight 31 = .ok (.return_, 1) := by decide +kernel
theorem dX0_ask_0 : decode cX0_ask 0 = .ok (.aload_n 0, 1) := by decide +kernel
theorem dX0_ask_1 : decode cX0_ask 1 = .ok (.aload_n 0, 1) := by decide +kernel
theorem dX0_ask_2 : decode cX0_ask 2 = .ok (.getfield 31, 3) := by decide +kernel
theorem dX0_ask_5 : decode cX0_ask 5 = .ok (.invokevirtual 61, 3) := by decide +kernel
theorem dX0_ask_8 : decode cX0_ask 8 = .ok (.ifCond .ne 4, 3) := by decide +kernel
theorem dX0_ask_11 : decode cX0_ask 11 = .ok (.return_, 1) := by decide +kernel
theorem dX0_ask_12 : decode cX0_ask 12 = .ok (.aload_n 0, 1) := by decide +kernel
theorem dX0_ask_13 : decode cX0_ask 13 = .ok (.getfield 31, 3) := by decide +kernel
theorem dX0_ask_16 : decode cX0_ask 16 = .ok (.iconst 1, 1) := by decide +kernel
theorem dX0_ask_17 : decode cX0_ask 17 = .ok (.iadd, 1) := by decide +kernel
theorem dX0_ask_18 : decode cX0_ask 18 = .ok (.aload_n 0, 1) := by decide +kernel
theorem dX0_ask_19 : decode cX0_ask 19 = .ok (.getfield 28, 3) := by decide +kernel
theorem dX0_ask_22 : decode cX0_ask 22 = .ok (.if_icmp .ge 12, 3) := by decide +kernel
theorem dX0_ask_25 : decode cX0_ask 25 = .ok (.aload_n 0, 1) := by decide +kernel
theorem dX0_ask_26 : decode cX0_ask 26 = .ok (.getfield 31, 3) := by decide +kernel
theorem dX0_ask_29 : decode cX0_ask 29 = .ok (.iconst 1, 1) := by decide +kernel
theorem dX0_ask_30 : decode cX0_ask 30 = .ok (.iadd, 1) := by decide +kernel
theorem dX0_ask_31 : decode cX0_ask 31 = .ok (.goto 4, 3) := by decide +kernel
theorem dX0_ask_34 : decode cX0_ask 34 = .ok (.iconst 0, 1) := by decide +kernel
theorem dX0_ask_35 : decode cX0_ask 35 = .ok (.istore_n 1, 1) := by decide +kernel
theorem dX0_ask_36 : decode cX0_ask 36 = .ok (.aload_n 0, 1) := by decide +kernel
theorem dX0_ask_37 : decode cX0_ask 37 = .ok (.getfield 9, 3) := by decide +kernel
theorem dX0_ask_40 : decode cX0_ask 40 = .ok (.aload_n 0, 1) := by decide +kernel
theorem dX0_ask_41 : decode cX0_ask 41 = .ok (.getfield 31, 3) := by decide +kernel
theorem dX0_ask_44 : decode cX0_ask 44 = .ok (.iaload, 1) := by decide +kernel
theorem dX0_ask_45 : decode cX0_ask 45 = .ok (.iconst 3, 1) := by decide +kernel
theorem dX0_ask_46 : decode cX0_ask 46 = .ok (.if_icmp .ne 19, 3) := by decide +kernel
theorem dX0_ask_49 : decode cX0_ask 49 = .ok (.aload_n 0, 1) := by decide +kernel
theorem dX0_ask_50 : decode cX0_ask 50 = .ok (.getfield 15, 3) := by decide +kernel
theorem dX0_ask_53 : decode cX0_ask 53 = .ok (.aload_n 0, 1) := by decide +kernel
theorem dX0_ask_54 : decode cX0_ask 54 = .ok (.getfield 31, 3) := by decide +kernel
theorem dX0_ask_57 : decode cX0_ask 57 = .ok (.iaload, 1) := by decide +kernel
theorem dX0_ask_58 : decode cX0_ask 58 = .ok (.ifCond .ne 7, 3) := by decide +kernel
theorem dX0_ask_61 : decode cX0_ask 61 = .ok (.iconst 0, 1) := by decide +kernel
theorem dX0_ask_62 : decode cX0_ask 62 = .ok (.goto 12, 3) := by decide +kernel
theorem dX0_ask_65 : decode cX0_ask 65 = .ok (.aload_n 0, 1) := by decide +kernel
theorem dX0_ask_66 : decode cX0_ask 66 = .ok (.getfield 9, 3) := by decide +kernel
theorem dX0_ask_69 : decode cX0_ask 69 = .ok (.aload_n 0, 1) := by decide +kernel
theorem dX0_ask_70 : decode cX0_ask 70 = .ok (.getfield 31, 3) := by decide +kernel
theorem dX0_ask_73 : decode cX0_ask 73 = .ok (.iaload, 1) := by decide +kernel
theorem dX0_ask_74 : decode cX0_ask 74 = .ok (.istore_n 2, 1) := by decide +kernel
theorem dX0_ask_75 : decode cX0_ask 75 = .ok (.iload_n 2, 1) := by decide +kernel
theorem dX0_ask_76 : decode cX0_ask 76 = .ok (.tableswitch 106 1 3 #[28, 56, 80], 28) := by decide +kernel
theorem dX0_ask_104 : decode cX0_ask 104 = .ok (.aload_n 0, 1) := by decide +kernel
theorem dX0_ask_105 : decode cX0_ask 105 = .ok (.aload_n 0, 1) := by decide +kernel
theorem dX0_ask_106 : decode cX0_ask 106 = .ok (.getfield 34, 3) := by decide +kernel
theorem dX0_ask_109 : decode cX0_ask 109 = .ok (.iconst 1, 1) := by decide +kernel
theorem dX0_ask_110 : decode cX0_ask 110 = .ok (.iadd, 1) := by decide +kernel
theorem dX0_ask_111 : decode cX0_ask 111 = .ok (.bipush 9, 2) := by decide +kernel
theorem dX0_ask_113 : decode cX0_ask 113 = .ok (.invokestatic 83, 3) := by decide +kernel
theorem dX0_ask_116 : decode cX0_ask 116 = .ok (.putfield 34, 3) := by decide +kernel
theorem dX0_ask_119 : decode cX0_ask 119 = .ok (.aload_n 0, 1) := by decide +kernel
theorem dX0_ask_120 : decode cX0_ask 120 = .ok (.iload_n 1, 1) := by decide +kernel
theorem dX0_ask_121 : decode cX0_ask 121 = .ok (.aload_n 0, 1) := by decide +kernel
theorem dX0_ask_122 : decode cX0_ask 122 = .ok (.getfield 34, 3) := by decide +kernel
theorem dX0_ask_125 : decode cX0_ask 125 = .ok (.invokevirtual 88, 3) := by decide +kernel
theorem dX0_ask_128 : decode cX0_ask 128 = .ok (.pop, 1) := by decide +kernel
theorem dX0_ask_129 : decode cX0_ask 129 = .ok (.goto 68, 3) := by decide +kernel
theorem dX0_ask_132 : decode cX0_ask 132 = .ok (.aload_n 0, 1) := by decide +kernel
theorem dX0_ask_133 : decode cX0_ask 133 = .ok (.dup, 1) := by decide +kernel
theorem dX0_ask_134 : decode cX0_ask 134 = .ok (.getfield 24, 3) := by decide +kernel
theorem dX0_ask_137 : decode cX0_ask 137 = .ok (.aload_n 0, 1) := by decide +kernel
theorem dX0_ask_138 : decode cX0_ask 138 = .ok (.aload_n 0, 1) := by decide +kernel
theorem dX0_ask_139 : decode cX0_ask 139 = .ok (.getfield 31, 3) := by decide +kernel
theorem dX0_ask_142 : decode cX0_ask 142 = .ok (.aload_n 0, 1) := by decide +kernel
theorem dX0_ask_143 : decode cX0_ask 143 = .ok (.getfield 24, 3) := by decide +kernel
theorem dX0_ask_146 : decode cX0_ask 146 = .ok (.invokevirtual 88, 3) := by decide +kernel
theorem dX0_ask_149 : decode cX0_ask 149 = .ok (.isub, 1) := by decide +kernel
theorem dX0_ask_150 : decode cX0_ask 150 = .ok (.putfield 24, 3) := by decide +kernel
theorem dX0_ask_153 : decode cX0_ask 153 = .ok (.goto 44, 3) := by decide +kernel
theorem dX0_ask_156 : decode cX0_ask 156 = .ok (.aload_n 0, 1) := by decide +kernel
theorem dX0_ask_157 : decode cX0_ask 157 = .ok (.aload_n 0, 1) := by decide +kernel
theorem dX0_ask_158 : decode cX0_ask 158 = .ok (.getfield 31, 3) := by decide +kernel
theorem dX0_ask_161 : decode cX0_ask 161 = .ok (.iconst 1, 1) := by decide +kernel
theorem dX0_ask_162 : decode cX0_ask 162 = .ok (.invokevirtual 73, 3) := by decide +kernel
theorem dX0_ask_165 : decode cX0_ask 165 = .ok (.aload_n 0, 1) := by decide +kernel
theorem dX0_ask_166 : decode cX0_ask 166 = .ok (.aload_n 0, 1) := by decide +kernel
theorem dX0_ask_167 : decode cX0_ask 167 = .ok (.getfield 34, 3) := by decide +kernel
theorem dX0_ask_170 : decode cX0_ask 170 = .ok (.iconst 1, 1) := by decide +kernel
theorem dX0_ask_171 : decode cX0_ask 171 = .ok (.isub, 1) := by decide +kernel
theorem dX0_ask_172 : decode cX0_ask 172 = .ok (.iconst 0, 1) := by decide +kernel
theorem dX0_ask_173 : decode cX0_ask 173 = .ok (.invokestatic 91, 3) := by decide +kernel
theorem dX0_ask_176 : decode cX0_ask 176 = .ok (.putfield 34, 3) := by decide +kernel
theorem dX0_ask_179 : decode cX0_ask 179 = .ok (.goto 18, 3) := by decide +kernel
theorem dX0_ask_182 : decode cX0_ask 182 = .ok (.aload_n 0, 1) := by decide +kernel
theorem dX0_ask_183 : decode cX0_ask 183 = .ok (.aload_n 0, 1) := by decide +kernel
theorem dX0_ask_184 : decode cX0_ask 184 = .ok (.getfield 24, 3) := by decide +kernel
theorem dX0_ask_187 : decode cX0_ask 187 = .ok (.iconst 1, 1) := by decide +kernel
theorem dX0_ask_188 : decode cX0_ask 188 = .ok (.iadd, 1) := by decide +kernel
theorem dX0_ask_189 : decode cX0_ask 189 = .ok (.bipush 20, 2) := by decide +kernel
theorem dX0_ask_191 : decode cX0_ask 191 = .ok (.invokestatic 83, 3) := by decide +kernel
theorem dX0_ask_194 : decode cX0_ask 194 = .ok (.putfield 24, 3) := by decide +kernel
theorem dX0_ask_197 : decode cX0_ask 197 = .ok (.aload_n 0, 1) := by decide +kernel
theorem dX0_ask_198 : decode cX0_ask 198 = .ok (.iload_n 1, 1) := by decide +kernel
theorem dX0_ask_199 : decode cX0_ask 199 = .ok (.putfield 31, 3) := by decide +kernel
theorem dX0_ask_202 : decode cX0_ask 202 = .ok (.return_, 1) := by decide +kernel
theorem dX0_give_0 : decode cX0_give 0 = .ok (.aload_n 0, 1) := by decide +kernel
theorem dX0_give_1 : decode cX0_give 1 = .ok (.getfield 15, 3) := by decide +kernel
theorem dX0_give_4 : decode cX0_give 4 = .ok (.iload_n 1, 1) := by decide +kernel
theorem dX0_give_5 : decode cX0_give 5 = .ok (.dup2, 1) := by decide +kernel
theorem dX0_give_6 : decode cX0_give 6 = .ok (.iaload, 1) := by decide +kernel
theorem dX0_give_7 : decode cX0_give 7 = .ok (.iload_n 2, 1) := by decide +kernel
theorem dX0_give_8 : decode cX0_give 8 = .ok (.isub, 1) := by decide +kernel
theorem dX0_give_9 : decode cX0_give 9 = .ok (.iastore, 1) := by decide +kernel
theorem dX0_give_10 : decode cX0_give 10 = .ok (.aload_n 0, 1) := by decide +kernel
theorem dX0_give_11 : decode cX0_give 11 = .ok (.getfield 18, 3) := by decide +kernel
theorem dX0_give_14 : decode cX0_give 14 = .ok (.iload_n 1, 1) := by decide +kernel
theorem dX0_give_15 : decode cX0_give 15 = .ok (.dup2, 1) := by decide +kernel
theorem dX0_give_16 : decode cX0_give 16 = .ok (.iaload, 1) := by decide +kernel
theorem dX0_give_17 : decode cX0_give 17 = .ok (.iload_n 2, 1) := by decide +kernel
theorem dX0_give_18 : decode cX0_give 18 = .ok (.iadd, 1) := by decide +kernel
theorem dX0_give_19 : decode cX0_give 19 = .ok (.iastore, 1) := by decide +kernel
theorem dX0_give_20 : decode cX0_give 20 = .ok (.aload_n 0, 1) := by decide +kernel
theorem dX0_give_21 : decode cX0_give 21 = .ok (.dup, 1) := by decide +kernel
theorem dX0_give_22 : decode cX0_give 22 = .ok (.getfield 46, 3) := by decide +kernel
theorem dX0_give_25 : decode cX0_give 25 = .ok (.iload_n 2, 1) := by decide +kernel
theorem dX0_give_26 : decode cX0_give 26 = .ok (.iadd, 1) := by decide +kernel
theorem dX0_give_27 : decode cX0_give 27 = .ok (.putfield 46, 3) := by decide +kernel
theorem dX0_give_30 : decode cX0_give 30 = .ok (.aload_n 0, 1) := by decide +kernel
theorem dX0_give_31 : decode cX0_give 31 = .ok (.aload_n 0, 1) := by decide +kernel
theorem dX0_give_32 : decode cX0_give 32 = .ok (.getfield 24, 3) := by decide +kernel
theorem dX0_give_35 : decode cX0_give 35 = .ok (.iload_n 2, 1) := by decide +kernel
theorem dX0_give_36 : decode cX0_give 36 = .ok (.isub, 1) := by decide +kernel
theorem dX0_give_37 : decode cX0_give 37 = .ok (.iconst 0, 1) := by decide +kernel
theorem dX0_give_38 : decode cX0_give 38 = .ok (.invokestatic 91, 3) := by decide +kernel
theorem dX0_give_41 : decode cX0_give 41 = .ok (.putfield 24, 3) := by decide +kernel
theorem dX0_give_44 : decode cX0_give 44 = .ok (.return_, 1) := by decide +kernel
theorem dX0_burn_0 : decode cX0_burn 0 = .ok (.iload_n 2, 1) := by decide +kernel
theorem dX0_burn_1 : decode cX0_burn 1 = .ok (.aload_n 0, 1) := by decide +kernel
theorem dX0_burn_2 : decode cX0_burn 2 = .ok (.getfield 15, 3) := by decide +kernel
theorem dX0_burn_5 : decode cX0_burn 5 = .ok (.iload_n 1, 1) := by decide +kernel
theorem dX0_burn_6 : decode cX0_burn 6 = .ok (.iaload, 1) := by decide +kernel
theorem dX0_burn_7 : decode cX0_burn 7 = .ok (.invokestatic 83, 3) := by decide +kernel
theorem dX0_burn_10 : decode cX0_burn 10 = .ok (.istore_n 3, 1) := by decide +kernel
theorem dX0_burn_11 : decode cX0_burn 11 = .ok (.aload_n 0, 1) := by decide +kernel
theorem dX0_burn_12 : decode cX0_burn 12 = .ok (.getfield 15, 3) := by decide +kernel
theorem dX0_burn_15 : decode cX0_burn 15 = .ok (.iload_n 1, 1) := by decide +kernel
theorem dX0_burn_16 : decode cX0_burn 16 = .ok (.dup2, 1) := by decide +kernel
theorem dX0_burn_17 : decode cX0_burn 17 = .ok (.iaload, 1) := by decide +kernel
theorem dX0_burn_18 : decode cX0_burn 18 = .ok (.iload_n 3, 1) := by decide +kernel
theorem dX0_burn_19 : decode cX0_burn 19 = .ok (.isub, 1) := by decide +kernel
theorem dX0_burn_20 : decode cX0_burn 20 = .ok (.iastore, 1) := by decide +kernel
theorem dX0_burn_21 : decode cX0_burn 21 = .ok (.aload_n 0, 1) := by decide +kernel
theorem dX0_burn_22 : decode cX0_burn 22 = .ok (.getfield 18, 3) := by decide +kernel
theorem dX0_burn_25 : decode cX0_burn 25 = .ok (.iload_n 1, 1) := by decide +kernel
theorem dX0_burn_26 : decode cX0_burn 26 = .ok (.dup2, 1) := by decide +kernel
theorem dX0_burn_27 : decode cX0_burn 27 = .ok (.iaload, 1) := by decide +kernel
theorem dX0_burn_28 : decode cX0_burn 28 = .ok (.iload_n 3, 1) := by decide +kernel
theorem dX0_burn_29 : decode cX0_burn 29 = .ok (.iadd, 1) := by decide +kernel
theorem dX0_burn_30 : decode cX0_burn 30 = .ok (.iastore, 1) := by decide +kernel
theorem dX0_burn_31 : decode cX0_burn 31 = .ok (.aload_n 0, 1) := by decide +kernel
theorem dX0_burn_32 : decode cX0_burn 32 = .ok (.getfield 21, 3) := by decide +kernel
theorem dX0_burn_35 : decode cX0_burn 35 = .ok (.iload_n 1, 1) := by decide +kernel
theorem dX0_burn_36 : decode cX0_burn 36 = .ok (.dup2, 1) := by decide +kernel
theorem dX0_burn_37 : decode cX0_burn 37 = .ok (.iaload, 1) := by decide +kernel
theorem dX0_burn_38 : decode cX0_burn 38 = .ok (.iload_n 3, 1) := by decide +kernel
theorem dX0_burn_39 : decode cX0_burn 39 = .ok (.iadd, 1) := by decide +kernel
theorem dX0_burn_40 : decode cX0_burn 40 = .ok (.iastore, 1) := by decide +kernel
theorem dX0_burn_41 : decode cX0_burn 41 = .ok (.aload_n 0, 1) := by decide +kernel
theorem dX0_burn_42 : decode cX0_burn 42 = .ok (.dup, 1) := by decide +kernel
theorem dX0_burn_43 : decode cX0_burn 43 = .ok (.getfield 43, 3) := by decide +kernel
theorem dX0_burn_46 : decode cX0_burn 46 = .ok (.iload_n 3, 1) := by decide +kernel
theorem dX0_burn_47 : decode cX0_burn 47 = .ok (.iadd, 1) := by decide +kernel
theorem dX0_burn_48 : decode cX0_burn 48 = .ok (.putfield 43, 3) := by decide +kernel
theorem dX0_burn_51 : decode cX0_burn 51 = .ok (.iload_n 3, 1) := by decide +kernel
theorem dX0_burn_52 : decode cX0_burn 52 = .ok (.ireturn, 1) := by decide +kernel
theorem dX1_init_0 : decode cX1_init 0 = .ok (.aload_n 0, 1) := by decide +kernel
theorem dX1_init_1 : decode cX1_init 1 = .ok (.invokespecial 1, 3) := by decide +kernel
theorem dX1_init_4 : decode cX1_init 4 = .ok (.aload_n 0, 1) := by decide +kernel
theorem dX1_init_5 : decode cX1_init 5 = .ok (.new 7, 3) := by decide +kernel
theorem dX1_init_8 : decode cX1_init 8 = .ok (.dup, 1) := by decide +kernel
theorem dX1_init_9 : decode cX1_init 9 = .ok (.invokespecial 9, 3) := by decide +kernel
theorem dX1_init_12 : decode cX1_init 12 = .ok (.putfield 10, 3) := by decide +kernel
theorem dX1_init_15 : decode cX1_init 15 = .ok (.aload_n 0, 1) := by decide +kernel
theorem dX1_init_16 : decode cX1_init 16 = .ok (.new 16, 3) := by decide +kernel
theorem dX1_init_19 : decode cX1_init 19 = .ok (.dup, 1) := by decide +kernel
theorem dX1_init_20 : decode cX1_init 20 = .ok (.invokespecial 18, 3) := by decide +kernel
theorem dX1_init_23 : decode cX1_init 23 = .ok (.putfield 19, 3) := by decide +kernel
theorem dX1_init_26 : decode cX1_init 26 = .ok (.return_, 1) := by decide +kernel
theorem dX2_init_0 : decode cX2_init 0 = .ok (.aload_n 0, 1) := by decide +kernel
theorem dX2_init_1 : decode cX2_init 1 = .ok (.invokespecial 3, 3) := by decide +kernel
theorem dX2_init_4 : decode cX2_init 4 = .ok (.aload_n 0, 1) := by decide +kernel
theorem dX2_init_5 : decode cX2_init 5 = .ok (.bipush 40, 2) := by decide +kernel
theorem dX2_init_7 : decode cX2_init 7 = .ok (.newarray .int, 2) := by decide +kernel
theorem dX2_init_9 : decode cX2_init 9 = .ok (.putfield 9, 3) := by decide +kernel
theorem dX2_init_12 : decode cX2_init 12 = .ok (.return_, 1) := by decide +kernel
theorem dX2_renew_0 : decode cX2_renew 0 = .ok (.aload_n 0, 1) := by decide +kernel
theorem dX2_renew_1 : decode cX2_renew 1 = .ok (.getfield 9, 3) := by decide +kernel
theorem dX2_renew_4 : decode cX2_renew 4 = .ok (.iconst 0, 1) := by decide +kernel
theorem dX2_renew_5 : decode cX2_renew 5 = .ok (.invokestatic 15, 3) := by decide +kernel
theorem dX2_renew_8 : decode cX2_renew 8 = .ok (.aload_n 0, 1) := by decide +kernel
theorem dX2_renew_9 : decode cX2_renew 9 = .ok (.iconst 1, 1) := by decide +kernel
theorem dX2_renew_10 : decode cX2_renew 10 = .ok (.putfield 21, 3) := by decide +kernel
theorem dX2_renew_13 : decode cX2_renew 13 = .ok (.aload_n 0, 1) := by decide +kernel
theorem dX2_renew_14 : decode cX2_renew 14 = .ok (.iload_n 1, 1) := by decide +kernel
theorem dX2_renew_15 : decode cX2_renew 15 = .ok (.putfield 25, 3) := by decide +kernel
theorem dX2_renew_18 : decode cX2_renew 18 = .ok (.aload_n 0, 1) := by decide +kernel
theorem dX2_renew_19 : decode cX2_renew 19 = .ok (.iload_n 2, 1) := by decide +kernel
theorem dX2_renew_20 : decode cX2_renew 20 = .ok (.putfield 29, 3) := by decide +kernel
theorem dX2_renew_23 : decode cX2_renew 23 = .ok (.return_, 1) := by decide +kernel
theorem dX2_tearAt_0 : decode cX2_tearAt 0 = .ok (.aload_n 0, 1) := by decide +kernel
theorem dX2_tearAt_1 : decode cX2_tearAt 1 = .ok (.getfield 21, 3) := by decide +kernel
theorem dX2_tearAt_4 : decode cX2_tearAt 4 = .ok (.ifCond .ne 5, 3) := by decide +kernel
theorem dX2_tearAt_7 : decode cX2_tearAt 7 = .ok (.iconst 1, 1) := by decide +kernel
theorem dX2_tearAt_8 : decode cX2_tearAt 8 = .ok (.ireturn, 1) := by decide +kernel
theorem dX2_tearAt_9 : decode cX2_tearAt 9 = .ok (.aload_n 0, 1) := by decide +kernel
theorem dX2_tearAt_10 : decode cX2_tearAt 10 = .ok (.getfield 25, 3) := by decide +kernel
theorem dX2_tearAt_13 : decode cX2_tearAt 13 = .ok (.iload_n 1, 1) := by decide +kernel
theorem dX2_tearAt_14 : decode cX2_tearAt 14 = .ok (.if_icmp .eq 5, 3) := by decide +kernel
theorem dX2_tearAt_17 : decode cX2_tearAt 17 = .ok (.iconst 3, 1) := by decide +kernel
theorem dX2_tearAt_18 : decode cX2_tearAt 18 = .ok (.ireturn, 1) := by decide +kernel
theorem dX2_tearAt_19 : decode cX2_tearAt 19 = .ok (.iload_n 2, 1) := by decide +kernel
theorem dX2_tearAt_20 : decode cX2_tearAt 20 = .ok (.iconst 0, 1) := by decide +kernel
theorem dX2_tearAt_21 : decode cX2_tearAt 21 = .ok (.aload_n 0, 1) := by decide +kernel
theorem dX2_tearAt_22 : decode cX2_tearAt 22 = .ok (.getfield 29, 3) := by decide +kernel
theorem dX2_tearAt_25 : decode cX2_tearAt 25 = .ok (.iconst 1, 1) := by decide +kernel
theorem dX2_tearAt_26 : decode cX2_tearAt 26 = .ok (.isub, 1) := by decide +kernel
theorem dX2_tearAt_27 : decode cX2_tearAt 27 = .ok (.invokestatic 32, 3) := by decide +kernel
theorem dX2_tearAt_30 : decode cX2_tearAt 30 = .ok (.ifCond .eq 7, 3) := by decide +kernel
theorem dX2_tearAt_33 : decode cX2_tearAt 33 = .ok (.iconst 2, 1) := by decide +kernel
theorem dX2_tearAt_34 : decode cX2_tearAt 34 = .ok (.goto 4, 3) := by decide +kernel
theorem dX2_tearAt_37 : decode cX2_tearAt 37 = .ok (.iconst 0, 1) := by decide +kernel
theorem dX2_tearAt_38 : decode cX2_tearAt 38 = .ok (.ireturn, 1) := by decide +kernel
theorem dX2_tearOfPair_0 : decode cX2_tearOfPair 0 = .ok (.aload_n 0, 1) := by decide +kernel
theorem dX2_tearOfPair_1 : decode cX2_tearOfPair 1 = .ok (.iload_n 1, 1) := by decide +kernel
theorem dX2_tearOfPair_2 : decode cX2_tearOfPair 2 = .ok (.iload_n 2, 1) := by decide +kernel
theorem dX2_tearOfPair_3 : decode cX2_tearOfPair 3 = .ok (.invokevirtual 36, 3) := by decide +kernel
theorem dX2_tearOfPair_6 : decode cX2_tearOfPair 6 = .ok (.istore_n 3, 1) := by decide +kernel
theorem dX2_tearOfPair_7 : decode cX2_tearOfPair 7 = .ok (.iload_n 3, 1) := by decide +kernel
theorem dX2_tearOfPair_8 : decode cX2_tearOfPair 8 = .ok (.ifCond .eq 7, 3) := by decide +kernel
theorem dX2_tearOfPair_11 : decode cX2_tearOfPair 11 = .ok (.iload_n 3, 1) := by decide +kernel
theorem dX2_tearOfPair_12 : decode cX2_tearOfPair 12 = .ok (.goto 11, 3) := by decide +kernel
theorem dX2_tearOfPair_15 : decode cX2_tearOfPair 15 = .ok (.aload_n 0, 1) := by decide +kernel
theorem dX2_tearOfPair_16 : decode cX2_tearOfPair 16 = .ok (.iload_n 1, 1) := by decide +kernel
theorem dX2_tearOfPair_17 : decode cX2_tearOfPair 17 = .ok (.iload_n 2, 1) := by decide +kernel
theorem dX2_tearOfPair_18 : decode cX2_tearOfPair 18 = .ok (.iconst 1, 1) := by decide +kernel
theorem dX2_tearOfPair_19 : decode cX2_tearOfPair 19 = .ok (.iadd, 1) := by decide +kernel
theorem dX2_tearOfPair_20 : decode cX2_tearOfPair 20 = .ok (.invokevirtual 36, 3) := by decide +kernel
theorem dX2_tearOfPair_23 : decode cX2_tearOfPair 23 = .ok (.ireturn, 1) := by decide +kernel
theorem dX2_cellAt_0 : decode cX2_cellAt 0 = .ok (.iload_n 1, 1) := by decide +kernel
theorem dX2_cellAt_1 : decode cX2_cellAt 1 = .ok (.iconst 0, 1) := by decide +kernel
theorem dX2_cellAt_2 : decode cX2_cellAt 2 = .ok (.bipush 39, 2) := by decide +kernel
theorem dX2_cellAt_4 : decode cX2_cellAt 4 = .ok (.invokestatic 32, 3) := by decide +kernel
theorem dX2_cellAt_7 : decode cX2_cellAt 7 = .ok (.ifCond .eq 7, 3) := by decide +kernel
theorem dX2_cellAt_10 : decode cX2_cellAt 10 = .ok (.iconst 0, 1) := by decide +kernel
theorem dX2_cellAt_11 : decode cX2_cellAt 11 = .ok (.goto 9, 3) := by decide +kernel
theorem dX2_cellAt_14 : decode cX2_cellAt 14 = .ok (.aload_n 0, 1) := by decide +kernel
theorem dX2_cellAt_15 : decode cX2_cellAt 15 = .ok (.getfield 9, 3) := by decide +kernel
theorem dX2_cellAt_18 : decode cX2_cellAt 18 = .ok (.iload_n 1, 1) := by decide +kernel
theorem dX2_cellAt_19 : decode cX2_cellAt 19 = .ok (.iaload, 1) := by decide +kernel
theorem dX2_cellAt_20 : decode cX2_cellAt 20 = .ok (.ireturn, 1) := by decide +kernel
theorem dX2_put_0 : decode cX2_put 0 = .ok (.iload_n 1, 1) := by decide +kernel
theorem dX2_put_1 : decode cX2_put 1 = .ok (.iconst 0, 1) := by decide +kernel
theorem dX2_put_2 : decode cX2_put 2 = .ok (.bipush 39, 2) := by decide +kernel
theorem dX2_put_4 : decode cX2_put 4 = .ok (.invokestatic 32, 3) := by decide +kernel
theorem dX2_put_7 : decode cX2_put 7 = .ok (.ifCond .eq 4, 3) := by decide +kernel
theorem dX2_put_10 : decode cX2_put 10 = .ok (.return_, 1) := by decide +kernel
theorem dX2_put_11 : decode cX2_put 11 = .ok (.aload_n 0, 1) := by decide +kernel
theorem dX2_put_12 : decode cX2_put 12 = .ok (.getfield 25, 3) := by decide +kernel
theorem dX2_put_15 : decode cX2_put 15 = .ok (.lookupswitch 47 #[(0, 25), (1, 36)], 25) := by decide +kernel
theorem dX2_put_40 : decode cX2_put 40 = .ok (.aload_n 0, 1) := by decide +kernel
theorem dX2_put_41 : decode cX2_put 41 = .ok (.getfield 9, 3) := by decide +kernel
theorem dX2_put_44 : decode cX2_put 44 = .ok (.iload_n 1, 1) := by decide +kernel
theorem dX2_put_45 : decode cX2_put 45 = .ok (.iload_n 2, 1) := by decide +kernel
theorem dX2_put_46 : decode cX2_put 46 = .ok (.i2b, 1) := by decide +kernel
theorem dX2_put_47 : decode cX2_put 47 = .ok (.iastore, 1) := by decide +kernel
theorem dX2_put_48 : decode cX2_put 48 = .ok (.goto 21, 3) := by decide +kernel
theorem dX2_put_51 : decode cX2_put 51 = .ok (.aload_n 0, 1) := by decide +kernel
theorem dX2_put_52 : decode cX2_put 52 = .ok (.getfield 9, 3) := by decide +kernel
theorem dX2_put_55 : decode cX2_put 55 = .ok (.iload_n 1, 1) := by decide +kernel
theorem dX2_put_56 : decode cX2_put 56 = .ok (.iload_n 2, 1) := by decide +kernel
theorem dX2_put_57 : decode cX2_put 57 = .ok (.i2s, 1) := by decide +kernel
theorem dX2_put_58 : decode cX2_put 58 = .ok (.iastore, 1) := by decide +kernel
theorem dX2_put_59 : decode cX2_put 59 = .ok (.goto 10, 3) := by decide +kernel
theorem dX2_put_62 : decode cX2_put 62 = .ok (.aload_n 0, 1) := by decide +kernel
theorem dX2_put_63 : decode cX2_put 63 = .ok (.getfield 9, 3) := by decide +kernel
theorem dX2_put_66 : decode cX2_put 66 = .ok (.iload_n 1, 1) := by decide +kernel
theorem dX2_put_67 : decode cX2_put 67 = .ok (.iload_n 2, 1) := by decide +kernel
theorem dX2_put_68 : decode cX2_put 68 = .ok (.iastore, 1) := by decide +kernel
theorem dX2_put_69 : decode cX2_put 69 = .ok (.return_, 1) := by decide +kernel
theorem dX3_init_0 : decode cX3_init 0 = .ok (.aload_n 0, 1) := by decide +kernel
theorem dX3_init_1 : decode cX3_init 1 = .ok (.invokespecial 3, 3) := by decide +kernel
theorem dX3_init_4 : decode cX3_init 4 = .ok (.aload_n 0, 1) := by decide +kernel
theorem dX3_init_5 : decode cX3_init 5 = .ok (.bipush 6, 2) := by decide +kernel
theorem dX3_init_7 : decode cX3_init 7 = .ok (.newarray .int, 2) := by decide +kernel
theorem dX3_init_9 : decode cX3_init 9 = .ok (.putfield 9, 3) := by decide +kernel
theorem dX3_init_12 : decode cX3_init 12 = .ok (.aload_n 0, 1) := by decide +kernel
theorem dX3_init_13 : decode cX3_init 13 = .ok (.bipush 6, 2) := by decide +kernel
theorem dX3_init_15 : decode cX3_init 15 = .ok (.newarray .int, 2) := by decide +kernel
theorem dX3_init_17 : decode cX3_init 17 = .ok (.putfield 15, 3) := by decide +kernel
theorem dX3_init_20 : decode cX3_init 20 = .ok (.aload_n 0, 1) := by decide +kernel
theorem dX3_init_21 : decode cX3_init 21 = .ok (.bipush 6, 2) := by decide +kernel
theorem dX3_init_23 : decode cX3_init 23 = .ok (.newarray .int, 2) := by decide +kernel
theorem dX3_init_25 : decode cX3_init 25 = .ok (.putfield 18, 3) := by decide +kernel
theorem dX3_init_28 : decode cX3_init 28 = .ok (.return_, 1) := by decide +kernel
theorem dX3_append_0 : decode cX3_append 0 = .ok (.aload_n 0, 1) := by decide +kernel
theorem dX3_append_1 : decode cX3_append 1 = .ok (.getfield 21, 3) := by decide +kernel
theorem dX3_append_4 : decode cX3_append 4 = .ok (.bipush 6, 2) := by decide +kernel
theorem dX3_append_6 : decode cX3_append 6 = .ok (.if_icmp .lt 5, 3) := by decide +kernel
theorem dX3_append_9 : decode cX3_append 9 = .ok (.iconst 0, 1) := by decide +kernel
theorem dX3_append_10 : decode cX3_append 10 = .ok (.ireturn, 1) := by decide +kernel
theorem dX3_append_11 : decode cX3_append 11 = .ok (.aload_n 0, 1) := by decide +kernel
theorem dX3_append_12 : decode cX3_append 12 = .ok (.getfield 9, 3) := by decide +kernel
theorem dX3_append_15 : decode cX3_append 15 = .ok (.aload_n 0, 1) := by decide +kernel
theorem dX3_append_16 : decode cX3_append 16 = .ok (.getfield 21, 3) := by decide +kernel
theorem dX3_append_19 : decode cX3_append 19 = .ok (.iload_n 1, 1) := by decide +kernel
theorem dX3_append_20 : decode cX3_append 20 = .ok (.iastore, 1) := by decide +kernel
theorem dX3_append_21 : decode cX3_append 21 = .ok (.aload_n 0, 1) := by decide +kernel
theorem dX3_append_22 : decode cX3_append 22 = .ok (.getfield 15, 3) := by decide +kernel
theorem dX3_append_25 : decode cX3_append 25 = .ok (.aload_n 0, 1) := by decide +kernel
theorem dX3_append_26 : decode cX3_append 26 = .ok (.getfield 21, 3) := by decide +kernel
theorem dX3_append_29 : decode cX3_append 29 = .ok (.iload_n 2, 1) := by decide +kernel
theorem dX3_append_30 : decode cX3_append 30 = .ok (.iastore, 1) := by decide +kernel
theorem dX3_append_31 : decode cX3_append 31 = .ok (.aload_n 0, 1) := by decide +kernel
theorem dX3_append_32 : decode cX3_append 32 = .ok (.getfield 18, 3) := by decide +kernel
theorem dX3_append_35 : decode cX3_append 35 = .ok (.aload_n 0, 1) := by decide +kernel
theorem dX3_append_36 : decode cX3_append 36 = .ok (.getfield 21, 3) := by decide +kernel
theorem dX3_append_39 : decode cX3_append 39 = .ok (.iload_n 3, 1) := by decide +kernel
theorem dX3_append_40 : decode cX3_append 40 = .ok (.iastore, 1) := by decide +kernel
theorem dX3_append_41 : decode cX3_append 41 = .ok (.aload_n 0, 1) := by decide +kernel
theorem dX3_append_42 : decode cX3_append 42 = .ok (.dup, 1) := by decide +kernel
theorem dX3_append_43 : decode cX3_append 43 = .ok (.getfield 21, 3) := by decide +kernel
theorem dX3_append_46 : decode cX3_append 46 = .ok (.iconst 1, 1) := by decide +kernel
theorem dX3_append_47 : decode cX3_append 47 = .ok (.iadd, 1) := by decide +kernel
theorem dX3_append_48 : decode cX3_append 48 = .ok (.putfield 21, 3) := by decide +kernel
theorem dX3_append_51 : decode cX3_append 51 = .ok (.iconst 1, 1) := by decide +kernel
theorem dX3_append_52 : decode cX3_append 52 = .ok (.ireturn, 1) := by decide +kernel
theorem dX3_becomeLike_0 : decode cX3_becomeLike 0 = .ok (.aload_n 1, 1) := by decide +kernel
theorem dX3_becomeLike_1 : decode cX3_becomeLike 1 = .ok (.getfield 9, 3) := by decide +kernel
theorem dX3_becomeLike_4 : decode cX3_becomeLike 4 = .ok (.iconst 0, 1) := by decide +kernel
theorem dX3_becomeLike_5 : decode cX3_becomeLike 5 = .ok (.aload_n 0, 1) := by decide +kernel
theorem dX3_becomeLike_6 : decode cX3_becomeLike 6 = .ok (.getfield 9, 3) := by decide +kernel
theorem dX3_becomeLike_9 : decode cX3_becomeLike 9 = .ok (.iconst 0, 1) := by decide +kernel
theorem dX3_becomeLike_10 : decode cX3_becomeLike 10 = .ok (.bipush 6, 2) := by decide +kernel
theorem dX3_becomeLike_12 : decode cX3_becomeLike 12 = .ok (.invokestatic 25, 3) := by decide +kernel
theorem dX3_becomeLike_15 : decode cX3_becomeLike 15 = .ok (.aload_n 1, 1) := by decide +kernel
theorem dX3_becomeLike_16 : decode cX3_becomeLike 16 = .ok (.getfield 15, 3) := by decide +kernel
theorem dX3_becomeLike_19 : decode cX3_becomeLike 19 = .ok (.iconst 0, 1) := by decide +kernel
theorem dX3_becomeLike_20 : decode cX3_becomeLike 20 = .ok (.aload_n 0, 1) := by decide +kernel
theorem dX3_becomeLike_21 : decode cX3_becomeLike 21 = .ok (.getfield 15, 3) := by decide +kernel
theorem dX3_becomeLike_24 : decode cX3_becomeLike 24 = .ok (.iconst 0, 1) := by decide +kernel
theorem dX3_becomeLike_25 : decode cX3_becomeLike 25 = .ok (.bipush 6, 2) := by decide +kernel
theorem dX3_becomeLike_27 : decode cX3_becomeLike 27 = .ok (.invokestatic 25, 3) := by decide +kernel
theorem dX3_becomeLike_30 : decode cX3_becomeLike 30 = .ok (.aload_n 1, 1) := by decide +kernel
theorem dX3_becomeLike_31 : decode cX3_becomeLike 31 = .ok (.getfield 18, 3) := by decide +kernel
theorem dX3_becomeLike_34 : decode cX3_becomeLike 34 = .ok (.iconst 0, 1) := by decide +kernel
theorem dX3_becomeLike_35 : decode cX3_becomeLike 35 = .ok (.aload_n 0, 1) := by decide +kernel
theorem dX3_becomeLike_36 : decode cX3_becomeLike 36 = .ok (.getfield 18, 3) := by decide +kernel
theorem dX3_becomeLike_39 : decode cX3_becomeLike 39 = .ok (.iconst 0, 1) := by decide +kernel
theorem dX3_becomeLike_40 : decode cX3_becomeLike 40 = .ok (.bipush 6, 2) := by decide +kernel
theorem dX3_becomeLike_42 : decode cX3_becomeLike 42 = .ok (.invokestatic 25, 3) := by decide +kernel
theorem dX3_becomeLike_45 : decode cX3_becomeLike 45 = .ok (.aload_n 0, 1) := by decide +kernel
theorem dX3_becomeLike_46 : decode cX3_becomeLike 46 = .ok (.aload_n 1, 1) := by decide +kernel
theorem dX3_becomeLike_47 : decode cX3_becomeLike 47 = .ok (.getfield 21, 3) := by decide +kernel
theorem dX3_becomeLike_50 : decode cX3_becomeLike 50 = .ok (.putfield 21, 3) := by decide +kernel
theorem dX3_becomeLike_53 : decode cX3_becomeLike 53 = .ok (.return_, 1) := by decide +kernel
theorem dX3_mostNights_0 : decode cX3_mostNights 0 = .ok (.iconst 0, 1) := by decide +kernel
theorem dX3_mostNights_1 : decode cX3_mostNights 1 = .ok (.istore_n 1, 1) := by decide +kernel
theorem dX3_mostNights_2 : decode cX3_mostNights 2 = .ok (.iconst 0, 1) := by decide +kernel
theorem dX3_mostNights_3 : decode cX3_mostNights 3 = .ok (.istore_n 2, 1) := by decide +kernel
theorem dX3_mostNights_4 : decode cX3_mostNights 4 = .ok (.iload_n 2, 1) := by decide +kernel
theorem dX3_mostNights_5 : decode cX3_mostNights 5 = .ok (.aload_n 0, 1) := by decide +kernel
theorem dX3_mostNights_6 : decode cX3_mostNights 6 = .ok (.getfield 21, 3) := by decide +kernel
theorem dX3_mostNights_9 : decode cX3_mostNights 9 = .ok (.if_icmp .ge 20, 3) := by decide +kernel
theorem dX3_mostNights_12 : decode cX3_mostNights 12 = .ok (.iload_n 1, 1) := by decide +kernel
theorem dX3_mostNights_13 : decode cX3_mostNights 13 = .ok (.aload_n 0, 1) := by decide +kernel
theorem dX3_mostNights_14 : decode cX3_mostNights 14 = .ok (.getfield 15, 3) := by decide +kernel
theorem dX3_mostNights_17 : decode cX3_mostNights 17 = .ok (.iload_n 2, 1) := by decide +kernel
theorem dX3_mostNights_18 : decode cX3_mostNights 18 = .ok (.iaload, 1) := by decide +kernel
theorem dX3_mostNights_19 : decode cX3_mostNights 19 = .ok (.invokestatic 31, 3) := by decide +kernel
theorem dX3_mostNights_22 : decode cX3_mostNights 22 = .ok (.istore_n 1, 1) := by decide +kernel
theorem dX3_mostNights_23 : decode cX3_mostNights 23 = .ok (.iinc 2 1, 3) := by decide +kernel
theorem dX3_mostNights_26 : decode cX3_mostNights 26 = .ok (.goto (-22), 3) := by decide +kernel
theorem dX3_mostNights_29 : decode cX3_mostNights 29 = .ok (.iload_n 1, 1) := by decide +kernel
theorem dX3_mostNights_30 : decode cX3_mostNights 30 = .ok (.ireturn, 1) := by decide +kernel
theorem dX3_agreesWith_0 : decode cX3_agreesWith 0 = .ok (.iconst 0, 1) := by decide +kernel
theorem dX3_agreesWith_1 : decode cX3_agreesWith 1 = .ok (.istore_n 2, 1) := by decide +kernel
theorem dX3_agreesWith_2 : decode cX3_agreesWith 2 = .ok (.iload_n 2, 1) := by decide +kernel
theorem dX3_agreesWith_3 : decode cX3_agreesWith 3 = .ok (.aload_n 0, 1) := by decide +kernel
theorem dX3_agreesWith_4 : decode cX3_agreesWith 4 = .ok (.getfield 21, 3) := by decide +kernel
theorem dX3_agreesWith_7 : decode cX3_agreesWith 7 = .ok (.if_icmp .ge 37, 3) := by decide +kernel
theorem dX3_agreesWith_10 : decode cX3_agreesWith 10 = .ok (.aload_n 1, 1) := by decide +kernel
theorem dX3_agreesWith_11 : decode cX3_agreesWith 11 = .ok (.aload_n 0, 1) := by decide +kernel
theorem dX3_agreesWith_12 : decode cX3_agreesWith 12 = .ok (.getfield 9, 3) := by decide +kernel
theorem dX3_agreesWith_15 : decode cX3_agreesWith 15 = .ok (.iload_n 2, 1) := by decide +kernel
theorem dX3_agreesWith_16 : decode cX3_agreesWith 16 = .ok (.iaload, 1) := by decide +kernel
theorem dX3_agreesWith_17 : decode cX3_agreesWith 17 = .ok (.aload_n 0, 1) := by decide +kernel
theorem dX3_agreesWith_18 : decode cX3_agreesWith 18 = .ok (.getfield 15, 3) := by decide +kernel
theorem dX3_agreesWith_21 : decode cX3_agreesWith 21 = .ok (.iload_n 2, 1) := by decide +kernel
theorem dX3_agreesWith_22 : decode cX3_agreesWith 22 = .ok (.iaload, 1) := by decide +kernel
theorem dX3_agreesWith_23 : decode cX3_agreesWith 23 = .ok (.invokestatic 37, 3) := by decide +kernel
theorem dX3_agreesWith_26 : decode cX3_agreesWith 26 = .ok (.iaload, 1) := by decide +kernel
theorem dX3_agreesWith_27 : decode cX3_agreesWith 27 = .ok (.aload_n 0, 1) := by decide +kernel
theorem dX3_agreesWith_28 : decode cX3_agreesWith 28 = .ok (.getfield 18, 3) := by decide +kernel
theorem dX3_agreesWith_31 : decode cX3_agreesWith 31 = .ok (.iload_n 2, 1) := by decide +kernel
theorem dX3_agreesWith_32 : decode cX3_agreesWith 32 = .ok (.iaload, 1) := by decide +kernel
theorem dX3_agreesWith_33 : decode cX3_agreesWith 33 = .ok (.if_icmp .eq 5, 3) := by decide +kernel
theorem dX3_agreesWith_36 : decode cX3_agreesWith 36 = .ok (.iconst 0, 1) := by decide +kernel
theorem dX3_agreesWith_37 : decode cX3_agreesWith 37 = .ok (.ireturn, 1) := by decide +kernel
theorem dX3_agreesWith_38 : decode cX3_agreesWith 38 = .ok (.iinc 2 1, 3) := by decide +kernel
theorem dX3_agreesWith_41 : decode cX3_agreesWith 41 = .ok (.goto (-39), 3) := by decide +kernel
theorem dX3_agreesWith_44 : decode cX3_agreesWith 44 = .ok (.iconst 1, 1) := by decide +kernel
theorem dX3_agreesWith_45 : decode cX3_agreesWith 45 = .ok (.ireturn, 1) := by decide +kernel
theorem dX4_init_0 : decode cX4_init 0 = .ok (.aload_n 0, 1) := by decide +kernel
theorem dX4_init_1 : decode cX4_init 1 = .ok (.invokespecial 3, 3) := by decide +kernel
theorem dX4_init_4 : decode cX4_init 4 = .ok (.aload_n 0, 1) := by decide +kernel
theorem dX4_init_5 : decode cX4_init 5 = .ok (.sipush 160, 3) := by decide +kernel
theorem dX4_init_8 : decode cX4_init 8 = .ok (.newarray .byte, 2) := by decide +kernel
theorem dX4_init_10 : decode cX4_init 10 = .ok (.putfield 9, 3) := by decide +kernel
theorem dX4_init_13 : decode cX4_init 13 = .ok (.return_, 1) := by decide +kernel
theorem dX4_append_0 : decode cX4_append 0 = .ok (.aload_n 0, 1) := by decide +kernel
theorem dX4_append_1 : decode cX4_append 1 = .ok (.getfield 15, 3) := by decide +kernel
theorem dX4_append_4 : decode cX4_append 4 = .ok (.sipush 160, 3) := by decide +kernel
theorem dX4_append_7 : decode cX4_append 7 = .ok (.if_icmp .lt 5, 3) := by decide +kernel
theorem dX4_append_10 : decode cX4_append 10 = .ok (.iconst 0, 1) := by decide +kernel
theorem dX4_append_11 : decode cX4_append 11 = .ok (.ireturn, 1) := by decide +kernel
theorem dX4_append_12 : decode cX4_append 12 = .ok (.aload_n 0, 1) := by decide +kernel
theorem dX4_append_13 : decode cX4_append 13 = .ok (.getfield 9, 3) := by decide +kernel
theorem dX4_append_16 : decode cX4_append 16 = .ok (.aload_n 0, 1) := by decide +kernel
theorem dX4_append_17 : decode cX4_append 17 = .ok (.getfield 15, 3) := by decide +kernel
theorem dX4_append_20 : decode cX4_append 20 = .ok (.iload_n 1, 1) := by decide +kernel
theorem dX4_append_21 : decode cX4_append 21 = .ok (.i2b, 1) := by decide +kernel
theorem dX4_append_22 : decode cX4_append 22 = .ok (.bastore, 1) := by decide +kernel
theorem dX4_append_23 : decode cX4_append 23 = .ok (.aload_n 0, 1) := by decide +kernel
theorem dX4_append_24 : decode cX4_append 24 = .ok (.dup, 1) := by decide +kernel
theorem dX4_append_25 : decode cX4_append 25 = .ok (.getfield 15, 3) := by decide +kernel
theorem dX4_append_28 : decode cX4_append 28 = .ok (.iconst 1, 1) := by decide +kernel
theorem dX4_append_29 : decode cX4_append 29 = .ok (.iadd, 1) := by decide +kernel
theorem dX4_append_30 : decode cX4_append 30 = .ok (.putfield 15, 3) := by decide +kernel
theorem dX4_append_33 : decode cX4_append 33 = .ok (.iconst 1, 1) := by decide +kernel
theorem dX4_append_34 : decode cX4_append 34 = .ok (.ireturn, 1) := by decide +kernel
theorem dX4_rewind_0 : decode cX4_rewind 0 = .ok (.aload_n 0, 1) := by decide +kernel
theorem dX4_rewind_1 : decode cX4_rewind 1 = .ok (.iconst 0, 1) := by decide +kernel
theorem dX4_rewind_2 : decode cX4_rewind 2 = .ok (.putfield 19, 3) := by decide +kernel
theorem dX4_rewind_5 : decode cX4_rewind 5 = .ok (.aload_n 0, 1) := by decide +kernel
theorem dX4_rewind_6 : decode cX4_rewind 6 = .ok (.iconst 0, 1) := by decide +kernel
theorem dX4_rewind_7 : decode cX4_rewind 7 = .ok (.putfield 22, 3) := by decide +kernel
theorem dX4_rewind_10 : decode cX4_rewind 10 = .ok (.return_, 1) := by decide +kernel
theorem dX4_takeToken_0 : decode cX4_takeToken 0 = .ok (.aload_n 0, 1) := by decide +kernel
theorem dX4_takeToken_1 : decode cX4_takeToken 1 = .ok (.getfield 19, 3) := by decide +kernel
theorem dX4_takeToken_4 : decode cX4_takeToken 4 = .ok (.aload_n 0, 1) := by decide +kernel
theorem dX4_takeToken_5 : decode cX4_takeToken 5 = .ok (.getfield 15, 3) := by decide +kernel
theorem dX4_takeToken_8 : decode cX4_takeToken 8 = .ok (.if_icmp .ge 28, 3) := by decide +kernel
theorem dX4_takeToken_11 : decode cX4_takeToken 11 = .ok (.aload_n 0, 1) := by decide +kernel
theorem dX4_takeToken_12 : decode cX4_takeToken 12 = .ok (.aload_n 0, 1) := by decide +kernel
theorem dX4_takeToken_13 : decode cX4_takeToken 13 = .ok (.getfield 19, 3) := by decide +kernel
theorem dX4_takeToken_16 : decode cX4_takeToken 16 = .ok (.invokevirtual 25, 3) := by decide +kernel
theorem dX4_takeToken_19 : decode cX4_takeToken 19 = .ok (.iconst 5, 1) := by decide +kernel
theorem dX4_takeToken_20 : decode cX4_takeToken 20 = .ok (.if_icmp .ne 16, 3) := by decide +kernel
theorem dX4_takeToken_23 : decode cX4_takeToken 23 = .ok (.aload_n 0, 1) := by decide +kernel
theorem dX4_takeToken_24 : decode cX4_takeToken 24 = .ok (.dup, 1) := by decide +kernel
theorem dX4_takeToken_25 : decode cX4_takeToken 25 = .ok (.getfield 19, 3) := by decide +kernel
theorem dX4_takeToken_28 : decode cX4_takeToken 28 = .ok (.iconst 1, 1) := by decide +kernel
theorem dX4_takeToken_29 : decode cX4_takeToken 29 = .ok (.iadd, 1) := by decide +kernel
theorem dX4_takeToken_30 : decode cX4_takeToken 30 = .ok (.putfield 19, 3) := by decide +kernel
theorem dX4_takeToken_33 : decode cX4_takeToken 33 = .ok (.goto (-33), 3) := by decide +kernel
theorem dX4_takeToken_36 : decode cX4_takeToken 36 = .ok (.aload_n 0, 1) := by decide +kernel
theorem dX4_takeToken_37 : decode cX4_takeToken 37 = .ok (.aload_n 0, 1) := by decide +kernel
theorem dX4_takeToken_38 : decode cX4_takeToken 38 = .ok (.getfield 19, 3) := by decide +kernel
theorem dX4_takeToken_41 : decode cX4_takeToken 41 = .ok (.putfield 22, 3) := by decide +kernel
theorem dX4_takeToken_44 : decode cX4_takeToken 44 = .ok (.aload_n 0, 1) := by decide +kernel
theorem dX4_takeToken_45 : decode cX4_takeToken 45 = .ok (.aload_n 0, 1) := by decide +kernel
theorem dX4_takeToken_46 : decode cX4_takeToken 46 = .ok (.getfield 22, 3) := by decide +kernel
theorem dX4_takeToken_49 : decode cX4_takeToken 49 = .ok (.invokevirtual 25, 3) := by decide +kernel
theorem dX4_takeToken_52 : decode cX4_takeToken 52 = .ok (.istore_n 1, 1) := by decide +kernel
theorem dX4_takeToken_53 : decode cX4_takeToken 53 = .ok (.iload_n 1, 1) := by decide +kernel
theorem dX4_takeToken_54 : decode cX4_takeToken 54 = .ok (.ifCond .ne 5, 3) := by decide +kernel
theorem dX4_takeToken_57 : decode cX4_takeToken 57 = .ok (.iconst 0, 1) := by decide +kernel
theorem dX4_takeToken_58 : decode cX4_takeToken 58 = .ok (.ireturn, 1) := by decide +kernel
theorem dX4_takeToken_59 : decode cX4_takeToken 59 = .ok (.aload_n 0, 1) := by decide +kernel
theorem dX4_takeToken_60 : decode cX4_takeToken 60 = .ok (.dup, 1) := by decide +kernel
theorem dX4_takeToken_61 : decode cX4_takeToken 61 = .ok (.getfield 19, 3) := by decide +kernel
theorem dX4_takeToken_64 : decode cX4_takeToken 64 = .ok (.iconst 1, 1) := by decide +kernel
theorem dX4_takeToken_65 : decode cX4_takeToken 65 = .ok (.iadd, 1) := by decide +kernel
theorem dX4_takeToken_66 : decode cX4_takeToken 66 = .ok (.putfield 19, 3) := by decide +kernel
theorem dX4_takeToken_69 : decode cX4_takeToken 69 = .ok (.iload_n 1, 1) := by decide +kernel
theorem dX4_takeToken_70 : decode cX4_takeToken 70 = .ok (.iconst 1, 1) := by decide +kernel
theorem dX4_takeToken_71 : decode cX4_takeToken 71 = .ok (.if_icmp .eq 8, 3) := by decide +kernel
theorem dX4_takeToken_74 : decode cX4_takeToken 74 = .ok (.iload_n 1, 1) := by decide +kernel
theorem dX4_takeToken_75 : decode cX4_takeToken 75 = .ok (.iconst 2, 1) := by decide +kernel
theorem dX4_takeToken_76 : decode cX4_takeToken 76 = .ok (.if_icmp .ne 39, 3) := by decide +kernel
theorem dX4_takeToken_79 : decode cX4_takeToken 79 = .ok (.aload_n 0, 1) := by decide +kernel
theorem dX4_takeToken_80 : decode cX4_takeToken 80 = .ok (.getfield 19, 3) := by decide +kernel
theorem dX4_takeToken_83 : decode cX4_takeToken 83 = .ok (.aload_n 0, 1) := by decide +kernel
theorem dX4_takeToken_84 : decode cX4_takeToken 84 = .ok (.getfield 15, 3) := by decide +kernel
theorem dX4_takeToken_87 : decode cX4_takeToken 87 = .ok (.if_icmp .ge 28, 3) := by decide +kernel
theorem dX4_takeToken_90 : decode cX4_takeToken 90 = .ok (.aload_n 0, 1) := by decide +kernel
theorem dX4_takeToken_91 : decode cX4_takeToken 91 = .ok (.aload_n 0, 1) := by decide +kernel
theorem dX4_takeToken_92 : decode cX4_takeToken 92 = .ok (.getfield 19, 3) := by decide +kernel
theorem dX4_takeToken_95 : decode cX4_takeToken 95 = .ok (.invokevirtual 25, 3) := by decide +kernel
theorem dX4_takeToken_98 : decode cX4_takeToken 98 = .ok (.iload_n 1, 1) := by decide +kernel
theorem dX4_takeToken_99 : decode cX4_takeToken 99 = .ok (.if_icmp .ne 16, 3) := by decide +kernel
theorem dX4_takeToken_102 : decode cX4_takeToken 102 = .ok (.aload_n 0, 1) := by decide +kernel
theorem dX4_takeToken_103 : decode cX4_takeToken 103 = .ok (.dup, 1) := by decide +kernel
theorem dX4_takeToken_104 : decode cX4_takeToken 104 = .ok (.getfield 19, 3) := by decide +kernel
theorem dX4_takeToken_107 : decode cX4_takeToken 107 = .ok (.iconst 1, 1) := by decide +kernel
theorem dX4_takeToken_108 : decode cX4_takeToken 108 = .ok (.iadd, 1) := by decide +kernel
theorem dX4_takeToken_109 : decode cX4_takeToken 109 = .ok (.putfield 19, 3) := by decide +kernel
theorem dX4_takeToken_112 : decode cX4_takeToken 112 = .ok (.goto (-33), 3) := by decide +kernel
theorem dX4_takeToken_115 : decode cX4_takeToken 115 = .ok (.iload_n 1, 1) := by decide +kernel
theorem dX4_takeToken_116 : decode cX4_takeToken 116 = .ok (.iconst 2, 1) := by decide +kernel
theorem dX4_takeToken_117 : decode cX4_takeToken 117 = .ok (.if_icmp .ne 20, 3) := by decide +kernel
theorem dX4_takeToken_120 : decode cX4_takeToken 120 = .ok (.aload_n 0, 1) := by decide +kernel
theorem dX4_takeToken_121 : decode cX4_takeToken 121 = .ok (.getfield 19, 3) := by decide +kernel
theorem dX4_takeToken_124 : decode cX4_takeToken 124 = .ok (.aload_n 0, 1) := by decide +kernel
theorem dX4_takeToken_125 : decode cX4_takeToken 125 = .ok (.getfield 22, 3) := by decide +kernel
theorem dX4_takeToken_128 : decode cX4_takeToken 128 = .ok (.isub, 1) := by decide +kernel
theorem dX4_takeToken_129 : decode cX4_takeToken 129 = .ok (.iconst 2, 1) := by decide +kernel
theorem dX4_takeToken_130 : decode cX4_takeToken 130 = .ok (.if_icmp .le 7, 3) := by decide +kernel
theorem dX4_takeToken_133 : decode cX4_takeToken 133 = .ok (.iconst 4, 1) := by decide +kernel
theorem dX4_takeToken_134 : decode cX4_takeToken 134 = .ok (.goto 4, 3) := by decide +kernel
theorem dX4_takeToken_137 : decode cX4_takeToken 137 = .ok (.iload_n 1, 1) := by decide +kernel
theorem dX4_takeToken_138 : decode cX4_takeToken 138 = .ok (.ireturn, 1) := by decide +kernel
theorem dX4_signAt_0 : decode cX4_signAt 0 = .ok (.iload_n 1, 1) := by decide +kernel
theorem dX4_signAt_1 : decode cX4_signAt 1 = .ok (.ifCond .lt 11, 3) := by decide +kernel
theorem dX4_signAt_4 : decode cX4_signAt 4 = .ok (.iload_n 1, 1) := by decide +kernel
theorem dX4_signAt_5 : decode cX4_signAt 5 = .ok (.aload_n 0, 1) := by decide +kernel
theorem dX4_signAt_6 : decode cX4_signAt 6 = .ok (.getfield 15, 3) := by decide +kernel
theorem dX4_signAt_9 : decode cX4_signAt 9 = .ok (.if_icmp .lt 5, 3) := by decide +kernel
theorem dX4_signAt_12 : decode cX4_signAt 12 = .ok (.iconst 0, 1) := by decide +kernel
theorem dX4_signAt_13 : decode cX4_signAt 13 = .ok (.ireturn, 1) := by decide +kernel
theorem dX4_signAt_14 : decode cX4_signAt 14 = .ok (.aload_n 0, 1) := by decide +kernel
theorem dX4_signAt_15 : decode cX4_signAt 15 = .ok (.getfield 9, 3) := by decide +kernel
theorem dX4_signAt_18 : decode cX4_signAt 18 = .ok (.iload_n 1, 1) := by decide +kernel
theorem dX4_signAt_19 : decode cX4_signAt 19 = .ok (.baload, 1) := by decide +kernel
theorem dX4_signAt_20 : decode cX4_signAt 20 = .ok (.istore_n 2, 1) := by decide +kernel
theorem dX4_signAt_21 : decode cX4_signAt 21 = .ok (.iload_n 2, 1) := by decide +kernel
theorem dX4_signAt_22 : decode cX4_signAt 22 = .ok (.bipush 32, 2) := by decide +kernel
theorem dX4_signAt_24 : decode cX4_signAt 24 = .ok (.if_icmp .ne 5, 3) := by decide +kernel
theorem dX4_signAt_27 : decode cX4_signAt 27 = .ok (.iconst 5, 1) := by decide +kernel
theorem dX4_signAt_28 : decode cX4_signAt 28 = .ok (.ireturn, 1) := by decide +kernel
theorem dX4_signAt_29 : decode cX4_signAt 29 = .ok (.iload_n 2, 1) := by decide +kernel
theorem dX4_signAt_30 : decode cX4_signAt 30 = .ok (.bipush 59, 2) := by decide +kernel
theorem dX4_signAt_32 : decode cX4_signAt 32 = .ok (.if_icmp .ne 5, 3) := by decide +kernel
theorem dX4_signAt_35 : decode cX4_signAt 35 = .ok (.iconst 3, 1) := by decide +kernel
theorem dX4_signAt_36 : decode cX4_signAt 36 = .ok (.ireturn, 1) := by decide +kernel
theorem dX4_signAt_37 : decode cX4_signAt 37 = .ok (.iload_n 2, 1) := by decide +kernel
theorem dX4_signAt_38 : decode cX4_signAt 38 = .ok (.bipush 97, 2) := by decide +kernel
theorem dX4_signAt_40 : decode cX4_signAt 40 = .ok (.if_icmp .lt 11, 3) := by decide +kernel
theorem dX4_signAt_43 : decode cX4_signAt 43 = .ok (.iload_n 2, 1) := by decide +kernel
theorem dX4_signAt_44 : decode cX4_signAt 44 = .ok (.bipush 122, 2) := by decide +kernel
theorem dX4_signAt_46 : decode cX4_signAt 46 = .ok (.if_icmp .gt 5, 3) := by decide +kernel
theorem dX4_signAt_49 : decode cX4_signAt 49 = .ok (.iconst 1, 1) := by decide +kernel
theorem dX4_signAt_50 : decode cX4_signAt 50 = .ok (.ireturn, 1) := by decide +kernel
theorem dX4_signAt_51 : decode cX4_signAt 51 = .ok (.iload_n 2, 1) := by decide +kernel
theorem dX4_signAt_52 : decode cX4_signAt 52 = .ok (.bipush 48, 2) := by decide +kernel
theorem dX4_signAt_54 : decode cX4_signAt 54 = .ok (.if_icmp .lt 13, 3) := by decide +kernel
theorem dX4_signAt_57 : decode cX4_signAt 57 = .ok (.iload_n 2, 1) := by decide +kernel
theorem dX4_signAt_58 : decode cX4_signAt 58 = .ok (.bipush 57, 2) := by decide +kernel
theorem dX4_signAt_60 : decode cX4_signAt 60 = .ok (.if_icmp .gt 7, 3) := by decide +kernel
theorem dX4_signAt_63 : decode cX4_signAt 63 = .ok (.iconst 2, 1) := by decide +kernel
theorem dX4_signAt_64 : decode cX4_signAt 64 = .ok (.goto 4, 3) := by decide +kernel
theorem dX4_signAt_67 : decode cX4_signAt 67 = .ok (.iconst 4, 1) := by decide +kernel
theorem dX4_signAt_68 : decode cX4_signAt 68 = .ok (.ireturn, 1) := by decide +kernel
theorem dX4_nameIs_0 : decode cX4_nameIs 0 = .ok (.aload_n 0, 1) := by decide +kernel
theorem dX4_nameIs_1 : decode cX4_nameIs 1 = .ok (.getfield 19, 3) := by decide +kernel
theorem dX4_nameIs_4 : decode cX4_nameIs 4 = .ok (.aload_n 0, 1) := by decide +kernel
theorem dX4_nameIs_5 : decode cX4_nameIs 5 = .ok (.getfield 22, 3) := by decide +kernel
theorem dX4_nameIs_8 : decode cX4_nameIs 8 = .ok (.isub, 1) := by decide +kernel
theorem dX4_nameIs_9 : decode cX4_nameIs 9 = .ok (.aload_n 1, 1) := by decide +kernel
theorem dX4_nameIs_10 : decode cX4_nameIs 10 = .ok (.invokevirtual 29, 3) := by decide +kernel
theorem dX4_nameIs_13 : decode cX4_nameIs 13 = .ok (.if_icmp .eq 5, 3) := by decide +kernel
theorem dX4_nameIs_16 : decode cX4_nameIs 16 = .ok (.iconst 0, 1) := by decide +kernel
theorem dX4_nameIs_17 : decode cX4_nameIs 17 = .ok (.ireturn, 1) := by decide +kernel
theorem dX4_nameIs_18 : decode cX4_nameIs 18 = .ok (.aload_n 0, 1) := by decide +kernel
theorem dX4_nameIs_19 : decode cX4_nameIs 19 = .ok (.getfield 22, 3) := by decide +kernel
theorem dX4_nameIs_22 : decode cX4_nameIs 22 = .ok (.istore_n 2, 1) := by decide +kernel
theorem dX4_nameIs_23 : decode cX4_nameIs 23 = .ok (.iload_n 2, 1) := by decide +kernel
theorem dX4_nameIs_24 : decode cX4_nameIs 24 = .ok (.aload_n 0, 1) := by decide +kernel
theorem dX4_nameIs_25 : decode cX4_nameIs 25 = .ok (.getfield 19, 3) := by decide +kernel
theorem dX4_nameIs_28 : decode cX4_nameIs 28 = .ok (.if_icmp .ge 30, 3) := by decide +kernel
theorem dX4_nameIs_31 : decode cX4_nameIs 31 = .ok (.aload_n 0, 1) := by decide +kernel
theorem dX4_nameIs_32 : decode cX4_nameIs 32 = .ok (.getfield 9, 3) := by decide +kernel
theorem dX4_nameIs_35 : decode cX4_nameIs 35 = .ok (.iload_n 2, 1) := by decide +kernel
theorem dX4_nameIs_36 : decode cX4_nameIs 36 = .ok (.baload, 1) := by decide +kernel
theorem dX4_nameIs_37 : decode cX4_nameIs 37 = .ok (.aload_n 1, 1) := by decide +kernel
theorem dX4_nameIs_38 : decode cX4_nameIs 38 = .ok (.iload_n 2, 1) := by decide +kernel
theorem dX4_nameIs_39 : decode cX4_nameIs 39 = .ok (.aload_n 0, 1) := by decide +kernel
theorem dX4_nameIs_40 : decode cX4_nameIs 40 = .ok (.getfield 22, 3) := by decide +kernel
theorem dX4_nameIs_43 : decode cX4_nameIs 43 = .ok (.isub, 1) := by decide +kernel
theorem dX4_nameIs_44 : decode cX4_nameIs 44 = .ok (.invokevirtual 34, 3) := by decide +kernel
theorem dX4_nameIs_47 : decode cX4_nameIs 47 = .ok (.if_icmp .eq 5, 3) := by decide +kernel
theorem dX4_nameIs_50 : decode cX4_nameIs 50 = .ok (.iconst 0, 1) := by decide +kernel
theorem dX4_nameIs_51 : decode cX4_nameIs 51 = .ok (.ireturn, 1) := by decide +kernel
theorem dX4_nameIs_52 : decode cX4_nameIs 52 = .ok (.iinc 2 1, 3) := by decide +kernel
theorem dX4_nameIs_55 : decode cX4_nameIs 55 = .ok (.goto (-32), 3) := by decide +kernel
theorem dX4_nameIs_58 : decode cX4_nameIs 58 = .ok (.iconst 1, 1) := by decide +kernel
theorem dX4_nameIs_59 : decode cX4_nameIs 59 = .ok (.ireturn, 1) := by decide +kernel
theorem dX4_number_0 : decode cX4_number 0 = .ok (.iconst 0, 1) := by decide +kernel
theorem dX4_number_1 : decode cX4_number 1 = .ok (.istore_n 1, 1) := by decide +kernel
theorem dX4_number_2 : decode cX4_number 2 = .ok (.aload_n 0, 1) := by decide +kernel
theorem dX4_number_3 : decode cX4_number 3 = .ok (.getfield 22, 3) := by decide +kernel
theorem dX4_number_6 : decode cX4_number 6 = .ok (.istore_n 2, 1) := by decide +kernel
theorem dX4_number_7 : decode cX4_number 7 = .ok (.iload_n 2, 1) := by decide +kernel
theorem dX4_number_8 : decode cX4_number 8 = .ok (.aload_n 0, 1) := by decide +kernel
theorem dX4_number_9 : decode cX4_number 9 = .ok (.getfield 19, 3) := by decide +kernel
theorem dX4_number_12 : decode cX4_number 12 = .ok (.if_icmp .ge 24, 3) := by decide +kernel
theorem dX4_number_15 : decode cX4_number 15 = .ok (.bipush 10, 2) := by decide +kernel
theorem dX4_number_17 : decode cX4_number 17 = .ok (.iload_n 1, 1) := by decide +kernel
theorem dX4_number_18 : decode cX4_number 18 = .ok (.imul, 1) := by decide +kernel
theorem dX4_number_19 : decode cX4_number 19 = .ok (.aload_n 0, 1) := by decide +kernel
theorem dX4_number_20 : decode cX4_number 20 = .ok (.getfield 9, 3) := by decide +kernel
theorem dX4_number_23 : decode cX4_number 23 = .ok (.iload_n 2, 1) := by decide +kernel
theorem dX4_number_24 : decode cX4_number 24 = .ok (.baload, 1) := by decide +kernel
theorem dX4_number_25 : decode cX4_number 25 = .ok (.iadd, 1) := by decide +kernel
theorem dX4_number_26 : decode cX4_number 26 = .ok (.bipush 48, 2) := by decide +kernel
theorem dX4_number_28 : decode cX4_number 28 = .ok (.isub, 1) := by decide +kernel
theorem dX4_number_29 : decode cX4_number 29 = .ok (.istore_n 1, 1) := by decide +kernel
theorem dX4_number_30 : decode cX4_number 30 = .ok (.iinc 2 1, 3) := by decide +kernel
theorem dX4_number_33 : decode cX4_number 33 = .ok (.goto (-26), 3) := by decide +kernel
theorem dX4_number_36 : decode cX4_number 36 = .ok (.iload_n 1, 1) := by decide +kernel
theorem dX4_number_37 : decode cX4_number 37 = .ok (.ireturn, 1) := by decide +kernel
