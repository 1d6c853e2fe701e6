theorem dX0_init_0 : decode cX0_init 0 = .ok (.aload_n 0, 1) := by decide +kernel
theorem dX0_init_1 : decode cX0_init 1 = .ok (.invokespecial 3, 3) := by decide +kernel
theorem dX0_init_4 : decode cX0_init 4 = .ok (.aload_n 0, 1) := by decide +kernel
theorem dX0_init_5 : decode cX0_init 5 = .ok (.bipush 30, 2) := by decide +kernel
theorem dX0_init_7 : decode cX0_init 7 = .ok (.newarray .int, 2) := by decide +kernel
theorem dX0_init_9 : decode cX0_init 9 = .ok (.putfield 9, 3) := by decide +kernel
theorem dX0_init_12 : decode cX0_init 12 = .ok (.return_, 1) := by decide +kernel
theorem dX0_clear_0 : decode cX0_clear 0 = .ok (.aload_n 0, 1) := by decide +kernel
theorem dX0_clear_1 : decode cX0_clear 1 = .ok (.iconst 0, 1) := by decide +kernel
theorem dX0_clear_2 : decode cX0_clear 2 = .ok (.putfield 15, 3) := by decide +kernel
theorem dX0_clear_5 : decode cX0_clear 5 = .ok (.aload_n 0, 1) := by decide +kernel
theorem dX0_clear_6 : decode cX0_clear 6 = .ok (.iconst 0, 1) := by decide +kernel
theorem dX0_clear_7 : decode cX0_clear 7 = .ok (.putfield 19, 3) := by decide +kernel
theorem dX0_clear_10 : decode cX0_clear 10 = .ok (.return_, 1) := by decide +kernel
theorem dX0_began_0 : decode cX0_began 0 = .ok (.aload_n 0, 1) := by decide +kernel
theorem dX0_began_1 : decode cX0_began 1 = .ok (.getfield 15, 3) := by decide +kernel
theorem dX0_began_4 : decode cX0_began 4 = .ok (.aload_n 0, 1) := by decide +kernel
theorem dX0_began_5 : decode cX0_began 5 = .ok (.getfield 9, 3) := by decide +kernel
theorem dX0_began_8 : decode cX0_began 8 = .ok (.arraylength, 1) := by decide +kernel
theorem dX0_began_9 : decode cX0_began 9 = .ok (.if_icmp .ge 23, 3) := by decide +kernel
theorem dX0_began_12 : decode cX0_began 12 = .ok (.aload_n 0, 1) := by decide +kernel
theorem dX0_began_13 : decode cX0_began 13 = .ok (.getfield 9, 3) := by decide +kernel
theorem dX0_began_16 : decode cX0_began 16 = .ok (.aload_n 0, 1) := by decide +kernel
theorem dX0_began_17 : decode cX0_began 17 = .ok (.getfield 15, 3) := by decide +kernel
theorem dX0_began_20 : decode cX0_began 20 = .ok (.iload_n 1, 1) := by decide +kernel
theorem dX0_began_21 : decode cX0_began 21 = .ok (.iastore, 1) := by decide +kernel
theorem dX0_began_22 : decode cX0_began 22 = .ok (.aload_n 0, 1) := by decide +kernel
theorem dX0_began_23 : decode cX0_began 23 = .ok (.dup, 1) := by decide +kernel
theorem dX0_began_24 : decode cX0_began 24 = .ok (.getfield 15, 3) := by decide +kernel
theorem dX0_began_27 : decode cX0_began 27 = .ok (.iconst 1, 1) := by decide +kernel
theorem dX0_began_28 : decode cX0_began 28 = .ok (.iadd, 1) := by decide +kernel
theorem dX0_began_29 : decode cX0_began 29 = .ok (.putfield 15, 3) := by decide +kernel
theorem dX0_began_32 : decode cX0_began 32 = .ok (.return_, 1) := by decide +kernel
theorem dX1_init_0 : decode cX1_init 0 = .ok (.aload_n 0, 1) := by decide +kernel
theorem dX1_init_1 : decode cX1_init 1 = .ok (.invokespecial 1, 3) := by decide +kernel
theorem dX1_init_4 : decode cX1_init 4 = .ok (.return_, 1) := by decide +kernel
theorem dX1_yearns_0 : decode cX1_yearns 0 = .ok (.iconst (-1), 1) := by decide +kernel
theorem dX1_yearns_1 : decode cX1_yearns 1 = .ok (.ireturn, 1) := by decide +kernel
theorem dX1_bakes_0 : decode cX1_bakes 0 = .ok (.aload_n 0, 1) := by decide +kernel
theorem dX1_bakes_1 : decode cX1_bakes 1 = .ok (.iload_n 1, 1) := by decide +kernel
theorem dX1_bakes_2 : decode cX1_bakes 2 = .ok (.iload_n 2, 1) := by decide +kernel
theorem dX1_bakes_3 : decode cX1_bakes 3 = .ok (.invokespecial 7, 3) := by decide +kernel
theorem dX1_bakes_6 : decode cX1_bakes 6 = .ok (.iconst 1, 1) := by decide +kernel
theorem dX1_bakes_7 : decode cX1_bakes 7 = .ok (.iadd, 1) := by decide +kernel
theorem dX1_bakes_8 : decode cX1_bakes 8 = .ok (.ireturn, 1) := by decide +kernel
theorem dX1_glows_0 : decode cX1_glows 0 = .ok (.aload_n 1, 1) := by decide +kernel
theorem dX1_glows_1 : decode cX1_glows 1 = .ok (.bipush 50, 2) := by decide +kernel
theorem dX1_glows_3 : decode cX1_glows 3 = .ok (.invokevirtual 11, 3) := by decide +kernel
theorem dX1_glows_6 : decode cX1_glows 6 = .ok (.aload_n 0, 1) := by decide +kernel
theorem dX1_glows_7 : decode cX1_glows 7 = .ok (.aload_n 1, 1) := by decide +kernel
theorem dX1_glows_8 : decode cX1_glows 8 = .ok (.iload_n 2, 1) := by decide +kernel
theorem dX1_glows_9 : decode cX1_glows 9 = .ok (.invokespecial 17, 3) := by decide +kernel
theorem dX1_glows_12 : decode cX1_glows 12 = .ok (.iconst 3, 1) := by decide +kernel
theorem dX1_glows_13 : decode cX1_glows 13 = .ok (.ixor, 1) := by decide +kernel
theorem dX1_glows_14 : decode cX1_glows 14 = .ok (.ireturn, 1) := by decide +kernel
theorem dX1_weds_0 : decode cX1_weds 0 = .ok (.aload_n 1, 1) := by decide +kernel
theorem dX1_weds_1 : decode cX1_weds 1 = .ok (.bipush 51, 2) := by decide +kernel
theorem dX1_weds_3 : decode cX1_weds 3 = .ok (.invokevirtual 11, 3) := by decide +kernel
theorem dX1_weds_6 : decode cX1_weds 6 = .ok (.aload_n 0, 1) := by decide +kernel
theorem dX1_weds_7 : decode cX1_weds 7 = .ok (.aload_n 1, 1) := by decide +kernel
theorem dX1_weds_8 : decode cX1_weds 8 = .ok (.iload_n 2, 1) := by decide +kernel
theorem dX1_weds_9 : decode cX1_weds 9 = .ok (.invokespecial 21, 3) := by decide +kernel
theorem dX1_weds_12 : decode cX1_weds 12 = .ok (.istore_n 3, 1) := by decide +kernel
theorem dX1_weds_13 : decode cX1_weds 13 = .ok (.iload_n 3, 1) := by decide +kernel
theorem dX1_weds_14 : decode cX1_weds 14 = .ok (.aload_n 0, 1) := by decide +kernel
theorem dX1_weds_15 : decode cX1_weds 15 = .ok (.aload_n 1, 1) := by decide +kernel
theorem dX1_weds_16 : decode cX1_weds 16 = .ok (.iload_n 2, 1) := by decide +kernel
theorem dX1_weds_17 : decode cX1_weds 17 = .ok (.invokevirtual 24, 3) := by decide +kernel
theorem dX1_weds_20 : decode cX1_weds 20 = .ok (.imul, 1) := by decide +kernel
theorem dX1_weds_21 : decode cX1_weds 21 = .ok (.ireturn, 1) := by decide +kernel
theorem dX2_restWorth_0 : decode cX2_restWorth 0 = .ok (.aload_n 0, 1) := by decide +kernel
theorem dX2_restWorth_1 : decode cX2_restWorth 1 = .ok (.getfield 9, 3) := by decide +kernel
theorem dX2_restWorth_4 : decode cX2_restWorth 4 = .ok (.istore_n 2, 1) := by decide +kernel
theorem dX2_restWorth_5 : decode cX2_restWorth 5 = .ok (.iconst 0, 1) := by decide +kernel
theorem dX2_restWorth_6 : decode cX2_restWorth 6 = .ok (.istore_n 3, 1) := by decide +kernel
theorem dX2_restWorth_7 : decode cX2_restWorth 7 = .ok (.iconst 0, 1) := by decide +kernel
theorem dX2_restWorth_8 : decode cX2_restWorth 8 = .ok (.istore 4, 2) := by decide +kernel
theorem dX2_restWorth_10 : decode cX2_restWorth 10 = .ok (.iload 4, 2) := by decide +kernel
theorem dX2_restWorth_12 : decode cX2_restWorth 12 = .ok (.aload_n 0, 1) := by decide +kernel
theorem dX2_restWorth_13 : decode cX2_restWorth 13 = .ok (.iload_n 1, 1) := by decide +kernel
theorem dX2_restWorth_14 : decode cX2_restWorth 14 = .ok (.invokevirtual 15, 3) := by decide +kernel
theorem dX2_restWorth_17 : decode cX2_restWorth 17 = .ok (.if_icmp .ge 38, 3) := by decide +kernel
theorem dX2_restWorth_20 : decode cX2_restWorth 20 = .ok (.aload_n 0, 1) := by decide +kernel
theorem dX2_restWorth_21 : decode cX2_restWorth 21 = .ok (.iload_n 2, 1) := by decide +kernel
theorem dX2_restWorth_22 : decode cX2_restWorth 22 = .ok (.aload_n 0, 1) := by decide +kernel
theorem dX2_restWorth_23 : decode cX2_restWorth 23 = .ok (.getfield 19, 3) := by decide +kernel
theorem dX2_restWorth_26 : decode cX2_restWorth 26 = .ok (.iload 4, 2) := by decide +kernel
theorem dX2_restWorth_28 : decode cX2_restWorth 28 = .ok (.iadd, 1) := by decide +kernel
theorem dX2_restWorth_29 : decode cX2_restWorth 29 = .ok (.iconst 0, 1) := by decide +kernel
theorem dX2_restWorth_30 : decode cX2_restWorth 30 = .ok (.invokevirtual 22, 3) := by decide +kernel
theorem dX2_restWorth_33 : decode cX2_restWorth 33 = .ok (.istore_n 2, 1) := by decide +kernel
theorem dX2_restWorth_34 : decode cX2_restWorth 34 = .ok (.iload_n 3, 1) := by decide +kernel
theorem dX2_restWorth_35 : decode cX2_restWorth 35 = .ok (.aload_n 0, 1) := by decide +kernel
theorem dX2_restWorth_36 : decode cX2_restWorth 36 = .ok (.iload_n 2, 1) := by decide +kernel
theorem dX2_restWorth_37 : decode cX2_restWorth 37 = .ok (.aload_n 0, 1) := by decide +kernel
theorem dX2_restWorth_38 : decode cX2_restWorth 38 = .ok (.getfield 19, 3) := by decide +kernel
theorem dX2_restWorth_41 : decode cX2_restWorth 41 = .ok (.iload 4, 2) := by decide +kernel
theorem dX2_restWorth_43 : decode cX2_restWorth 43 = .ok (.iadd, 1) := by decide +kernel
theorem dX2_restWorth_44 : decode cX2_restWorth 44 = .ok (.invokevirtual 26, 3) := by decide +kernel
theorem dX2_restWorth_47 : decode cX2_restWorth 47 = .ok (.iadd, 1) := by decide +kernel
theorem dX2_restWorth_48 : decode cX2_restWorth 48 = .ok (.istore_n 3, 1) := by decide +kernel
theorem dX2_restWorth_49 : decode cX2_restWorth 49 = .ok (.iinc 4 1, 3) := by decide +kernel
theorem dX2_restWorth_52 : decode cX2_restWorth 52 = .ok (.goto (-42), 3) := by decide +kernel
theorem dX2_restWorth_55 : decode cX2_restWorth 55 = .ok (.iload_n 3, 1) := by decide +kernel
theorem dX2_restWorth_56 : decode cX2_restWorth 56 = .ok (.ireturn, 1) := by decide +kernel
theorem dX2_went_0 : decode cX2_went 0 = .ok (.aload_n 0, 1) := by decide +kernel
theorem dX2_went_1 : decode cX2_went 1 = .ok (.iload_n 2, 1) := by decide +kernel
theorem dX2_went_2 : decode cX2_went 2 = .ok (.iload_n 3, 1) := by decide +kernel
theorem dX2_went_3 : decode cX2_went 3 = .ok (.invokevirtual 30, 3) := by decide +kernel
theorem dX2_went_6 : decode cX2_went 6 = .ok (.aload_n 0, 1) := by decide +kernel
theorem dX2_went_7 : decode cX2_went 7 = .ok (.iload_n 1, 1) := by decide +kernel
theorem dX2_went_8 : decode cX2_went 8 = .ok (.iload_n 3, 1) := by decide +kernel
theorem dX2_went_9 : decode cX2_went 9 = .ok (.invokevirtual 30, 3) := by decide +kernel
theorem dX2_went_12 : decode cX2_went 12 = .ok (.if_icmp .le 7, 3) := by decide +kernel
theorem dX2_went_15 : decode cX2_went 15 = .ok (.iconst 1, 1) := by decide +kernel
theorem dX2_went_16 : decode cX2_went 16 = .ok (.goto 4, 3) := by decide +kernel
theorem dX2_went_19 : decode cX2_went 19 = .ok (.iconst 0, 1) := by decide +kernel
theorem dX2_went_20 : decode cX2_went 20 = .ok (.ireturn, 1) := by decide +kernel
theorem dX2_firstGoing_0 : decode cX2_firstGoing 0 = .ok (.aload_n 0, 1) := by decide +kernel
theorem dX2_firstGoing_1 : decode cX2_firstGoing 1 = .ok (.getfield 9, 3) := by decide +kernel
theorem dX2_firstGoing_4 : decode cX2_firstGoing 4 = .ok (.istore_n 2, 1) := by decide +kernel
theorem dX2_firstGoing_5 : decode cX2_firstGoing 5 = .ok (.aload_n 0, 1) := by decide +kernel
theorem dX2_firstGoing_6 : decode cX2_firstGoing 6 = .ok (.getfield 19, 3) := by decide +kernel
theorem dX2_firstGoing_9 : decode cX2_firstGoing 9 = .ok (.istore_n 3, 1) := by decide +kernel
theorem dX2_firstGoing_10 : decode cX2_firstGoing 10 = .ok (.iload_n 3, 1) := by decide +kernel
theorem dX2_firstGoing_11 : decode cX2_firstGoing 11 = .ok (.aload_n 0, 1) := by decide +kernel
theorem dX2_firstGoing_12 : decode cX2_firstGoing 12 = .ok (.getfield 33, 3) := by decide +kernel
theorem dX2_firstGoing_15 : decode cX2_firstGoing 15 = .ok (.if_icmp .ge 34, 3) := by decide +kernel
theorem dX2_firstGoing_18 : decode cX2_firstGoing 18 = .ok (.aload_n 0, 1) := by decide +kernel
theorem dX2_firstGoing_19 : decode cX2_firstGoing 19 = .ok (.iload_n 2, 1) := by decide +kernel
theorem dX2_firstGoing_20 : decode cX2_firstGoing 20 = .ok (.iload_n 3, 1) := by decide +kernel
theorem dX2_firstGoing_21 : decode cX2_firstGoing 21 = .ok (.iconst 0, 1) := by decide +kernel
theorem dX2_firstGoing_22 : decode cX2_firstGoing 22 = .ok (.invokevirtual 22, 3) := by decide +kernel
theorem dX2_firstGoing_25 : decode cX2_firstGoing 25 = .ok (.istore 4, 2) := by decide +kernel
theorem dX2_firstGoing_27 : decode cX2_firstGoing 27 = .ok (.aload_n 0, 1) := by decide +kernel
theorem dX2_firstGoing_28 : decode cX2_firstGoing 28 = .ok (.iload_n 2, 1) := by decide +kernel
theorem dX2_firstGoing_29 : decode cX2_firstGoing 29 = .ok (.iload 4, 2) := by decide +kernel
theorem dX2_firstGoing_31 : decode cX2_firstGoing 31 = .ok (.iload_n 1, 1) := by decide +kernel
theorem dX2_firstGoing_32 : decode cX2_firstGoing 32 = .ok (.invokestatic 36, 3) := by decide +kernel
theorem dX2_firstGoing_35 : decode cX2_firstGoing 35 = .ok (.ifCond .eq 5, 3) := by decide +kernel
theorem dX2_firstGoing_38 : decode cX2_firstGoing 38 = .ok (.iload_n 3, 1) := by decide +kernel
theorem dX2_firstGoing_39 : decode cX2_firstGoing 39 = .ok (.ireturn, 1) := by decide +kernel
theorem dX2_firstGoing_40 : decode cX2_firstGoing 40 = .ok (.iload 4, 2) := by decide +kernel
theorem dX2_firstGoing_42 : decode cX2_firstGoing 42 = .ok (.istore_n 2, 1) := by decide +kernel
theorem dX2_firstGoing_43 : decode cX2_firstGoing 43 = .ok (.iinc 3 1, 3) := by decide +kernel
theorem dX2_firstGoing_46 : decode cX2_firstGoing 46 = .ok (.goto (-36), 3) := by decide +kernel
theorem dX2_firstGoing_49 : decode cX2_firstGoing 49 = .ok (.bipush (-3), 2) := by decide +kernel
theorem dX2_firstGoing_51 : decode cX2_firstGoing 51 = .ok (.ireturn, 1) := by decide +kernel
theorem dX2_goings_0 : decode cX2_goings 0 = .ok (.aload_n 0, 1) := by decide +kernel
theorem dX2_goings_1 : decode cX2_goings 1 = .ok (.getfield 9, 3) := by decide +kernel
theorem dX2_goings_4 : decode cX2_goings 4 = .ok (.istore_n 2, 1) := by decide +kernel
theorem dX2_goings_5 : decode cX2_goings 5 = .ok (.iconst 0, 1) := by decide +kernel
theorem dX2_goings_6 : decode cX2_goings 6 = .ok (.istore_n 3, 1) := by decide +kernel
theorem dX2_goings_7 : decode cX2_goings 7 = .ok (.aload_n 0, 1) := by decide +kernel
theorem dX2_goings_8 : decode cX2_goings 8 = .ok (.getfield 19, 3) := by decide +kernel
theorem dX2_goings_11 : decode cX2_goings 11 = .ok (.istore 4, 2) := by decide +kernel
theorem dX2_goings_13 : decode cX2_goings 13 = .ok (.iload 4, 2) := by decide +kernel
theorem dX2_goings_15 : decode cX2_goings 15 = .ok (.aload_n 0, 1) := by decide +kernel
theorem dX2_goings_16 : decode cX2_goings 16 = .ok (.getfield 33, 3) := by decide +kernel
theorem dX2_goings_19 : decode cX2_goings 19 = .ok (.if_icmp .ge 36, 3) := by decide +kernel
theorem dX2_goings_22 : decode cX2_goings 22 = .ok (.aload_n 0, 1) := by decide +kernel
theorem dX2_goings_23 : decode cX2_goings 23 = .ok (.iload_n 2, 1) := by decide +kernel
theorem dX2_goings_24 : decode cX2_goings 24 = .ok (.iload 4, 2) := by decide +kernel
theorem dX2_goings_26 : decode cX2_goings 26 = .ok (.iconst 0, 1) := by decide +kernel
theorem dX2_goings_27 : decode cX2_goings 27 = .ok (.invokevirtual 22, 3) := by decide +kernel
theorem dX2_goings_30 : decode cX2_goings 30 = .ok (.istore 5, 2) := by decide +kernel
theorem dX2_goings_32 : decode cX2_goings 32 = .ok (.aload_n 0, 1) := by decide +kernel
theorem dX2_goings_33 : decode cX2_goings 33 = .ok (.iload_n 2, 1) := by decide +kernel
theorem dX2_goings_34 : decode cX2_goings 34 = .ok (.iload 5, 2) := by decide +kernel
theorem dX2_goings_36 : decode cX2_goings 36 = .ok (.iload_n 1, 1) := by decide +kernel
theorem dX2_goings_37 : decode cX2_goings 37 = .ok (.invokestatic 36, 3) := by decide +kernel
theorem dX2_goings_40 : decode cX2_goings 40 = .ok (.ifCond .eq 6, 3) := by decide +kernel
theorem dX2_goings_43 : decode cX2_goings 43 = .ok (.iinc 3 1, 3) := by decide +kernel
theorem dX2_goings_46 : decode cX2_goings 46 = .ok (.iload 5, 2) := by decide +kernel
theorem dX2_goings_48 : decode cX2_goings 48 = .ok (.istore_n 2, 1) := by decide +kernel
theorem dX2_goings_49 : decode cX2_goings 49 = .ok (.iinc 4 1, 3) := by decide +kernel
theorem dX2_goings_52 : decode cX2_goings 52 = .ok (.goto (-39), 3) := by decide +kernel
theorem dX2_goings_55 : decode cX2_goings 55 = .ok (.iload_n 3, 1) := by decide +kernel
theorem dX2_goings_56 : decode cX2_goings 56 = .ok (.ireturn, 1) := by decide +kernel
theorem dX2_bestSetting_0 : decode cX2_bestSetting 0 = .ok (.aload_n 1, 1) := by decide +kernel
theorem dX2_bestSetting_1 : decode cX2_bestSetting 1 = .ok (.iload_n 2, 1) := by decide +kernel
theorem dX2_bestSetting_2 : decode cX2_bestSetting 2 = .ok (.iaload, 1) := by decide +kernel
theorem dX2_bestSetting_3 : decode cX2_bestSetting 3 = .ok (.istore 4, 2) := by decide +kernel
theorem dX2_bestSetting_5 : decode cX2_bestSetting 5 = .ok (.iconst (-1), 1) := by decide +kernel
theorem dX2_bestSetting_6 : decode cX2_bestSetting 6 = .ok (.istore 5, 2) := by decide +kernel
theorem dX2_bestSetting_8 : decode cX2_bestSetting 8 = .ok (.iconst 0, 1) := by decide +kernel
theorem dX2_bestSetting_9 : decode cX2_bestSetting 9 = .ok (.istore 6, 2) := by decide +kernel
theorem dX2_bestSetting_11 : decode cX2_bestSetting 11 = .ok (.iconst 0, 1) := by decide +kernel
theorem dX2_bestSetting_12 : decode cX2_bestSetting 12 = .ok (.istore 7, 2) := by decide +kernel
theorem dX2_bestSetting_14 : decode cX2_bestSetting 14 = .ok (.iload 7, 2) := by decide +kernel
theorem dX2_bestSetting_16 : decode cX2_bestSetting 16 = .ok (.iload_n 3, 1) := by decide +kernel
theorem dX2_bestSetting_17 : decode cX2_bestSetting 17 = .ok (.if_icmp .gt 42, 3) := by decide +kernel
theorem dX2_bestSetting_20 : decode cX2_bestSetting 20 = .ok (.aload_n 1, 1) := by decide +kernel
theorem dX2_bestSetting_21 : decode cX2_bestSetting 21 = .ok (.iload_n 2, 1) := by decide +kernel
theorem dX2_bestSetting_22 : decode cX2_bestSetting 22 = .ok (.iload 7, 2) := by decide +kernel
theorem dX2_bestSetting_24 : decode cX2_bestSetting 24 = .ok (.iastore, 1) := by decide +kernel
theorem dX2_bestSetting_25 : decode cX2_bestSetting 25 = .ok (.aload_n 0, 1) := by decide +kernel
theorem dX2_bestSetting_26 : decode cX2_bestSetting 26 = .ok (.iload_n 2, 1) := by decide +kernel
theorem dX2_bestSetting_27 : decode cX2_bestSetting 27 = .ok (.invokevirtual 42, 3) := by decide +kernel
theorem dX2_bestSetting_30 : decode cX2_bestSetting 30 = .ok (.aload_n 0, 1) := by decide +kernel
theorem dX2_bestSetting_31 : decode cX2_bestSetting 31 = .ok (.bipush 16, 2) := by decide +kernel
theorem dX2_bestSetting_33 : decode cX2_bestSetting 33 = .ok (.invokestatic 46, 3) := by decide +kernel
theorem dX2_bestSetting_36 : decode cX2_bestSetting 36 = .ok (.istore 8, 2) := by decide +kernel
theorem dX2_bestSetting_38 : decode cX2_bestSetting 38 = .ok (.iload 8, 2) := by decide +kernel
theorem dX2_bestSetting_40 : decode cX2_bestSetting 40 = .ok (.iload 5, 2) := by decide +kernel
theorem dX2_bestSetting_42 : decode cX2_bestSetting 42 = .ok (.if_icmp .le 11, 3) := by decide +kernel
theorem dX2_bestSetting_45 : decode cX2_bestSetting 45 = .ok (.iload 8, 2) := by decide +kernel
theorem dX2_bestSetting_47 : decode cX2_bestSetting 47 = .ok (.istore 5, 2) := by decide +kernel
theorem dX2_bestSetting_49 : decode cX2_bestSetting 49 = .ok (.iload 7, 2) := by decide +kernel
theorem dX2_bestSetting_51 : decode cX2_bestSetting 51 = .ok (.istore 6, 2) := by decide +kernel
theorem dX2_bestSetting_53 : decode cX2_bestSetting 53 = .ok (.iinc 7 1, 3) := by decide +kernel
theorem dX2_bestSetting_56 : decode cX2_bestSetting 56 = .ok (.goto (-42), 3) := by decide +kernel
theorem dX2_bestSetting_59 : decode cX2_bestSetting 59 = .ok (.aload_n 1, 1) := by decide +kernel
theorem dX2_bestSetting_60 : decode cX2_bestSetting 60 = .ok (.iload_n 2, 1) := by decide +kernel
theorem dX2_bestSetting_61 : decode cX2_bestSetting 61 = .ok (.iload 4, 2) := by decide +kernel
theorem dX2_bestSetting_63 : decode cX2_bestSetting 63 = .ok (.iastore, 1) := by decide +kernel
theorem dX2_bestSetting_64 : decode cX2_bestSetting 64 = .ok (.aload_n 0, 1) := by decide +kernel
theorem dX2_bestSetting_65 : decode cX2_bestSetting 65 = .ok (.iload_n 2, 1) := by decide +kernel
theorem dX2_bestSetting_66 : decode cX2_bestSetting 66 = .ok (.invokevirtual 42, 3) := by decide +kernel
theorem dX2_bestSetting_69 : decode cX2_bestSetting 69 = .ok (.iload 6, 2) := by decide +kernel
theorem dX2_bestSetting_71 : decode cX2_bestSetting 71 = .ok (.ireturn, 1) := by decide +kernel
theorem dX2_nobodyGoes_0 : decode cX2_nobodyGoes 0 = .ok (.aload_n 0, 1) := by decide +kernel
theorem dX2_nobodyGoes_1 : decode cX2_nobodyGoes 1 = .ok (.getfield 9, 3) := by decide +kernel
theorem dX2_nobodyGoes_4 : decode cX2_nobodyGoes 4 = .ok (.istore_n 2, 1) := by decide +kernel
theorem dX2_nobodyGoes_5 : decode cX2_nobodyGoes 5 = .ok (.aload_n 0, 1) := by decide +kernel
theorem dX2_nobodyGoes_6 : decode cX2_nobodyGoes 6 = .ok (.getfield 19, 3) := by decide +kernel
theorem dX2_nobodyGoes_9 : decode cX2_nobodyGoes 9 = .ok (.istore_n 3, 1) := by decide +kernel
theorem dX2_nobodyGoes_10 : decode cX2_nobodyGoes 10 = .ok (.iload_n 3, 1) := by decide +kernel
theorem dX2_nobodyGoes_11 : decode cX2_nobodyGoes 11 = .ok (.aload_n 0, 1) := by decide +kernel
theorem dX2_nobodyGoes_12 : decode cX2_nobodyGoes 12 = .ok (.getfield 33, 3) := by decide +kernel
theorem dX2_nobodyGoes_15 : decode cX2_nobodyGoes 15 = .ok (.if_icmp .ge 33, 3) := by decide +kernel
theorem dX2_nobodyGoes_18 : decode cX2_nobodyGoes 18 = .ok (.aload_n 0, 1) := by decide +kernel
theorem dX2_nobodyGoes_19 : decode cX2_nobodyGoes 19 = .ok (.iload_n 2, 1) := by decide +kernel
theorem dX2_nobodyGoes_20 : decode cX2_nobodyGoes 20 = .ok (.iload_n 3, 1) := by decide +kernel
theorem dX2_nobodyGoes_21 : decode cX2_nobodyGoes 21 = .ok (.iload_n 1, 1) := by decide +kernel
theorem dX2_nobodyGoes_22 : decode cX2_nobodyGoes 22 = .ok (.invokevirtual 22, 3) := by decide +kernel
theorem dX2_nobodyGoes_25 : decode cX2_nobodyGoes 25 = .ok (.istore 4, 2) := by decide +kernel
theorem dX2_nobodyGoes_27 : decode cX2_nobodyGoes 27 = .ok (.iload 4, 2) := by decide +kernel
theorem dX2_nobodyGoes_29 : decode cX2_nobodyGoes 29 = .ok (.aload_n 0, 1) := by decide +kernel
theorem dX2_nobodyGoes_30 : decode cX2_nobodyGoes 30 = .ok (.iload_n 2, 1) := by decide +kernel
theorem dX2_nobodyGoes_31 : decode cX2_nobodyGoes 31 = .ok (.invokevirtual 50, 3) := by decide +kernel
theorem dX2_nobodyGoes_34 : decode cX2_nobodyGoes 34 = .ok (.if_icmp .eq 5, 3) := by decide +kernel
theorem dX2_nobodyGoes_37 : decode cX2_nobodyGoes 37 = .ok (.iconst 0, 1) := by decide +kernel
theorem dX2_nobodyGoes_38 : decode cX2_nobodyGoes 38 = .ok (.ireturn, 1) := by decide +kernel
theorem dX2_nobodyGoes_39 : decode cX2_nobodyGoes 39 = .ok (.iload 4, 2) := by decide +kernel
theorem dX2_nobodyGoes_41 : decode cX2_nobodyGoes 41 = .ok (.istore_n 2, 1) := by decide +kernel
theorem dX2_nobodyGoes_42 : decode cX2_nobodyGoes 42 = .ok (.iinc 3 1, 3) := by decide +kernel
theorem dX2_nobodyGoes_45 : decode cX2_nobodyGoes 45 = .ok (.goto (-35), 3) := by decide +kernel
theorem dX2_nobodyGoes_48 : decode cX2_nobodyGoes 48 = .ok (.iconst 1, 1) := by decide +kernel
theorem dX2_nobodyGoes_49 : decode cX2_nobodyGoes 49 = .ok (.ireturn, 1) := by decide +kernel
theorem dX2_fewestChains_0 : decode cX2_fewestChains 0 = .ok (.aload_n 0, 1) := by decide +kernel
theorem dX2_fewestChains_1 : decode cX2_fewestChains 1 = .ok (.invokevirtual 53, 3) := by decide +kernel
theorem dX2_fewestChains_4 : decode cX2_fewestChains 4 = .ok (.istore_n 1, 1) := by decide +kernel
theorem dX2_fewestChains_5 : decode cX2_fewestChains 5 = .ok (.iconst 0, 1) := by decide +kernel
theorem dX2_fewestChains_6 : decode cX2_fewestChains 6 = .ok (.istore_n 2, 1) := by decide +kernel
theorem dX2_fewestChains_7 : decode cX2_fewestChains 7 = .ok (.iload_n 2, 1) := by decide +kernel
theorem dX2_fewestChains_8 : decode cX2_fewestChains 8 = .ok (.aload_n 0, 1) := by decide +kernel
theorem dX2_fewestChains_9 : decode cX2_fewestChains 9 = .ok (.invokevirtual 53, 3) := by decide +kernel
theorem dX2_fewestChains_12 : decode cX2_fewestChains 12 = .ok (.if_icmp .ge 30, 3) := by decide +kernel
theorem dX2_fewestChains_15 : decode cX2_fewestChains 15 = .ok (.iload_n 2, 1) := by decide +kernel
theorem dX2_fewestChains_16 : decode cX2_fewestChains 16 = .ok (.invokestatic 57, 3) := by decide +kernel
theorem dX2_fewestChains_19 : decode cX2_fewestChains 19 = .ok (.iload_n 1, 1) := by decide +kernel
theorem dX2_fewestChains_20 : decode cX2_fewestChains 20 = .ok (.invokestatic 57, 3) := by decide +kernel
theorem dX2_fewestChains_23 : decode cX2_fewestChains 23 = .ok (.if_icmp .ge 13, 3) := by decide +kernel
theorem dX2_fewestChains_26 : decode cX2_fewestChains 26 = .ok (.aload_n 0, 1) := by decide +kernel
theorem dX2_fewestChains_27 : decode cX2_fewestChains 27 = .ok (.iload_n 2, 1) := by decide +kernel
theorem dX2_fewestChains_28 : decode cX2_fewestChains 28 = .ok (.invokestatic 62, 3) := by decide +kernel
theorem dX2_fewestChains_31 : decode cX2_fewestChains 31 = .ok (.ifCond .eq 5, 3) := by decide +kernel
theorem dX2_fewestChains_34 : decode cX2_fewestChains 34 = .ok (.iload_n 2, 1) := by decide +kernel
theorem dX2_fewestChains_35 : decode cX2_fewestChains 35 = .ok (.istore_n 1, 1) := by decide +kernel
theorem dX2_fewestChains_36 : decode cX2_fewestChains 36 = .ok (.iinc 2 1, 3) := by decide +kernel
theorem dX2_fewestChains_39 : decode cX2_fewestChains 39 = .ok (.goto (-32), 3) := by decide +kernel
theorem dX2_fewestChains_42 : decode cX2_fewestChains 42 = .ok (.iload_n 1, 1) := by decide +kernel
theorem dX2_fewestChains_43 : decode cX2_fewestChains 43 = .ok (.ireturn, 1) := by decide +kernel
theorem dX2_weddingOf_0 : decode cX2_weddingOf 0 = .ok (.sipush 1000, 3) := by decide +kernel
theorem dX2_weddingOf_3 : decode cX2_weddingOf 3 = .ok (.aload_n 0, 1) := by decide +kernel
theorem dX2_weddingOf_4 : decode cX2_weddingOf 4 = .ok (.iload_n 1, 1) := by decide +kernel
theorem dX2_weddingOf_5 : decode cX2_weddingOf 5 = .ok (.iload_n 2, 1) := by decide +kernel
theorem dX2_weddingOf_6 : decode cX2_weddingOf 6 = .ok (.invokevirtual 66, 3) := by decide +kernel
theorem dX2_weddingOf_9 : decode cX2_weddingOf 9 = .ok (.iadd, 1) := by decide +kernel
theorem dX2_weddingOf_10 : decode cX2_weddingOf 10 = .ok (.aload_n 0, 1) := by decide +kernel
theorem dX2_weddingOf_11 : decode cX2_weddingOf 11 = .ok (.iload_n 2, 1) := by decide +kernel
theorem dX2_weddingOf_12 : decode cX2_weddingOf 12 = .ok (.iload_n 1, 1) := by decide +kernel
theorem dX2_weddingOf_13 : decode cX2_weddingOf 13 = .ok (.invokevirtual 66, 3) := by decide +kernel
theorem dX2_weddingOf_16 : decode cX2_weddingOf 16 = .ok (.iadd, 1) := by decide +kernel
theorem dX2_weddingOf_17 : decode cX2_weddingOf 17 = .ok (.ireturn, 1) := by decide +kernel
theorem dX2_mostWeddings_0 : decode cX2_mostWeddings 0 = .ok (.aload_n 0, 1) := by decide +kernel
theorem dX2_mostWeddings_1 : decode cX2_mostWeddings 1 = .ok (.aload_n 0, 1) := by decide +kernel
theorem dX2_mostWeddings_2 : decode cX2_mostWeddings 2 = .ok (.invokevirtual 53, 3) := by decide +kernel
theorem dX2_mostWeddings_5 : decode cX2_mostWeddings 5 = .ok (.iconst 0, 1) := by decide +kernel
theorem dX2_mostWeddings_6 : decode cX2_mostWeddings 6 = .ok (.invokestatic 69, 3) := by decide +kernel
theorem dX2_mostWeddings_9 : decode cX2_mostWeddings 9 = .ok (.ireturn, 1) := by decide +kernel
theorem dX2_mostWed_0 : decode cX2_mostWed 0 = .ok (.iload_n 2, 1) := by decide +kernel
theorem dX2_mostWed_1 : decode cX2_mostWed 1 = .ok (.aload_n 0, 1) := by decide +kernel
theorem dX2_mostWed_2 : decode cX2_mostWed 2 = .ok (.getfield 73, 3) := by decide +kernel
theorem dX2_mostWed_5 : decode cX2_mostWed 5 = .ok (.if_icmp .lt 5, 3) := by decide +kernel
theorem dX2_mostWed_8 : decode cX2_mostWed 8 = .ok (.iconst 0, 1) := by decide +kernel
theorem dX2_mostWed_9 : decode cX2_mostWed 9 = .ok (.ireturn, 1) := by decide +kernel
theorem dX2_mostWed_10 : decode cX2_mostWed 10 = .ok (.aload_n 0, 1) := by decide +kernel
theorem dX2_mostWed_11 : decode cX2_mostWed 11 = .ok (.iload_n 1, 1) := by decide +kernel
theorem dX2_mostWed_12 : decode cX2_mostWed 12 = .ok (.iload_n 2, 1) := by decide +kernel
theorem dX2_mostWed_13 : decode cX2_mostWed 13 = .ok (.iconst 1, 1) := by decide +kernel
theorem dX2_mostWed_14 : decode cX2_mostWed 14 = .ok (.iadd, 1) := by decide +kernel
theorem dX2_mostWed_15 : decode cX2_mostWed 15 = .ok (.invokestatic 69, 3) := by decide +kernel
theorem dX2_mostWed_18 : decode cX2_mostWed 18 = .ok (.istore_n 3, 1) := by decide +kernel
theorem dX2_mostWed_19 : decode cX2_mostWed 19 = .ok (.iload_n 1, 1) := by decide +kernel
theorem dX2_mostWed_20 : decode cX2_mostWed 20 = .ok (.iload_n 2, 1) := by decide +kernel
theorem dX2_mostWed_21 : decode cX2_mostWed 21 = .ok (.ishr, 1) := by decide +kernel
theorem dX2_mostWed_22 : decode cX2_mostWed 22 = .ok (.iconst 1, 1) := by decide +kernel
theorem dX2_mostWed_23 : decode cX2_mostWed 23 = .ok (.iand, 1) := by decide +kernel
theorem dX2_mostWed_24 : decode cX2_mostWed 24 = .ok (.ifCond .ne 5, 3) := by decide +kernel
theorem dX2_mostWed_27 : decode cX2_mostWed 27 = .ok (.iload_n 3, 1) := by decide +kernel
theorem dX2_mostWed_28 : decode cX2_mostWed 28 = .ok (.ireturn, 1) := by decide +kernel
theorem dX2_mostWed_29 : decode cX2_mostWed 29 = .ok (.iload_n 2, 1) := by decide +kernel
theorem dX2_mostWed_30 : decode cX2_mostWed 30 = .ok (.iconst 1, 1) := by decide +kernel
theorem dX2_mostWed_31 : decode cX2_mostWed 31 = .ok (.iadd, 1) := by decide +kernel
theorem dX2_mostWed_32 : decode cX2_mostWed 32 = .ok (.istore 4, 2) := by decide +kernel
theorem dX2_mostWed_34 : decode cX2_mostWed 34 = .ok (.iload 4, 2) := by decide +kernel
theorem dX2_mostWed_36 : decode cX2_mostWed 36 = .ok (.aload_n 0, 1) := by decide +kernel
theorem dX2_mostWed_37 : decode cX2_mostWed 37 = .ok (.getfield 73, 3) := by decide +kernel
theorem dX2_mostWed_40 : decode cX2_mostWed 40 = .ok (.if_icmp .ge 60, 3) := by decide +kernel
theorem dX2_mostWed_43 : decode cX2_mostWed 43 = .ok (.iload_n 1, 1) := by decide +kernel
theorem dX2_mostWed_44 : decode cX2_mostWed 44 = .ok (.iload 4, 2) := by decide +kernel
theorem dX2_mostWed_46 : decode cX2_mostWed 46 = .ok (.ishr, 1) := by decide +kernel
theorem dX2_mostWed_47 : decode cX2_mostWed 47 = .ok (.iconst 1, 1) := by decide +kernel
theorem dX2_mostWed_48 : decode cX2_mostWed 48 = .ok (.iand, 1) := by decide +kernel
theorem dX2_mostWed_49 : decode cX2_mostWed 49 = .ok (.ifCond .eq 45, 3) := by decide +kernel
theorem dX2_mostWed_52 : decode cX2_mostWed 52 = .ok (.aload_n 0, 1) := by decide +kernel
theorem dX2_mostWed_53 : decode cX2_mostWed 53 = .ok (.iload_n 2, 1) := by decide +kernel
theorem dX2_mostWed_54 : decode cX2_mostWed 54 = .ok (.iload 4, 2) := by decide +kernel
theorem dX2_mostWed_56 : decode cX2_mostWed 56 = .ok (.invokevirtual 76, 3) := by decide +kernel
theorem dX2_mostWed_59 : decode cX2_mostWed 59 = .ok (.ifCond .eq 35, 3) := by decide +kernel
theorem dX2_mostWed_62 : decode cX2_mostWed 62 = .ok (.aload_n 0, 1) := by decide +kernel
theorem dX2_mostWed_63 : decode cX2_mostWed 63 = .ok (.iload_n 2, 1) := by decide +kernel
theorem dX2_mostWed_64 : decode cX2_mostWed 64 = .ok (.iload 4, 2) := by decide +kernel
theorem dX2_mostWed_66 : decode cX2_mostWed 66 = .ok (.invokestatic 80, 3) := by decide +kernel
theorem dX2_mostWed_69 : decode cX2_mostWed 69 = .ok (.aload_n 0, 1) := by decide +kernel
theorem dX2_mostWed_70 : decode cX2_mostWed 70 = .ok (.iload_n 1, 1) := by decide +kernel
theorem dX2_mostWed_71 : decode cX2_mostWed 71 = .ok (.iconst 1, 1) := by decide +kernel
theorem dX2_mostWed_72 : decode cX2_mostWed 72 = .ok (.iload 4, 2) := by decide +kernel
theorem dX2_mostWed_74 : decode cX2_mostWed 74 = .ok (.ishl, 1) := by decide +kernel
theorem dX2_mostWed_75 : decode cX2_mostWed 75 = .ok (.iconst (-1), 1) := by decide +kernel
theorem dX2_mostWed_76 : decode cX2_mostWed 76 = .ok (.ixor, 1) := by decide +kernel
theorem dX2_mostWed_77 : decode cX2_mostWed 77 = .ok (.iand, 1) := by decide +kernel
theorem dX2_mostWed_78 : decode cX2_mostWed 78 = .ok (.iload_n 2, 1) := by decide +kernel
theorem dX2_mostWed_79 : decode cX2_mostWed 79 = .ok (.iconst 1, 1) := by decide +kernel
theorem dX2_mostWed_80 : decode cX2_mostWed 80 = .ok (.iadd, 1) := by decide +kernel
theorem dX2_mostWed_81 : decode cX2_mostWed 81 = .ok (.invokestatic 69, 3) := by decide +kernel
theorem dX2_mostWed_84 : decode cX2_mostWed 84 = .ok (.iadd, 1) := by decide +kernel
theorem dX2_mostWed_85 : decode cX2_mostWed 85 = .ok (.istore 5, 2) := by decide +kernel
theorem dX2_mostWed_87 : decode cX2_mostWed 87 = .ok (.iload_n 3, 1) := by decide +kernel
theorem dX2_mostWed_88 : decode cX2_mostWed 88 = .ok (.iload 5, 2) := by decide +kernel
theorem dX2_mostWed_90 : decode cX2_mostWed 90 = .ok (.invokestatic 83, 3) := by decide +kernel
theorem dX2_mostWed_93 : decode cX2_mostWed 93 = .ok (.istore_n 3, 1) := by decide +kernel
theorem dX2_mostWed_94 : decode cX2_mostWed 94 = .ok (.iinc 4 1, 3) := by decide +kernel
theorem dX2_mostWed_97 : decode cX2_mostWed 97 = .ok (.goto (-63), 3) := by decide +kernel
theorem dX2_mostWed_100 : decode cX2_mostWed 100 = .ok (.iload_n 3, 1) := by decide +kernel
theorem dX2_mostWed_101 : decode cX2_mostWed 101 = .ok (.ireturn, 1) := by decide +kernel
theorem dX2_firstMate_0 : decode cX2_firstMate 0 = .ok (.aload_n 0, 1) := by decide +kernel
theorem dX2_firstMate_1 : decode cX2_firstMate 1 = .ok (.iload_n 1, 1) := by decide +kernel
theorem dX2_firstMate_2 : decode cX2_firstMate 2 = .ok (.iload_n 2, 1) := by decide +kernel
theorem dX2_firstMate_3 : decode cX2_firstMate 3 = .ok (.invokestatic 69, 3) := by decide +kernel
theorem dX2_firstMate_6 : decode cX2_firstMate 6 = .ok (.istore_n 3, 1) := by decide +kernel
theorem dX2_firstMate_7 : decode cX2_firstMate 7 = .ok (.iload_n 2, 1) := by decide +kernel
theorem dX2_firstMate_8 : decode cX2_firstMate 8 = .ok (.iconst 1, 1) := by decide +kernel
theorem dX2_firstMate_9 : decode cX2_firstMate 9 = .ok (.iadd, 1) := by decide +kernel
theorem dX2_firstMate_10 : decode cX2_firstMate 10 = .ok (.istore 4, 2) := by decide +kernel
theorem dX2_firstMate_12 : decode cX2_firstMate 12 = .ok (.iload 4, 2) := by decide +kernel
theorem dX2_firstMate_14 : decode cX2_firstMate 14 = .ok (.aload_n 0, 1) := by decide +kernel
theorem dX2_firstMate_15 : decode cX2_firstMate 15 = .ok (.getfield 73, 3) := by decide +kernel
theorem dX2_firstMate_18 : decode cX2_firstMate 18 = .ok (.if_icmp .ge 58, 3) := by decide +kernel
theorem dX2_firstMate_21 : decode cX2_firstMate 21 = .ok (.iload_n 1, 1) := by decide +kernel
theorem dX2_firstMate_22 : decode cX2_firstMate 22 = .ok (.iload 4, 2) := by decide +kernel
theorem dX2_firstMate_24 : decode cX2_firstMate 24 = .ok (.ishr, 1) := by decide +kernel
theorem dX2_firstMate_25 : decode cX2_firstMate 25 = .ok (.iconst 1, 1) := by decide +kernel
theorem dX2_firstMate_26 : decode cX2_firstMate 26 = .ok (.iand, 1) := by decide +kernel
theorem dX2_firstMate_27 : decode cX2_firstMate 27 = .ok (.ifCond .eq 43, 3) := by decide +kernel
theorem dX2_firstMate_30 : decode cX2_firstMate 30 = .ok (.aload_n 0, 1) := by decide +kernel
theorem dX2_firstMate_31 : decode cX2_firstMate 31 = .ok (.iload_n 2, 1) := by decide +kernel
theorem dX2_firstMate_32 : decode cX2_firstMate 32 = .ok (.iload 4, 2) := by decide +kernel
theorem dX2_firstMate_34 : decode cX2_firstMate 34 = .ok (.invokevirtual 76, 3) := by decide +kernel
theorem dX2_firstMate_37 : decode cX2_firstMate 37 = .ok (.ifCond .eq 33, 3) := by decide +kernel
theorem dX2_firstMate_40 : decode cX2_firstMate 40 = .ok (.aload_n 0, 1) := by decide +kernel
theorem dX2_firstMate_41 : decode cX2_firstMate 41 = .ok (.iload_n 2, 1) := by decide +kernel
theorem dX2_firstMate_42 : decode cX2_firstMate 42 = .ok (.iload 4, 2) := by decide +kernel
theorem dX2_firstMate_44 : decode cX2_firstMate 44 = .ok (.invokestatic 80, 3) := by decide +kernel
theorem dX2_firstMate_47 : decode cX2_firstMate 47 = .ok (.aload_n 0, 1) := by decide +kernel
theorem dX2_firstMate_48 : decode cX2_firstMate 48 = .ok (.iload_n 1, 1) := by decide +kernel
theorem dX2_firstMate_49 : decode cX2_firstMate 49 = .ok (.iconst 1, 1) := by decide +kernel
theorem dX2_firstMate_50 : decode cX2_firstMate 50 = .ok (.iload 4, 2) := by decide +kernel
theorem dX2_firstMate_52 : decode cX2_firstMate 52 = .ok (.ishl, 1) := by decide +kernel
theorem dX2_firstMate_53 : decode cX2_firstMate 53 = .ok (.iconst (-1), 1) := by decide +kernel
theorem dX2_firstMate_54 : decode cX2_firstMate 54 = .ok (.ixor, 1) := by decide +kernel
theorem dX2_firstMate_55 : decode cX2_firstMate 55 = .ok (.iand, 1) := by decide +kernel
theorem dX2_firstMate_56 : decode cX2_firstMate 56 = .ok (.iload_n 2, 1) := by decide +kernel
theorem dX2_firstMate_57 : decode cX2_firstMate 57 = .ok (.iconst 1, 1) := by decide +kernel
theorem dX2_firstMate_58 : decode cX2_firstMate 58 = .ok (.iadd, 1) := by decide +kernel
theorem dX2_firstMate_59 : decode cX2_firstMate 59 = .ok (.invokestatic 69, 3) := by decide +kernel
theorem dX2_firstMate_62 : decode cX2_firstMate 62 = .ok (.iadd, 1) := by decide +kernel
theorem dX2_firstMate_63 : decode cX2_firstMate 63 = .ok (.iload_n 3, 1) := by decide +kernel
theorem dX2_firstMate_64 : decode cX2_firstMate 64 = .ok (.if_icmp .ne 6, 3) := by decide +kernel
theorem dX2_firstMate_67 : decode cX2_firstMate 67 = .ok (.iload 4, 2) := by decide +kernel
theorem dX2_firstMate_69 : decode cX2_firstMate 69 = .ok (.ireturn, 1) := by decide +kernel
theorem dX2_firstMate_70 : decode cX2_firstMate 70 = .ok (.iinc 4 1, 3) := by decide +kernel
theorem dX2_firstMate_73 : decode cX2_firstMate 73 = .ok (.goto (-61), 3) := by decide +kernel
theorem dX2_firstMate_76 : decode cX2_firstMate 76 = .ok (.bipush 6, 2) := by decide +kernel
theorem dX2_firstMate_78 : decode cX2_firstMate 78 = .ok (.ireturn, 1) := by decide +kernel
theorem dX2_mateOf_0 : decode cX2_mateOf 0 = .ok (.aload_n 0, 1) := by decide +kernel
theorem dX2_mateOf_1 : decode cX2_mateOf 1 = .ok (.invokevirtual 53, 3) := by decide +kernel
theorem dX2_mateOf_4 : decode cX2_mateOf 4 = .ok (.istore_n 2, 1) := by decide +kernel
theorem dX2_mateOf_5 : decode cX2_mateOf 5 = .ok (.iconst 0, 1) := by decide +kernel
theorem dX2_mateOf_6 : decode cX2_mateOf 6 = .ok (.istore_n 3, 1) := by decide +kernel
theorem dX2_mateOf_7 : decode cX2_mateOf 7 = .ok (.iload_n 3, 1) := by decide +kernel
theorem dX2_mateOf_8 : decode cX2_mateOf 8 = .ok (.iload_n 1, 1) := by decide +kernel
theorem dX2_mateOf_9 : decode cX2_mateOf 9 = .ok (.if_icmp .gt 57, 3) := by decide +kernel
theorem dX2_mateOf_12 : decode cX2_mateOf 12 = .ok (.iload_n 2, 1) := by decide +kernel
theorem dX2_mateOf_13 : decode cX2_mateOf 13 = .ok (.iload_n 3, 1) := by decide +kernel
theorem dX2_mateOf_14 : decode cX2_mateOf 14 = .ok (.ishr, 1) := by decide +kernel
theorem dX2_mateOf_15 : decode cX2_mateOf 15 = .ok (.iconst 1, 1) := by decide +kernel
theorem dX2_mateOf_16 : decode cX2_mateOf 16 = .ok (.iand, 1) := by decide +kernel
theorem dX2_mateOf_17 : decode cX2_mateOf 17 = .ok (.ifCond .eq 43, 3) := by decide +kernel
theorem dX2_mateOf_20 : decode cX2_mateOf 20 = .ok (.aload_n 0, 1) := by decide +kernel
theorem dX2_mateOf_21 : decode cX2_mateOf 21 = .ok (.iload_n 2, 1) := by decide +kernel
theorem dX2_mateOf_22 : decode cX2_mateOf 22 = .ok (.iload_n 3, 1) := by decide +kernel
theorem dX2_mateOf_23 : decode cX2_mateOf 23 = .ok (.invokestatic 88, 3) := by decide +kernel
theorem dX2_mateOf_26 : decode cX2_mateOf 26 = .ok (.istore 4, 2) := by decide +kernel
theorem dX2_mateOf_28 : decode cX2_mateOf 28 = .ok (.iload_n 3, 1) := by decide +kernel
theorem dX2_mateOf_29 : decode cX2_mateOf 29 = .ok (.iload_n 1, 1) := by decide +kernel
theorem dX2_mateOf_30 : decode cX2_mateOf 30 = .ok (.if_icmp .eq 9, 3) := by decide +kernel
theorem dX2_mateOf_33 : decode cX2_mateOf 33 = .ok (.iload 4, 2) := by decide +kernel
theorem dX2_mateOf_35 : decode cX2_mateOf 35 = .ok (.iload_n 1, 1) := by decide +kernel
theorem dX2_mateOf_36 : decode cX2_mateOf 36 = .ok (.if_icmp .ne 15, 3) := by decide +kernel
theorem dX2_mateOf_39 : decode cX2_mateOf 39 = .ok (.iload_n 3, 1) := by decide +kernel
theorem dX2_mateOf_40 : decode cX2_mateOf 40 = .ok (.iload_n 1, 1) := by decide +kernel
theorem dX2_mateOf_41 : decode cX2_mateOf 41 = .ok (.if_icmp .ne 8, 3) := by decide +kernel
theorem dX2_mateOf_44 : decode cX2_mateOf 44 = .ok (.iload 4, 2) := by decide +kernel
theorem dX2_mateOf_46 : decode cX2_mateOf 46 = .ok (.goto 4, 3) := by decide +kernel
theorem dX2_mateOf_49 : decode cX2_mateOf 49 = .ok (.iload_n 3, 1) := by decide +kernel
theorem dX2_mateOf_50 : decode cX2_mateOf 50 = .ok (.ireturn, 1) := by decide +kernel
theorem dX2_mateOf_51 : decode cX2_mateOf 51 = .ok (.iload_n 2, 1) := by decide +kernel
theorem dX2_mateOf_52 : decode cX2_mateOf 52 = .ok (.iconst 1, 1) := by decide +kernel
theorem dX2_mateOf_53 : decode cX2_mateOf 53 = .ok (.iload 4, 2) := by decide +kernel
theorem dX2_mateOf_55 : decode cX2_mateOf 55 = .ok (.ishl, 1) := by decide +kernel
theorem dX2_mateOf_56 : decode cX2_mateOf 56 = .ok (.iconst (-1), 1) := by decide +kernel
theorem dX2_mateOf_57 : decode cX2_mateOf 57 = .ok (.ixor, 1) := by decide +kernel
theorem dX2_mateOf_58 : decode cX2_mateOf 58 = .ok (.iand, 1) := by decide +kernel
theorem dX2_mateOf_59 : decode cX2_mateOf 59 = .ok (.istore_n 2, 1) := by decide +kernel
theorem dX2_mateOf_60 : decode cX2_mateOf 60 = .ok (.iinc 3 1, 3) := by decide +kernel
theorem dX2_mateOf_63 : decode cX2_mateOf 63 = .ok (.goto (-56), 3) := by decide +kernel
theorem dX2_mateOf_66 : decode cX2_mateOf 66 = .ok (.bipush 6, 2) := by decide +kernel
theorem dX2_mateOf_68 : decode cX2_mateOf 68 = .ok (.ireturn, 1) := by decide +kernel
theorem dX2_bestWorth_0 : decode cX2_bestWorth 0 = .ok (.aload_n 0, 1) := by decide +kernel
theorem dX2_bestWorth_1 : decode cX2_bestWorth 1 = .ok (.aload_n 0, 1) := by decide +kernel
theorem dX2_bestWorth_2 : decode cX2_bestWorth 2 = .ok (.getfield 9, 3) := by decide +kernel
theorem dX2_bestWorth_5 : decode cX2_bestWorth 5 = .ok (.aload_n 0, 1) := by decide +kernel
theorem dX2_bestWorth_6 : decode cX2_bestWorth 6 = .ok (.getfield 19, 3) := by decide +kernel
theorem dX2_bestWorth_9 : decode cX2_bestWorth 9 = .ok (.iload_n 1, 1) := by decide +kernel
theorem dX2_bestWorth_10 : decode cX2_bestWorth 10 = .ok (.invokestatic 91, 3) := by decide +kernel
theorem dX2_bestWorth_13 : decode cX2_bestWorth 13 = .ok (.ireturn, 1) := by decide +kernel
theorem dX2_mostWorth_0 : decode cX2_mostWorth 0 = .ok (.iload_n 3, 1) := by decide +kernel
theorem dX2_mostWorth_1 : decode cX2_mostWorth 1 = .ok (.ifCond .le 11, 3) := by decide +kernel
theorem dX2_mostWorth_4 : decode cX2_mostWorth 4 = .ok (.iload_n 2, 1) := by decide +kernel
theorem dX2_mostWorth_5 : decode cX2_mostWorth 5 = .ok (.aload_n 0, 1) := by decide +kernel
theorem dX2_mostWorth_6 : decode cX2_mostWorth 6 = .ok (.getfield 33, 3) := by decide +kernel
theorem dX2_mostWorth_9 : decode cX2_mostWorth 9 = .ok (.if_icmp .lt 5, 3) := by decide +kernel
theorem dX2_mostWorth_12 : decode cX2_mostWorth 12 = .ok (.iconst 0, 1) := by decide +kernel
theorem dX2_mostWorth_13 : decode cX2_mostWorth 13 = .ok (.ireturn, 1) := by decide +kernel
theorem dX2_mostWorth_14 : decode cX2_mostWorth 14 = .ok (.iconst 0, 1) := by decide +kernel
theorem dX2_mostWorth_15 : decode cX2_mostWorth 15 = .ok (.istore 4, 2) := by decide +kernel
theorem dX2_mostWorth_17 : decode cX2_mostWorth 17 = .ok (.iconst 0, 1) := by decide +kernel
theorem dX2_mostWorth_18 : decode cX2_mostWorth 18 = .ok (.istore 5, 2) := by decide +kernel
theorem dX2_mostWorth_20 : decode cX2_mostWorth 20 = .ok (.iload 5, 2) := by decide +kernel
theorem dX2_mostWorth_22 : decode cX2_mostWorth 22 = .ok (.aload_n 0, 1) := by decide +kernel
theorem dX2_mostWorth_23 : decode cX2_mostWorth 23 = .ok (.getfield 73, 3) := by decide +kernel
theorem dX2_mostWorth_26 : decode cX2_mostWorth 26 = .ok (.if_icmp .gt 49, 3) := by decide +kernel
theorem dX2_mostWorth_29 : decode cX2_mostWorth 29 = .ok (.aload_n 0, 1) := by decide +kernel
theorem dX2_mostWorth_30 : decode cX2_mostWorth 30 = .ok (.iload_n 1, 1) := by decide +kernel
theorem dX2_mostWorth_31 : decode cX2_mostWorth 31 = .ok (.iload_n 2, 1) := by decide +kernel
theorem dX2_mostWorth_32 : decode cX2_mostWorth 32 = .ok (.iload 5, 2) := by decide +kernel
theorem dX2_mostWorth_34 : decode cX2_mostWorth 34 = .ok (.invokestatic 95, 3) := by decide +kernel
theorem dX2_mostWorth_37 : decode cX2_mostWorth 37 = .ok (.invokevirtual 22, 3) := by decide +kernel
theorem dX2_mostWorth_40 : decode cX2_mostWorth 40 = .ok (.istore 6, 2) := by decide +kernel
theorem dX2_mostWorth_42 : decode cX2_mostWorth 42 = .ok (.iload 4, 2) := by decide +kernel
theorem dX2_mostWorth_44 : decode cX2_mostWorth 44 = .ok (.aload_n 0, 1) := by decide +kernel
theorem dX2_mostWorth_45 : decode cX2_mostWorth 45 = .ok (.iload 6, 2) := by decide +kernel
theorem dX2_mostWorth_47 : decode cX2_mostWorth 47 = .ok (.iload_n 2, 1) := by decide +kernel
theorem dX2_mostWorth_48 : decode cX2_mostWorth 48 = .ok (.invokevirtual 26, 3) := by decide +kernel
theorem dX2_mostWorth_51 : decode cX2_mostWorth 51 = .ok (.aload_n 0, 1) := by decide +kernel
theorem dX2_mostWorth_52 : decode cX2_mostWorth 52 = .ok (.iload 6, 2) := by decide +kernel
theorem dX2_mostWorth_54 : decode cX2_mostWorth 54 = .ok (.iload_n 2, 1) := by decide +kernel
theorem dX2_mostWorth_55 : decode cX2_mostWorth 55 = .ok (.iconst 1, 1) := by decide +kernel
theorem dX2_mostWorth_56 : decode cX2_mostWorth 56 = .ok (.iadd, 1) := by decide +kernel
theorem dX2_mostWorth_57 : decode cX2_mostWorth 57 = .ok (.iload_n 3, 1) := by decide +kernel
theorem dX2_mostWorth_58 : decode cX2_mostWorth 58 = .ok (.iconst 1, 1) := by decide +kernel
theorem dX2_mostWorth_59 : decode cX2_mostWorth 59 = .ok (.isub, 1) := by decide +kernel
theorem dX2_mostWorth_60 : decode cX2_mostWorth 60 = .ok (.invokestatic 91, 3) := by decide +kernel
theorem dX2_mostWorth_63 : decode cX2_mostWorth 63 = .ok (.iadd, 1) := by decide +kernel
theorem dX2_mostWorth_64 : decode cX2_mostWorth 64 = .ok (.invokestatic 83, 3) := by decide +kernel
theorem dX2_mostWorth_67 : decode cX2_mostWorth 67 = .ok (.istore 4, 2) := by decide +kernel
theorem dX2_mostWorth_69 : decode cX2_mostWorth 69 = .ok (.iinc 5 1, 3) := by decide +kernel
theorem dX2_mostWorth_72 : decode cX2_mostWorth 72 = .ok (.goto (-52), 3) := by decide +kernel
theorem dX2_mostWorth_75 : decode cX2_mostWorth 75 = .ok (.iload 4, 2) := by decide +kernel
theorem dX2_mostWorth_77 : decode cX2_mostWorth 77 = .ok (.ireturn, 1) := by decide +kernel
theorem dX2_firstBestAct_0 : decode cX2_firstBestAct 0 = .ok (.iconst 0, 1) := by decide +kernel
theorem dX2_firstBestAct_1 : decode cX2_firstBestAct 1 = .ok (.istore 4, 2) := by decide +kernel
theorem dX2_firstBestAct_3 : decode cX2_firstBestAct 3 = .ok (.iconst (-1), 1) := by decide +kernel
theorem dX2_firstBestAct_4 : decode cX2_firstBestAct 4 = .ok (.istore 5, 2) := by decide +kernel
theorem dX2_firstBestAct_6 : decode cX2_firstBestAct 6 = .ok (.iconst 0, 1) := by decide +kernel
theorem dX2_firstBestAct_7 : decode cX2_firstBestAct 7 = .ok (.istore 6, 2) := by decide +kernel
theorem dX2_firstBestAct_9 : decode cX2_firstBestAct 9 = .ok (.iload 6, 2) := by decide +kernel
theorem dX2_firstBestAct_11 : decode cX2_firstBestAct 11 = .ok (.aload_n 0, 1) := by decide +kernel
theorem dX2_firstBestAct_12 : decode cX2_firstBestAct 12 = .ok (.getfield 73, 3) := by decide +kernel
theorem dX2_firstBestAct_15 : decode cX2_firstBestAct 15 = .ok (.if_icmp .gt 59, 3) := by decide +kernel
theorem dX2_firstBestAct_18 : decode cX2_firstBestAct 18 = .ok (.aload_n 0, 1) := by decide +kernel
theorem dX2_firstBestAct_19 : decode cX2_firstBestAct 19 = .ok (.iload_n 1, 1) := by decide +kernel
theorem dX2_firstBestAct_20 : decode cX2_firstBestAct 20 = .ok (.iload_n 2, 1) := by decide +kernel
theorem dX2_firstBestAct_21 : decode cX2_firstBestAct 21 = .ok (.iload 6, 2) := by decide +kernel
theorem dX2_firstBestAct_23 : decode cX2_firstBestAct 23 = .ok (.invokestatic 95, 3) := by decide +kernel
theorem dX2_firstBestAct_26 : decode cX2_firstBestAct 26 = .ok (.invokevirtual 22, 3) := by decide +kernel
theorem dX2_firstBestAct_29 : decode cX2_firstBestAct 29 = .ok (.istore 7, 2) := by decide +kernel
theorem dX2_firstBestAct_31 : decode cX2_firstBestAct 31 = .ok (.aload_n 0, 1) := by decide +kernel
theorem dX2_firstBestAct_32 : decode cX2_firstBestAct 32 = .ok (.iload 7, 2) := by decide +kernel
theorem dX2_firstBestAct_34 : decode cX2_firstBestAct 34 = .ok (.iload_n 2, 1) := by decide +kernel
theorem dX2_firstBestAct_35 : decode cX2_firstBestAct 35 = .ok (.invokevirtual 26, 3) := by decide +kernel
theorem dX2_firstBestAct_38 : decode cX2_firstBestAct 38 = .ok (.aload_n 0, 1) := by decide +kernel
theorem dX2_firstBestAct_39 : decode cX2_firstBestAct 39 = .ok (.iload 7, 2) := by decide +kernel
theorem dX2_firstBestAct_41 : decode cX2_firstBestAct 41 = .ok (.iload_n 2, 1) := by decide +kernel
theorem dX2_firstBestAct_42 : decode cX2_firstBestAct 42 = .ok (.iconst 1, 1) := by decide +kernel
theorem dX2_firstBestAct_43 : decode cX2_firstBestAct 43 = .ok (.iadd, 1) := by decide +kernel
theorem dX2_firstBestAct_44 : decode cX2_firstBestAct 44 = .ok (.iload_n 3, 1) := by decide +kernel
theorem dX2_firstBestAct_45 : decode cX2_firstBestAct 45 = .ok (.iconst 1, 1) := by decide +kernel
theorem dX2_firstBestAct_46 : decode cX2_firstBestAct 46 = .ok (.isub, 1) := by decide +kernel
theorem dX2_firstBestAct_47 : decode cX2_firstBestAct 47 = .ok (.invokestatic 91, 3) := by decide +kernel
theorem dX2_firstBestAct_50 : decode cX2_firstBestAct 50 = .ok (.iadd, 1) := by decide +kernel
theorem dX2_firstBestAct_51 : decode cX2_firstBestAct 51 = .ok (.istore 8, 2) := by decide +kernel
theorem dX2_firstBestAct_53 : decode cX2_firstBestAct 53 = .ok (.iload 8, 2) := by decide +kernel
theorem dX2_firstBestAct_55 : decode cX2_firstBestAct 55 = .ok (.iload 5, 2) := by decide +kernel
theorem dX2_firstBestAct_57 : decode cX2_firstBestAct 57 = .ok (.if_icmp .le 11, 3) := by decide +kernel
theorem dX2_firstBestAct_60 : decode cX2_firstBestAct 60 = .ok (.iload 8, 2) := by decide +kernel
theorem dX2_firstBestAct_62 : decode cX2_firstBestAct 62 = .ok (.istore 5, 2) := by decide +kernel
theorem dX2_firstBestAct_64 : decode cX2_firstBestAct 64 = .ok (.iload 6, 2) := by decide +kernel
theorem dX2_firstBestAct_66 : decode cX2_firstBestAct 66 = .ok (.istore 4, 2) := by decide +kernel
theorem dX2_firstBestAct_68 : decode cX2_firstBestAct 68 = .ok (.iinc 6 1, 3) := by decide +kernel
theorem dX2_firstBestAct_71 : decode cX2_firstBestAct 71 = .ok (.goto (-62), 3) := by decide +kernel
theorem dX2_firstBestAct_74 : decode cX2_firstBestAct 74 = .ok (.iload 4, 2) := by decide +kernel
theorem dX2_firstBestAct_76 : decode cX2_firstBestAct 76 = .ok (.ireturn, 1) := by decide +kernel
theorem dX2_bestWays_0 : decode cX2_bestWays 0 = .ok (.aload_n 0, 1) := by decide +kernel
theorem dX2_bestWays_1 : decode cX2_bestWays 1 = .ok (.aload_n 0, 1) := by decide +kernel
theorem dX2_bestWays_2 : decode cX2_bestWays 2 = .ok (.getfield 9, 3) := by decide +kernel
theorem dX2_bestWays_5 : decode cX2_bestWays 5 = .ok (.aload_n 0, 1) := by decide +kernel
theorem dX2_bestWays_6 : decode cX2_bestWays 6 = .ok (.getfield 19, 3) := by decide +kernel
theorem dX2_bestWays_9 : decode cX2_bestWays 9 = .ok (.iload_n 1, 1) := by decide +kernel
theorem dX2_bestWays_10 : decode cX2_bestWays 10 = .ok (.invokestatic 91, 3) := by decide +kernel
theorem dX2_bestWays_13 : decode cX2_bestWays 13 = .ok (.istore_n 2, 1) := by decide +kernel
theorem dX2_bestWays_14 : decode cX2_bestWays 14 = .ok (.aload_n 0, 1) := by decide +kernel
theorem dX2_bestWays_15 : decode cX2_bestWays 15 = .ok (.aload_n 0, 1) := by decide +kernel
theorem dX2_bestWays_16 : decode cX2_bestWays 16 = .ok (.getfield 9, 3) := by decide +kernel
theorem dX2_bestWays_19 : decode cX2_bestWays 19 = .ok (.aload_n 0, 1) := by decide +kernel
theorem dX2_bestWays_20 : decode cX2_bestWays 20 = .ok (.getfield 19, 3) := by decide +kernel
theorem dX2_bestWays_23 : decode cX2_bestWays 23 = .ok (.iload_n 1, 1) := by decide +kernel
theorem dX2_bestWays_24 : decode cX2_bestWays 24 = .ok (.iload_n 2, 1) := by decide +kernel
theorem dX2_bestWays_25 : decode cX2_bestWays 25 = .ok (.invokestatic 98, 3) := by decide +kernel
theorem dX2_bestWays_28 : decode cX2_bestWays 28 = .ok (.ireturn, 1) := by decide +kernel
theorem dX2_plansWorth_0 : decode cX2_plansWorth 0 = .ok (.iload_n 3, 1) := by decide +kernel
theorem dX2_plansWorth_1 : decode cX2_plansWorth 1 = .ok (.ifCond .le 11, 3) := by decide +kernel
theorem dX2_plansWorth_4 : decode cX2_plansWorth 4 = .ok (.iload_n 2, 1) := by decide +kernel
theorem dX2_plansWorth_5 : decode cX2_plansWorth 5 = .ok (.aload_n 0, 1) := by decide +kernel
theorem dX2_plansWorth_6 : decode cX2_plansWorth 6 = .ok (.getfield 33, 3) := by decide +kernel
theorem dX2_plansWorth_9 : decode cX2_plansWorth 9 = .ok (.if_icmp .lt 14, 3) := by decide +kernel
theorem dX2_plansWorth_12 : decode cX2_plansWorth 12 = .ok (.iload 4, 2) := by decide +kernel
theorem dX2_plansWorth_14 : decode cX2_plansWorth 14 = .ok (.ifCond .ne 7, 3) := by decide +kernel
theorem dX2_plansWorth_17 : decode cX2_plansWorth 17 = .ok (.iconst 1, 1) := by decide +kernel
theorem dX2_plansWorth_18 : decode cX2_plansWorth 18 = .ok (.goto 4, 3) := by decide +kernel
theorem dX2_plansWorth_21 : decode cX2_plansWorth 21 = .ok (.iconst 0, 1) := by decide +kernel
theorem dX2_plansWorth_22 : decode cX2_plansWorth 22 = .ok (.ireturn, 1) := by decide +kernel
theorem dX2_plansWorth_23 : decode cX2_plansWorth 23 = .ok (.iconst 0, 1) := by decide +kernel
theorem dX2_plansWorth_24 : decode cX2_plansWorth 24 = .ok (.istore 5, 2) := by decide +kernel
theorem dX2_plansWorth_26 : decode cX2_plansWorth 26 = .ok (.iconst 0, 1) := by decide +kernel
theorem dX2_plansWorth_27 : decode cX2_plansWorth 27 = .ok (.istore 6, 2) := by decide +kernel
theorem dX2_plansWorth_29 : decode cX2_plansWorth 29 = .ok (.iload 6, 2) := by decide +kernel
theorem dX2_plansWorth_31 : decode cX2_plansWorth 31 = .ok (.aload_n 0, 1) := by decide +kernel
theorem dX2_plansWorth_32 : decode cX2_plansWorth 32 = .ok (.getfield 73, 3) := by decide +kernel
theorem dX2_plansWorth_35 : decode cX2_plansWorth 35 = .ok (.if_icmp .gt 49, 3) := by decide +kernel
theorem dX2_plansWorth_38 : decode cX2_plansWorth 38 = .ok (.aload_n 0, 1) := by decide +kernel
theorem dX2_plansWorth_39 : decode cX2_plansWorth 39 = .ok (.iload_n 1, 1) := by decide +kernel
theorem dX2_plansWorth_40 : decode cX2_plansWorth 40 = .ok (.iload_n 2, 1) := by decide +kernel
theorem dX2_plansWorth_41 : decode cX2_plansWorth 41 = .ok (.iload 6, 2) := by decide +kernel
theorem dX2_plansWorth_43 : decode cX2_plansWorth 43 = .ok (.invokestatic 95, 3) := by decide +kernel
theorem dX2_plansWorth_46 : decode cX2_plansWorth 46 = .ok (.invokevirtual 22, 3) := by decide +kernel
theorem dX2_plansWorth_49 : decode cX2_plansWorth 49 = .ok (.istore 7, 2) := by decide +kernel
theorem dX2_plansWorth_51 : decode cX2_plansWorth 51 = .ok (.iload 5, 2) := by decide +kernel
theorem dX2_plansWorth_53 : decode cX2_plansWorth 53 = .ok (.aload_n 0, 1) := by decide +kernel
theorem dX2_plansWorth_54 : decode cX2_plansWorth 54 = .ok (.iload 7, 2) := by decide +kernel
theorem dX2_plansWorth_56 : decode cX2_plansWorth 56 = .ok (.iload_n 2, 1) := by decide +kernel
theorem dX2_plansWorth_57 : decode cX2_plansWorth 57 = .ok (.iconst 1, 1) := by decide +kernel
theorem dX2_plansWorth_58 : decode cX2_plansWorth 58 = .ok (.iadd, 1) := by decide +kernel
theorem dX2_plansWorth_59 : decode cX2_plansWorth 59 = .ok (.iload_n 3, 1) := by decide +kernel
theorem dX2_plansWorth_60 : decode cX2_plansWorth 60 = .ok (.iconst 1, 1) := by decide +kernel
theorem dX2_plansWorth_61 : decode cX2_plansWorth 61 = .ok (.isub, 1) := by decide +kernel
theorem dX2_plansWorth_62 : decode cX2_plansWorth 62 = .ok (.iload 4, 2) := by decide +kernel
theorem dX2_plansWorth_64 : decode cX2_plansWorth 64 = .ok (.aload_n 0, 1) := by decide +kernel
theorem dX2_plansWorth_65 : decode cX2_plansWorth 65 = .ok (.iload 7, 2) := by decide +kernel
theorem dX2_plansWorth_67 : decode cX2_plansWorth 67 = .ok (.iload_n 2, 1) := by decide +kernel
theorem dX2_plansWorth_68 : decode cX2_plansWorth 68 = .ok (.invokevirtual 26, 3) := by decide +kernel
theorem dX2_plansWorth_71 : decode cX2_plansWorth 71 = .ok (.isub, 1) := by decide +kernel
theorem dX2_plansWorth_72 : decode cX2_plansWorth 72 = .ok (.invokestatic 98, 3) := by decide +kernel
theorem dX2_plansWorth_75 : decode cX2_plansWorth 75 = .ok (.iadd, 1) := by decide +kernel
theorem dX2_plansWorth_76 : decode cX2_plansWorth 76 = .ok (.istore 5, 2) := by decide +kernel
theorem dX2_plansWorth_78 : decode cX2_plansWorth 78 = .ok (.iinc 6 1, 3) := by decide +kernel
theorem dX2_plansWorth_81 : decode cX2_plansWorth 81 = .ok (.goto (-52), 3) := by decide +kernel
theorem dX2_plansWorth_84 : decode cX2_plansWorth 84 = .ok (.iload 5, 2) := by decide +kernel
theorem dX2_plansWorth_86 : decode cX2_plansWorth 86 = .ok (.ireturn, 1) := by decide +kernel
theorem dX2_actsTillHome_0 : decode cX2_actsTillHome 0 = .ok (.aload_n 0, 1) := by decide +kernel
theorem dX2_actsTillHome_1 : decode cX2_actsTillHome 1 = .ok (.aload_n 0, 1) := by decide +kernel
theorem dX2_actsTillHome_2 : decode cX2_actsTillHome 2 = .ok (.getfield 9, 3) := by decide +kernel
theorem dX2_actsTillHome_5 : decode cX2_actsTillHome 5 = .ok (.aload_n 0, 1) := by decide +kernel
theorem dX2_actsTillHome_6 : decode cX2_actsTillHome 6 = .ok (.getfield 19, 3) := by decide +kernel
theorem dX2_actsTillHome_9 : decode cX2_actsTillHome 9 = .ok (.iload_n 1, 1) := by decide +kernel
theorem dX2_actsTillHome_10 : decode cX2_actsTillHome 10 = .ok (.iload_n 2, 1) := by decide +kernel
theorem dX2_actsTillHome_11 : decode cX2_actsTillHome 11 = .ok (.invokestatic 102, 3) := by decide +kernel
theorem dX2_actsTillHome_14 : decode cX2_actsTillHome 14 = .ok (.ireturn, 1) := by decide +kernel
theorem dX2_fewestActs_0 : decode cX2_fewestActs 0 = .ok (.iload_n 3, 1) := by decide +kernel
theorem dX2_fewestActs_1 : decode cX2_fewestActs 1 = .ok (.ifCond .le 11, 3) := by decide +kernel
theorem dX2_fewestActs_4 : decode cX2_fewestActs 4 = .ok (.iload_n 2, 1) := by decide +kernel
theorem dX2_fewestActs_5 : decode cX2_fewestActs 5 = .ok (.aload_n 0, 1) := by decide +kernel
theorem dX2_fewestActs_6 : decode cX2_fewestActs 6 = .ok (.getfield 33, 3) := by decide +kernel
theorem dX2_fewestActs_9 : decode cX2_fewestActs 9 = .ok (.if_icmp .lt 24, 3) := by decide +kernel
theorem dX2_fewestActs_12 : decode cX2_fewestActs 12 = .ok (.aload_n 0, 1) := by decide +kernel
theorem dX2_fewestActs_13 : decode cX2_fewestActs 13 = .ok (.iload_n 1, 1) := by decide +kernel
theorem dX2_fewestActs_14 : decode cX2_fewestActs 14 = .ok (.invokevirtual 105, 3) := by decide +kernel
theorem dX2_fewestActs_17 : decode cX2_fewestActs 17 = .ok (.iload 4, 2) := by decide +kernel
theorem dX2_fewestActs_19 : decode cX2_fewestActs 19 = .ok (.iand, 1) := by decide +kernel
theorem dX2_fewestActs_20 : decode cX2_fewestActs 20 = .ok (.iload 4, 2) := by decide +kernel
theorem dX2_fewestActs_22 : decode cX2_fewestActs 22 = .ok (.if_icmp .ne 7, 3) := by decide +kernel
theorem dX2_fewestActs_25 : decode cX2_fewestActs 25 = .ok (.iconst 0, 1) := by decide +kernel
theorem dX2_fewestActs_26 : decode cX2_fewestActs 26 = .ok (.goto 6, 3) := by decide +kernel
theorem dX2_fewestActs_29 : decode cX2_fewestActs 29 = .ok (.sipush 1000, 3) := by decide +kernel
theorem dX2_fewestActs_32 : decode cX2_fewestActs 32 = .ok (.ireturn, 1) := by decide +kernel
theorem dX2_fewestActs_33 : decode cX2_fewestActs 33 = .ok (.sipush 1000, 3) := by decide +kernel
theorem dX2_fewestActs_36 : decode cX2_fewestActs 36 = .ok (.istore 5, 2) := by decide +kernel
theorem dX2_fewestActs_38 : decode cX2_fewestActs 38 = .ok (.iconst 0, 1) := by decide +kernel
theorem dX2_fewestActs_39 : decode cX2_fewestActs 39 = .ok (.istore 6, 2) := by decide +kernel
theorem dX2_fewestActs_41 : decode cX2_fewestActs 41 = .ok (.iload 6, 2) := by decide +kernel
theorem dX2_fewestActs_43 : decode cX2_fewestActs 43 = .ok (.aload_n 0, 1) := by decide +kernel
theorem dX2_fewestActs_44 : decode cX2_fewestActs 44 = .ok (.getfield 73, 3) := by decide +kernel
theorem dX2_fewestActs_47 : decode cX2_fewestActs 47 = .ok (.if_icmp .gt 58, 3) := by decide +kernel
theorem dX2_fewestActs_50 : decode cX2_fewestActs 50 = .ok (.aload_n 0, 1) := by decide +kernel
theorem dX2_fewestActs_51 : decode cX2_fewestActs 51 = .ok (.iload_n 1, 1) := by decide +kernel
theorem dX2_fewestActs_52 : decode cX2_fewestActs 52 = .ok (.iload_n 2, 1) := by decide +kernel
theorem dX2_fewestActs_53 : decode cX2_fewestActs 53 = .ok (.iload 6, 2) := by decide +kernel
theorem dX2_fewestActs_55 : decode cX2_fewestActs 55 = .ok (.invokestatic 95, 3) := by decide +kernel
theorem dX2_fewestActs_58 : decode cX2_fewestActs 58 = .ok (.invokevirtual 22, 3) := by decide +kernel
theorem dX2_fewestActs_61 : decode cX2_fewestActs 61 = .ok (.istore 7, 2) := by decide +kernel
theorem dX2_fewestActs_63 : decode cX2_fewestActs 63 = .ok (.iload 6, 2) := by decide +kernel
theorem dX2_fewestActs_65 : decode cX2_fewestActs 65 = .ok (.ifCond .ne 7, 3) := by decide +kernel
theorem dX2_fewestActs_68 : decode cX2_fewestActs 68 = .ok (.iconst 0, 1) := by decide +kernel
theorem dX2_fewestActs_69 : decode cX2_fewestActs 69 = .ok (.goto 4, 3) := by decide +kernel
theorem dX2_fewestActs_72 : decode cX2_fewestActs 72 = .ok (.iconst 1, 1) := by decide +kernel
theorem dX2_fewestActs_73 : decode cX2_fewestActs 73 = .ok (.aload_n 0, 1) := by decide +kernel
theorem dX2_fewestActs_74 : decode cX2_fewestActs 74 = .ok (.iload 7, 2) := by decide +kernel
theorem dX2_fewestActs_76 : decode cX2_fewestActs 76 = .ok (.iload_n 2, 1) := by decide +kernel
theorem dX2_fewestActs_77 : decode cX2_fewestActs 77 = .ok (.iconst 1, 1) := by decide +kernel
theorem dX2_fewestActs_78 : decode cX2_fewestActs 78 = .ok (.iadd, 1) := by decide +kernel
theorem dX2_fewestActs_79 : decode cX2_fewestActs 79 = .ok (.iload_n 3, 1) := by decide +kernel
theorem dX2_fewestActs_80 : decode cX2_fewestActs 80 = .ok (.iconst 1, 1) := by decide +kernel
theorem dX2_fewestActs_81 : decode cX2_fewestActs 81 = .ok (.isub, 1) := by decide +kernel
theorem dX2_fewestActs_82 : decode cX2_fewestActs 82 = .ok (.iload 4, 2) := by decide +kernel
theorem dX2_fewestActs_84 : decode cX2_fewestActs 84 = .ok (.invokestatic 102, 3) := by decide +kernel
theorem dX2_fewestActs_87 : decode cX2_fewestActs 87 = .ok (.iadd, 1) := by decide +kernel
theorem dX2_fewestActs_88 : decode cX2_fewestActs 88 = .ok (.istore 8, 2) := by decide +kernel
theorem dX2_fewestActs_90 : decode cX2_fewestActs 90 = .ok (.iload 5, 2) := by decide +kernel
theorem dX2_fewestActs_92 : decode cX2_fewestActs 92 = .ok (.iload 8, 2) := by decide +kernel
theorem dX2_fewestActs_94 : decode cX2_fewestActs 94 = .ok (.invokestatic 108, 3) := by decide +kernel
theorem dX2_fewestActs_97 : decode cX2_fewestActs 97 = .ok (.istore 5, 2) := by decide +kernel
theorem dX2_fewestActs_99 : decode cX2_fewestActs 99 = .ok (.iinc 6 1, 3) := by decide +kernel
theorem dX2_fewestActs_102 : decode cX2_fewestActs 102 = .ok (.goto (-61), 3) := by decide +kernel
theorem dX2_fewestActs_105 : decode cX2_fewestActs 105 = .ok (.iload 5, 2) := by decide +kernel
theorem dX2_fewestActs_107 : decode cX2_fewestActs 107 = .ok (.ireturn, 1) := by decide +kernel
theorem dX2_everHome_0 : decode cX2_everHome 0 = .ok (.aload_n 0, 1) := by decide +kernel
theorem dX2_everHome_1 : decode cX2_everHome 1 = .ok (.aload_n 0, 1) := by decide +kernel
theorem dX2_everHome_2 : decode cX2_everHome 2 = .ok (.getfield 9, 3) := by decide +kernel
theorem dX2_everHome_5 : decode cX2_everHome 5 = .ok (.aload_n 0, 1) := by decide +kernel
theorem dX2_everHome_6 : decode cX2_everHome 6 = .ok (.getfield 19, 3) := by decide +kernel
theorem dX2_everHome_9 : decode cX2_everHome 9 = .ok (.iload_n 1, 1) := by decide +kernel
theorem dX2_everHome_10 : decode cX2_everHome 10 = .ok (.invokestatic 111, 3) := by decide +kernel
theorem dX2_everHome_13 : decode cX2_everHome 13 = .ok (.ireturn, 1) := by decide +kernel
theorem dX2_homeBehindSome_0 : decode cX2_homeBehindSome 0 = .ok (.iload_n 3, 1) := by decide +kernel
theorem dX2_homeBehindSome_1 : decode cX2_homeBehindSome 1 = .ok (.ifCond .le 11, 3) := by decide +kernel
theorem dX2_homeBehindSome_4 : decode cX2_homeBehindSome 4 = .ok (.iload_n 2, 1) := by decide +kernel
theorem dX2_homeBehindSome_5 : decode cX2_homeBehindSome 5 = .ok (.aload_n 0, 1) := by decide +kernel
theorem dX2_homeBehindSome_6 : decode cX2_homeBehindSome 6 = .ok (.getfield 33, 3) := by decide +kernel
theorem dX2_homeBehindSome_9 : decode cX2_homeBehindSome 9 = .ok (.if_icmp .lt 9, 3) := by decide +kernel
theorem dX2_homeBehindSome_12 : decode cX2_homeBehindSome 12 = .ok (.aload_n 0, 1) := by decide +kernel
theorem dX2_homeBehindSome_13 : decode cX2_homeBehindSome 13 = .ok (.iload_n 1, 1) := by decide +kernel
theorem dX2_homeBehindSome_14 : decode cX2_homeBehindSome 14 = .ok (.invokevirtual 105, 3) := by decide +kernel
theorem dX2_homeBehindSome_17 : decode cX2_homeBehindSome 17 = .ok (.ireturn, 1) := by decide +kernel
theorem dX2_homeBehindSome_18 : decode cX2_homeBehindSome 18 = .ok (.iconst 0, 1) := by decide +kernel
theorem dX2_homeBehindSome_19 : decode cX2_homeBehindSome 19 = .ok (.istore 4, 2) := by decide +kernel
theorem dX2_homeBehindSome_21 : decode cX2_homeBehindSome 21 = .ok (.iconst 0, 1) := by decide +kernel
theorem dX2_homeBehindSome_22 : decode cX2_homeBehindSome 22 = .ok (.istore 5, 2) := by decide +kernel
theorem dX2_homeBehindSome_24 : decode cX2_homeBehindSome 24 = .ok (.iload 5, 2) := by decide +kernel
theorem dX2_homeBehindSome_26 : decode cX2_homeBehindSome 26 = .ok (.aload_n 0, 1) := by decide +kernel
theorem dX2_homeBehindSome_27 : decode cX2_homeBehindSome 27 = .ok (.getfield 73, 3) := by decide +kernel
theorem dX2_homeBehindSome_30 : decode cX2_homeBehindSome 30 = .ok (.if_icmp .gt 39, 3) := by decide +kernel
theorem dX2_homeBehindSome_33 : decode cX2_homeBehindSome 33 = .ok (.aload_n 0, 1) := by decide +kernel
theorem dX2_homeBehindSome_34 : decode cX2_homeBehindSome 34 = .ok (.iload_n 1, 1) := by decide +kernel
theorem dX2_homeBehindSome_35 : decode cX2_homeBehindSome 35 = .ok (.iload_n 2, 1) := by decide +kernel
theorem dX2_homeBehindSome_36 : decode cX2_homeBehindSome 36 = .ok (.iload 5, 2) := by decide +kernel
theorem dX2_homeBehindSome_38 : decode cX2_homeBehindSome 38 = .ok (.invokestatic 95, 3) := by decide +kernel
theorem dX2_homeBehindSome_41 : decode cX2_homeBehindSome 41 = .ok (.invokevirtual 22, 3) := by decide +kernel
theorem dX2_homeBehindSome_44 : decode cX2_homeBehindSome 44 = .ok (.istore 6, 2) := by decide +kernel
theorem dX2_homeBehindSome_46 : decode cX2_homeBehindSome 46 = .ok (.iload 4, 2) := by decide +kernel
theorem dX2_homeBehindSome_48 : decode cX2_homeBehindSome 48 = .ok (.aload_n 0, 1) := by decide +kernel
theorem dX2_homeBehindSome_49 : decode cX2_homeBehindSome 49 = .ok (.iload 6, 2) := by decide +kernel
theorem dX2_homeBehindSome_51 : decode cX2_homeBehindSome 51 = .ok (.iload_n 2, 1) := by decide +kernel
theorem dX2_homeBehindSome_52 : decode cX2_homeBehindSome 52 = .ok (.iconst 1, 1) := by decide +kernel
theorem dX2_homeBehindSome_53 : decode cX2_homeBehindSome 53 = .ok (.iadd, 1) := by decide +kernel
theorem dX2_homeBehindSome_54 : decode cX2_homeBehindSome 54 = .ok (.iload_n 3, 1) := by decide +kernel
theorem dX2_homeBehindSome_55 : decode cX2_homeBehindSome 55 = .ok (.iconst 1, 1) := by decide +kernel
theorem dX2_homeBehindSome_56 : decode cX2_homeBehindSome 56 = .ok (.isub, 1) := by decide +kernel
theorem dX2_homeBehindSome_57 : decode cX2_homeBehindSome 57 = .ok (.invokestatic 111, 3) := by decide +kernel
theorem dX2_homeBehindSome_60 : decode cX2_homeBehindSome 60 = .ok (.ior, 1) := by decide +kernel
theorem dX2_homeBehindSome_61 : decode cX2_homeBehindSome 61 = .ok (.istore 4, 2) := by decide +kernel
theorem dX2_homeBehindSome_63 : decode cX2_homeBehindSome 63 = .ok (.iinc 5 1, 3) := by decide +kernel
theorem dX2_homeBehindSome_66 : decode cX2_homeBehindSome 66 = .ok (.goto (-42), 3) := by decide +kernel
theorem dX2_homeBehindSome_69 : decode cX2_homeBehindSome 69 = .ok (.iload 4, 2) := by decide +kernel
theorem dX2_homeBehindSome_71 : decode cX2_homeBehindSome 71 = .ok (.ireturn, 1) := by decide +kernel
theorem dX2_valueOfGame_0 : decode cX2_valueOfGame 0 = .ok (.aload_n 0, 1) := by decide +kernel
theorem dX2_valueOfGame_1 : decode cX2_valueOfGame 1 = .ok (.aload_n 0, 1) := by decide +kernel
theorem dX2_valueOfGame_2 : decode cX2_valueOfGame 2 = .ok (.getfield 9, 3) := by decide +kernel
theorem dX2_valueOfGame_5 : decode cX2_valueOfGame 5 = .ok (.aload_n 0, 1) := by decide +kernel
theorem dX2_valueOfGame_6 : decode cX2_valueOfGame 6 = .ok (.getfield 19, 3) := by decide +kernel
theorem dX2_valueOfGame_9 : decode cX2_valueOfGame 9 = .ok (.iload_n 1, 1) := by decide +kernel
theorem dX2_valueOfGame_10 : decode cX2_valueOfGame 10 = .ok (.iconst 1, 1) := by decide +kernel
theorem dX2_valueOfGame_11 : decode cX2_valueOfGame 11 = .ok (.invokestatic 114, 3) := by decide +kernel
theorem dX2_valueOfGame_14 : decode cX2_valueOfGame 14 = .ok (.ireturn, 1) := by decide +kernel
theorem dX2_gameValue_0 : decode cX2_gameValue 0 = .ok (.iload_n 3, 1) := by decide +kernel
theorem dX2_gameValue_1 : decode cX2_gameValue 1 = .ok (.ifCond .le 11, 3) := by decide +kernel
theorem dX2_gameValue_4 : decode cX2_gameValue 4 = .ok (.iload_n 2, 1) := by decide +kernel
theorem dX2_gameValue_5 : decode cX2_gameValue 5 = .ok (.aload_n 0, 1) := by decide +kernel
theorem dX2_gameValue_6 : decode cX2_gameValue 6 = .ok (.getfield 33, 3) := by decide +kernel
theorem dX2_gameValue_9 : decode cX2_gameValue 9 = .ok (.if_icmp .lt 5, 3) := by decide +kernel
theorem dX2_gameValue_12 : decode cX2_gameValue 12 = .ok (.iconst 0, 1) := by decide +kernel
theorem dX2_gameValue_13 : decode cX2_gameValue 13 = .ok (.ireturn, 1) := by decide +kernel
theorem dX2_gameValue_14 : decode cX2_gameValue 14 = .ok (.iconst 0, 1) := by decide +kernel
theorem dX2_gameValue_15 : decode cX2_gameValue 15 = .ok (.istore 5, 2) := by decide +kernel
theorem dX2_gameValue_17 : decode cX2_gameValue 17 = .ok (.iconst 0, 1) := by decide +kernel
theorem dX2_gameValue_18 : decode cX2_gameValue 18 = .ok (.istore 6, 2) := by decide +kernel
theorem dX2_gameValue_20 : decode cX2_gameValue 20 = .ok (.iload 6, 2) := by decide +kernel
theorem dX2_gameValue_22 : decode cX2_gameValue 22 = .ok (.aload_n 0, 1) := by decide +kernel
theorem dX2_gameValue_23 : decode cX2_gameValue 23 = .ok (.getfield 73, 3) := by decide +kernel
theorem dX2_gameValue_26 : decode cX2_gameValue 26 = .ok (.if_icmp .gt 102, 3) := by decide +kernel
theorem dX2_gameValue_29 : decode cX2_gameValue 29 = .ok (.aload_n 0, 1) := by decide +kernel
theorem dX2_gameValue_30 : decode cX2_gameValue 30 = .ok (.iload_n 1, 1) := by decide +kernel
theorem dX2_gameValue_31 : decode cX2_gameValue 31 = .ok (.iload_n 2, 1) := by decide +kernel
theorem dX2_gameValue_32 : decode cX2_gameValue 32 = .ok (.iload 6, 2) := by decide +kernel
theorem dX2_gameValue_34 : decode cX2_gameValue 34 = .ok (.invokestatic 95, 3) := by decide +kernel
theorem dX2_gameValue_37 : decode cX2_gameValue 37 = .ok (.invokevirtual 22, 3) := by decide +kernel
theorem dX2_gameValue_40 : decode cX2_gameValue 40 = .ok (.istore 7, 2) := by decide +kernel
theorem dX2_gameValue_42 : decode cX2_gameValue 42 = .ok (.aload_n 0, 1) := by decide +kernel
theorem dX2_gameValue_43 : decode cX2_gameValue 43 = .ok (.iload 7, 2) := by decide +kernel
theorem dX2_gameValue_45 : decode cX2_gameValue 45 = .ok (.iload_n 2, 1) := by decide +kernel
theorem dX2_gameValue_46 : decode cX2_gameValue 46 = .ok (.invokevirtual 26, 3) := by decide +kernel
theorem dX2_gameValue_49 : decode cX2_gameValue 49 = .ok (.aload_n 0, 1) := by decide +kernel
theorem dX2_gameValue_50 : decode cX2_gameValue 50 = .ok (.iload 7, 2) := by decide +kernel
theorem dX2_gameValue_52 : decode cX2_gameValue 52 = .ok (.iload_n 2, 1) := by decide +kernel
theorem dX2_gameValue_53 : decode cX2_gameValue 53 = .ok (.iconst 1, 1) := by decide +kernel
theorem dX2_gameValue_54 : decode cX2_gameValue 54 = .ok (.iadd, 1) := by decide +kernel
theorem dX2_gameValue_55 : decode cX2_gameValue 55 = .ok (.iload_n 3, 1) := by decide +kernel
theorem dX2_gameValue_56 : decode cX2_gameValue 56 = .ok (.iconst 1, 1) := by decide +kernel
theorem dX2_gameValue_57 : decode cX2_gameValue 57 = .ok (.isub, 1) := by decide +kernel
theorem dX2_gameValue_58 : decode cX2_gameValue 58 = .ok (.iload 4, 2) := by decide +kernel
theorem dX2_gameValue_60 : decode cX2_gameValue 60 = .ok (.ifCond .ne 7, 3) := by decide +kernel
theorem dX2_gameValue_63 : decode cX2_gameValue 63 = .ok (.iconst 1, 1) := by decide +kernel
theorem dX2_gameValue_64 : decode cX2_gameValue 64 = .ok (.goto 4, 3) := by decide +kernel
theorem dX2_gameValue_67 : decode cX2_gameValue 67 = .ok (.iconst 0, 1) := by decide +kernel
theorem dX2_gameValue_68 : decode cX2_gameValue 68 = .ok (.invokestatic 114, 3) := by decide +kernel
theorem dX2_gameValue_71 : decode cX2_gameValue 71 = .ok (.iadd, 1) := by decide +kernel
theorem dX2_gameValue_72 : decode cX2_gameValue 72 = .ok (.istore 8, 2) := by decide +kernel
theorem dX2_gameValue_74 : decode cX2_gameValue 74 = .ok (.iload 4, 2) := by decide +kernel
theorem dX2_gameValue_76 : decode cX2_gameValue 76 = .ok (.ifCond .eq 18, 3) := by decide +kernel
theorem dX2_gameValue_79 : decode cX2_gameValue 79 = .ok (.iload 8, 2) := by decide +kernel
theorem dX2_gameValue_81 : decode cX2_gameValue 81 = .ok (.iload 5, 2) := by decide +kernel
theorem dX2_gameValue_83 : decode cX2_gameValue 83 = .ok (.if_icmp .le 7, 3) := by decide +kernel
theorem dX2_gameValue_86 : decode cX2_gameValue 86 = .ok (.iconst 1, 1) := by decide +kernel
theorem dX2_gameValue_87 : decode cX2_gameValue 87 = .ok (.goto 19, 3) := by decide +kernel
theorem dX2_gameValue_90 : decode cX2_gameValue 90 = .ok (.iconst 0, 1) := by decide +kernel
theorem dX2_gameValue_91 : decode cX2_gameValue 91 = .ok (.goto 15, 3) := by decide +kernel
theorem dX2_gameValue_94 : decode cX2_gameValue 94 = .ok (.iload 8, 2) := by decide +kernel
theorem dX2_gameValue_96 : decode cX2_gameValue 96 = .ok (.iload 5, 2) := by decide +kernel
theorem dX2_gameValue_98 : decode cX2_gameValue 98 = .ok (.if_icmp .ge 7, 3) := by decide +kernel
theorem dX2_gameValue_101 : decode cX2_gameValue 101 = .ok (.iconst 1, 1) := by decide +kernel
theorem dX2_gameValue_102 : decode cX2_gameValue 102 = .ok (.goto 4, 3) := by decide +kernel
theorem dX2_gameValue_105 : decode cX2_gameValue 105 = .ok (.iconst 0, 1) := by decide +kernel
theorem dX2_gameValue_106 : decode cX2_gameValue 106 = .ok (.istore 9, 2) := by decide +kernel
theorem dX2_gameValue_108 : decode cX2_gameValue 108 = .ok (.iload 6, 2) := by decide +kernel
theorem dX2_gameValue_110 : decode cX2_gameValue 110 = .ok (.ifCond .eq 8, 3) := by decide +kernel
theorem dX2_gameValue_113 : decode cX2_gameValue 113 = .ok (.iload 9, 2) := by decide +kernel
theorem dX2_gameValue_115 : decode cX2_gameValue 115 = .ok (.ifCond .eq 7, 3) := by decide +kernel
theorem dX2_gameValue_118 : decode cX2_gameValue 118 = .ok (.iload 8, 2) := by decide +kernel
theorem dX2_gameValue_120 : decode cX2_gameValue 120 = .ok (.istore 5, 2) := by decide +kernel
theorem dX2_gameValue_122 : decode cX2_gameValue 122 = .ok (.iinc 6 1, 3) := by decide +kernel
theorem dX2_gameValue_125 : decode cX2_gameValue 125 = .ok (.goto (-105), 3) := by decide +kernel
theorem dX2_gameValue_128 : decode cX2_gameValue 128 = .ok (.iload 5, 2) := by decide +kernel
theorem dX2_gameValue_130 : decode cX2_gameValue 130 = .ok (.ireturn, 1) := by decide +kernel
theorem dX2_firstMove_0 : decode cX2_firstMove 0 = .ok (.iconst 0, 1) := by decide +kernel
theorem dX2_firstMove_1 : decode cX2_firstMove 1 = .ok (.istore_n 2, 1) := by decide +kernel
theorem dX2_firstMove_2 : decode cX2_firstMove 2 = .ok (.iconst (-1), 1) := by decide +kernel
theorem dX2_firstMove_3 : decode cX2_firstMove 3 = .ok (.istore_n 3, 1) := by decide +kernel
theorem dX2_firstMove_4 : decode cX2_firstMove 4 = .ok (.iconst 0, 1) := by decide +kernel
theorem dX2_firstMove_5 : decode cX2_firstMove 5 = .ok (.istore 4, 2) := by decide +kernel
theorem dX2_firstMove_7 : decode cX2_firstMove 7 = .ok (.iload 4, 2) := by decide +kernel
theorem dX2_firstMove_9 : decode cX2_firstMove 9 = .ok (.aload_n 0, 1) := by decide +kernel
theorem dX2_firstMove_10 : decode cX2_firstMove 10 = .ok (.getfield 73, 3) := by decide +kernel
theorem dX2_firstMove_13 : decode cX2_firstMove 13 = .ok (.if_icmp .gt 69, 3) := by decide +kernel
theorem dX2_firstMove_16 : decode cX2_firstMove 16 = .ok (.aload_n 0, 1) := by decide +kernel
theorem dX2_firstMove_17 : decode cX2_firstMove 17 = .ok (.aload_n 0, 1) := by decide +kernel
theorem dX2_firstMove_18 : decode cX2_firstMove 18 = .ok (.getfield 9, 3) := by decide +kernel
theorem dX2_firstMove_21 : decode cX2_firstMove 21 = .ok (.aload_n 0, 1) := by decide +kernel
theorem dX2_firstMove_22 : decode cX2_firstMove 22 = .ok (.getfield 19, 3) := by decide +kernel
theorem dX2_firstMove_25 : decode cX2_firstMove 25 = .ok (.iload 4, 2) := by decide +kernel
theorem dX2_firstMove_27 : decode cX2_firstMove 27 = .ok (.invokestatic 95, 3) := by decide +kernel
theorem dX2_firstMove_30 : decode cX2_firstMove 30 = .ok (.invokevirtual 22, 3) := by decide +kernel
theorem dX2_firstMove_33 : decode cX2_firstMove 33 = .ok (.istore 5, 2) := by decide +kernel
theorem dX2_firstMove_35 : decode cX2_firstMove 35 = .ok (.aload_n 0, 1) := by decide +kernel
theorem dX2_firstMove_36 : decode cX2_firstMove 36 = .ok (.iload 5, 2) := by decide +kernel
theorem dX2_firstMove_38 : decode cX2_firstMove 38 = .ok (.aload_n 0, 1) := by decide +kernel
theorem dX2_firstMove_39 : decode cX2_firstMove 39 = .ok (.getfield 19, 3) := by decide +kernel
theorem dX2_firstMove_42 : decode cX2_firstMove 42 = .ok (.invokevirtual 26, 3) := by decide +kernel
theorem dX2_firstMove_45 : decode cX2_firstMove 45 = .ok (.aload_n 0, 1) := by decide +kernel
theorem dX2_firstMove_46 : decode cX2_firstMove 46 = .ok (.iload 5, 2) := by decide +kernel
theorem dX2_firstMove_48 : decode cX2_firstMove 48 = .ok (.aload_n 0, 1) := by decide +kernel
theorem dX2_firstMove_49 : decode cX2_firstMove 49 = .ok (.getfield 19, 3) := by decide +kernel
theorem dX2_firstMove_52 : decode cX2_firstMove 52 = .ok (.iconst 1, 1) := by decide +kernel
theorem dX2_firstMove_53 : decode cX2_firstMove 53 = .ok (.iadd, 1) := by decide +kernel
theorem dX2_firstMove_54 : decode cX2_firstMove 54 = .ok (.iload_n 1, 1) := by decide +kernel
theorem dX2_firstMove_55 : decode cX2_firstMove 55 = .ok (.iconst 1, 1) := by decide +kernel
theorem dX2_firstMove_56 : decode cX2_firstMove 56 = .ok (.isub, 1) := by decide +kernel
theorem dX2_firstMove_57 : decode cX2_firstMove 57 = .ok (.iconst 0, 1) := by decide +kernel
theorem dX2_firstMove_58 : decode cX2_firstMove 58 = .ok (.invokestatic 114, 3) := by decide +kernel
theorem dX2_firstMove_61 : decode cX2_firstMove 61 = .ok (.iadd, 1) := by decide +kernel
theorem dX2_firstMove_62 : decode cX2_firstMove 62 = .ok (.istore 6, 2) := by decide +kernel
theorem dX2_firstMove_64 : decode cX2_firstMove 64 = .ok (.iload 6, 2) := by decide +kernel
theorem dX2_firstMove_66 : decode cX2_firstMove 66 = .ok (.iload_n 3, 1) := by decide +kernel
theorem dX2_firstMove_67 : decode cX2_firstMove 67 = .ok (.if_icmp .le 9, 3) := by decide +kernel
theorem dX2_firstMove_70 : decode cX2_firstMove 70 = .ok (.iload 6, 2) := by decide +kernel
theorem dX2_firstMove_72 : decode cX2_firstMove 72 = .ok (.istore_n 3, 1) := by decide +kernel
theorem dX2_firstMove_73 : decode cX2_firstMove 73 = .ok (.iload 4, 2) := by decide +kernel
theorem dX2_firstMove_75 : decode cX2_firstMove 75 = .ok (.istore_n 2, 1) := by decide +kernel
theorem dX2_firstMove_76 : decode cX2_firstMove 76 = .ok (.iinc 4 1, 3) := by decide +kernel
theorem dX2_firstMove_79 : decode cX2_firstMove 79 = .ok (.goto (-72), 3) := by decide +kernel
theorem dX2_firstMove_82 : decode cX2_firstMove 82 = .ok (.iload_n 2, 1) := by decide +kernel
theorem dX2_firstMove_83 : decode cX2_firstMove 83 = .ok (.ireturn, 1) := by decide +kernel
theorem dX3_init_0 : decode cX3_init 0 = .ok (.aload_n 0, 1) := by decide +kernel
theorem dX3_init_1 : decode cX3_init 1 = .ok (.invokespecial 1, 3) := by decide +kernel
theorem dX3_init_4 : decode cX3_init 4 = .ok (.return_, 1) := by decide +kernel
theorem dX3_yearns_0 : decode cX3_yearns 0 = .ok (.iload_n 1, 1) := by decide +kernel
theorem dX3_yearns_1 : decode cX3_yearns 1 = .ok (.iload_n 2, 1) := by decide +kernel
theorem dX3_yearns_2 : decode cX3_yearns 2 = .ok (.isub, 1) := by decide +kernel
theorem dX3_yearns_3 : decode cX3_yearns 3 = .ok (.ireturn, 1) := by decide +kernel
theorem dX3_bakes_0 : decode cX3_bakes 0 = .ok (.iload_n 1, 1) := by decide +kernel
theorem dX3_bakes_1 : decode cX3_bakes 1 = .ok (.ireturn, 1) := by decide +kernel
theorem dX3_glows_0 : decode cX3_glows 0 = .ok (.aload_n 1, 1) := by decide +kernel
theorem dX3_glows_1 : decode cX3_glows 1 = .ok (.bipush 10, 2) := by decide +kernel
theorem dX3_glows_3 : decode cX3_glows 3 = .ok (.invokevirtual 7, 3) := by decide +kernel
theorem dX3_glows_6 : decode cX3_glows 6 = .ok (.iload_n 2, 1) := by decide +kernel
theorem dX3_glows_7 : decode cX3_glows 7 = .ok (.aload_n 1, 1) := by decide +kernel
theorem dX3_glows_8 : decode cX3_glows 8 = .ok (.getfield 13, 3) := by decide +kernel
theorem dX3_glows_11 : decode cX3_glows 11 = .ok (.iconst 3, 1) := by decide +kernel
theorem dX3_glows_12 : decode cX3_glows 12 = .ok (.imul, 1) := by decide +kernel
theorem dX3_glows_13 : decode cX3_glows 13 = .ok (.isub, 1) := by decide +kernel
theorem dX3_glows_14 : decode cX3_glows 14 = .ok (.ireturn, 1) := by decide +kernel
theorem dX3_longs_0 : decode cX3_longs 0 = .ok (.aload_n 1, 1) := by decide +kernel
theorem dX3_longs_1 : decode cX3_longs 1 = .ok (.bipush 11, 2) := by decide +kernel
theorem dX3_longs_3 : decode cX3_longs 3 = .ok (.invokevirtual 7, 3) := by decide +kernel
theorem dX3_longs_6 : decode cX3_longs 6 = .ok (.aload_n 0, 1) := by decide +kernel
theorem dX3_longs_7 : decode cX3_longs 7 = .ok (.aload_n 1, 1) := by decide +kernel
theorem dX3_longs_8 : decode cX3_longs 8 = .ok (.iload_n 2, 1) := by decide +kernel
theorem dX3_longs_9 : decode cX3_longs 9 = .ok (.invokevirtual 17, 3) := by decide +kernel
theorem dX3_longs_12 : decode cX3_longs 12 = .ok (.aload_n 1, 1) := by decide +kernel
theorem dX3_longs_13 : decode cX3_longs 13 = .ok (.getfield 23, 3) := by decide +kernel
theorem dX3_longs_16 : decode cX3_longs 16 = .ok (.ixor, 1) := by decide +kernel
theorem dX3_longs_17 : decode cX3_longs 17 = .ok (.ireturn, 1) := by decide +kernel
theorem dX3_parts_0 : decode cX3_parts 0 = .ok (.aload_n 1, 1) := by decide +kernel
theorem dX3_parts_1 : decode cX3_parts 1 = .ok (.bipush 12, 2) := by decide +kernel
theorem dX3_parts_3 : decode cX3_parts 3 = .ok (.invokevirtual 7, 3) := by decide +kernel
theorem dX3_parts_6 : decode cX3_parts 6 = .ok (.aload_n 1, 1) := by decide +kernel
theorem dX3_parts_7 : decode cX3_parts 7 = .ok (.getfield 13, 3) := by decide +kernel
theorem dX3_parts_10 : decode cX3_parts 10 = .ok (.aload_n 1, 1) := by decide +kernel
theorem dX3_parts_11 : decode cX3_parts 11 = .ok (.getfield 23, 3) := by decide +kernel
theorem dX3_parts_14 : decode cX3_parts 14 = .ok (.isub, 1) := by decide +kernel
theorem dX3_parts_15 : decode cX3_parts 15 = .ok (.istore_n 3, 1) := by decide +kernel
theorem dX3_parts_16 : decode cX3_parts 16 = .ok (.iload_n 3, 1) := by decide +kernel
theorem dX3_parts_17 : decode cX3_parts 17 = .ok (.ifCond .ne 10, 3) := by decide +kernel
theorem dX3_parts_20 : decode cX3_parts 20 = .ok (.aload_n 1, 1) := by decide +kernel
theorem dX3_parts_21 : decode cX3_parts 21 = .ok (.iconst 1, 1) := by decide +kernel
theorem dX3_parts_22 : decode cX3_parts 22 = .ok (.putfield 26, 3) := by decide +kernel
theorem dX3_parts_25 : decode cX3_parts 25 = .ok (.iconst 0, 1) := by decide +kernel
theorem dX3_parts_26 : decode cX3_parts 26 = .ok (.ireturn, 1) := by decide +kernel
theorem dX3_parts_27 : decode cX3_parts 27 = .ok (.iload_n 2, 1) := by decide +kernel
theorem dX3_parts_28 : decode cX3_parts 28 = .ok (.iload_n 3, 1) := by decide +kernel
theorem dX3_parts_29 : decode cX3_parts 29 = .ok (.irem, 1) := by decide +kernel
theorem dX3_parts_30 : decode cX3_parts 30 = .ok (.ireturn, 1) := by decide +kernel
theorem dX3_weds_0 : decode cX3_weds 0 = .ok (.aload_n 1, 1) := by decide +kernel
theorem dX3_weds_1 : decode cX3_weds 1 = .ok (.bipush 13, 2) := by decide +kernel
theorem dX3_weds_3 : decode cX3_weds 3 = .ok (.invokevirtual 7, 3) := by decide +kernel
theorem dX3_weds_6 : decode cX3_weds 6 = .ok (.aload_n 0, 1) := by decide +kernel
theorem dX3_weds_7 : decode cX3_weds 7 = .ok (.aload_n 1, 1) := by decide +kernel
theorem dX3_weds_8 : decode cX3_weds 8 = .ok (.iload_n 2, 1) := by decide +kernel
theorem dX3_weds_9 : decode cX3_weds 9 = .ok (.invokevirtual 30, 3) := by decide +kernel
theorem dX3_weds_12 : decode cX3_weds 12 = .ok (.iconst 1, 1) := by decide +kernel
theorem dX3_weds_13 : decode cX3_weds 13 = .ok (.iadd, 1) := by decide +kernel
theorem dX3_weds_14 : decode cX3_weds 14 = .ok (.ireturn, 1) := by decide +kernel
theorem dX4_init_0 : decode cX4_init 0 = .ok (.aload_n 0, 1) := by decide +kernel
theorem dX4_init_1 : decode cX4_init 1 = .ok (.invokespecial 1, 3) := by decide +kernel
theorem dX4_init_4 : decode cX4_init 4 = .ok (.return_, 1) := by decide +kernel
theorem dX4_yearns_0 : decode cX4_yearns 0 = .ok (.iload_n 1, 1) := by decide +kernel
theorem dX4_yearns_1 : decode cX4_yearns 1 = .ok (.ireturn, 1) := by decide +kernel
theorem dX4_parts_0 : decode cX4_parts 0 = .ok (.aload_n 1, 1) := by decide +kernel
theorem dX4_parts_1 : decode cX4_parts 1 = .ok (.bipush 40, 2) := by decide +kernel
theorem dX4_parts_3 : decode cX4_parts 3 = .ok (.invokevirtual 7, 3) := by decide +kernel
theorem dX4_parts_6 : decode cX4_parts 6 = .ok (.aload_n 0, 1) := by decide +kernel
theorem dX4_parts_7 : decode cX4_parts 7 = .ok (.aload_n 1, 1) := by decide +kernel
theorem dX4_parts_8 : decode cX4_parts 8 = .ok (.iload_n 2, 1) := by decide +kernel
theorem dX4_parts_9 : decode cX4_parts 9 = .ok (.invokespecial 13, 3) := by decide +kernel
theorem dX4_parts_12 : decode cX4_parts 12 = .ok (.aload_n 1, 1) := by decide +kernel
theorem dX4_parts_13 : decode cX4_parts 13 = .ok (.getfield 17, 3) := by decide +kernel
theorem dX4_parts_16 : decode cX4_parts 16 = .ok (.iadd, 1) := by decide +kernel
theorem dX4_parts_17 : decode cX4_parts 17 = .ok (.ireturn, 1) := by decide +kernel
theorem dX5_init_0 : decode cX5_init 0 = .ok (.aload_n 0, 1) := by decide +kernel
theorem dX5_init_1 : decode cX5_init 1 = .ok (.invokespecial 1, 3) := by decide +kernel
theorem dX5_init_4 : decode cX5_init 4 = .ok (.return_, 1) := by decide +kernel
theorem dX5_yearns_0 : decode cX5_yearns 0 = .ok (.aload_n 0, 1) := by decide +kernel
theorem dX5_yearns_1 : decode cX5_yearns 1 = .ok (.iload_n 1, 1) := by decide +kernel
theorem dX5_yearns_2 : decode cX5_yearns 2 = .ok (.iload_n 2, 1) := by decide +kernel
theorem dX5_yearns_3 : decode cX5_yearns 3 = .ok (.iload_n 3, 1) := by decide +kernel
theorem dX5_yearns_4 : decode cX5_yearns 4 = .ok (.iload 4, 2) := by decide +kernel
theorem dX5_yearns_6 : decode cX5_yearns 6 = .ok (.invokespecial 7, 3) := by decide +kernel
theorem dX5_yearns_9 : decode cX5_yearns 9 = .ok (.iload 4, 2) := by decide +kernel
theorem dX5_yearns_11 : decode cX5_yearns 11 = .ok (.ifCond .eq 7, 3) := by decide +kernel
theorem dX5_yearns_14 : decode cX5_yearns 14 = .ok (.iconst 2, 1) := by decide +kernel
theorem dX5_yearns_15 : decode cX5_yearns 15 = .ok (.goto 4, 3) := by decide +kernel
theorem dX5_yearns_18 : decode cX5_yearns 18 = .ok (.iconst 0, 1) := by decide +kernel
theorem dX5_yearns_19 : decode cX5_yearns 19 = .ok (.iadd, 1) := by decide +kernel
theorem dX5_yearns_20 : decode cX5_yearns 20 = .ok (.ireturn, 1) := by decide +kernel
theorem dX5_bakes_0 : decode cX5_bakes 0 = .ok (.iload_n 2, 1) := by decide +kernel
theorem dX5_bakes_1 : decode cX5_bakes 1 = .ok (.iconst 2, 1) := by decide +kernel
theorem dX5_bakes_2 : decode cX5_bakes 2 = .ok (.irem, 1) := by decide +kernel
theorem dX5_bakes_3 : decode cX5_bakes 3 = .ok (.ifCond .ne 12, 3) := by decide +kernel
theorem dX5_bakes_6 : decode cX5_bakes 6 = .ok (.aload_n 0, 1) := by decide +kernel
theorem dX5_bakes_7 : decode cX5_bakes 7 = .ok (.iload_n 1, 1) := by decide +kernel
theorem dX5_bakes_8 : decode cX5_bakes 8 = .ok (.iload_n 2, 1) := by decide +kernel
theorem dX5_bakes_9 : decode cX5_bakes 9 = .ok (.invokespecial 11, 3) := by decide +kernel
theorem dX5_bakes_12 : decode cX5_bakes 12 = .ok (.goto 4, 3) := by decide +kernel
theorem dX5_bakes_15 : decode cX5_bakes 15 = .ok (.iconst 0, 1) := by decide +kernel
theorem dX5_bakes_16 : decode cX5_bakes 16 = .ok (.ireturn, 1) := by decide +kernel
theorem dX5_longs_0 : decode cX5_longs 0 = .ok (.aload_n 1, 1) := by decide +kernel
theorem dX5_longs_1 : decode cX5_longs 1 = .ok (.bipush 60, 2) := by decide +kernel
theorem dX5_longs_3 : decode cX5_longs 3 = .ok (.invokevirtual 15, 3) := by decide +kernel
theorem dX5_longs_6 : decode cX5_longs 6 = .ok (.iconst 0, 1) := by decide +kernel
theorem dX5_longs_7 : decode cX5_longs 7 = .ok (.aload_n 0, 1) := by decide +kernel
theorem dX5_longs_8 : decode cX5_longs 8 = .ok (.aload_n 1, 1) := by decide +kernel
theorem dX5_longs_9 : decode cX5_longs 9 = .ok (.iload_n 2, 1) := by decide +kernel
theorem dX5_longs_10 : decode cX5_longs 10 = .ok (.invokespecial 21, 3) := by decide +kernel
theorem dX5_longs_13 : decode cX5_longs 13 = .ok (.isub, 1) := by decide +kernel
theorem dX5_longs_14 : decode cX5_longs 14 = .ok (.ireturn, 1) := by decide +kernel
theorem dX5_parts_0 : decode cX5_parts 0 = .ok (.aload_n 1, 1) := by decide +kernel
theorem dX5_parts_1 : decode cX5_parts 1 = .ok (.bipush 61, 2) := by decide +kernel
theorem dX5_parts_3 : decode cX5_parts 3 = .ok (.invokevirtual 15, 3) := by decide +kernel
theorem dX5_parts_6 : decode cX5_parts 6 = .ok (.aload_n 0, 1) := by decide +kernel
theorem dX5_parts_7 : decode cX5_parts 7 = .ok (.aload_n 1, 1) := by decide +kernel
theorem dX5_parts_8 : decode cX5_parts 8 = .ok (.iload_n 2, 1) := by decide +kernel
theorem dX5_parts_9 : decode cX5_parts 9 = .ok (.invokespecial 25, 3) := by decide +kernel
theorem dX5_parts_12 : decode cX5_parts 12 = .ok (.istore_n 3, 1) := by decide +kernel
theorem dX5_parts_13 : decode cX5_parts 13 = .ok (.aload_n 1, 1) := by decide +kernel
theorem dX5_parts_14 : decode cX5_parts 14 = .ok (.getfield 28, 3) := by decide +kernel
theorem dX5_parts_17 : decode cX5_parts 17 = .ok (.ifCond .eq 7, 3) := by decide +kernel
theorem dX5_parts_20 : decode cX5_parts 20 = .ok (.iconst 0, 1) := by decide +kernel
theorem dX5_parts_21 : decode cX5_parts 21 = .ok (.goto 14, 3) := by decide +kernel
theorem dX5_parts_24 : decode cX5_parts 24 = .ok (.iload_n 3, 1) := by decide +kernel
theorem dX5_parts_25 : decode cX5_parts 25 = .ok (.aload_n 0, 1) := by decide +kernel
theorem dX5_parts_26 : decode cX5_parts 26 = .ok (.aload_n 1, 1) := by decide +kernel
theorem dX5_parts_27 : decode cX5_parts 27 = .ok (.aload_n 1, 1) := by decide +kernel
theorem dX5_parts_28 : decode cX5_parts 28 = .ok (.getfield 32, 3) := by decide +kernel
theorem dX5_parts_31 : decode cX5_parts 31 = .ok (.invokevirtual 36, 3) := by decide +kernel
theorem dX5_parts_34 : decode cX5_parts 34 = .ok (.isub, 1) := by decide +kernel
theorem dX5_parts_35 : decode cX5_parts 35 = .ok (.ireturn, 1) := by decide +kernel
theorem dX6_init_0 : decode cX6_init 0 = .ok (.aload_n 0, 1) := by decide +kernel
theorem dX6_init_1 : decode cX6_init 1 = .ok (.invokespecial 1, 3) := by decide +kernel
theorem dX6_init_4 : decode cX6_init 4 = .ok (.return_, 1) := by decide +kernel
theorem dX6_yearns_0 : decode cX6_yearns 0 = .ok (.iload_n 1, 1) := by decide +kernel
theorem dX6_yearns_1 : decode cX6_yearns 1 = .ok (.iload_n 3, 1) := by decide +kernel
theorem dX6_yearns_2 : decode cX6_yearns 2 = .ok (.if_icmp .lt 15, 3) := by decide +kernel
theorem dX6_yearns_5 : decode cX6_yearns 5 = .ok (.aload_n 0, 1) := by decide +kernel
theorem dX6_yearns_6 : decode cX6_yearns 6 = .ok (.iload_n 1, 1) := by decide +kernel
theorem dX6_yearns_7 : decode cX6_yearns 7 = .ok (.iload_n 2, 1) := by decide +kernel
theorem dX6_yearns_8 : decode cX6_yearns 8 = .ok (.iload_n 3, 1) := by decide +kernel
theorem dX6_yearns_9 : decode cX6_yearns 9 = .ok (.iload 4, 2) := by decide +kernel
theorem dX6_yearns_11 : decode cX6_yearns 11 = .ok (.invokespecial 7, 3) := by decide +kernel
theorem dX6_yearns_14 : decode cX6_yearns 14 = .ok (.goto 4, 3) := by decide +kernel
theorem dX6_yearns_17 : decode cX6_yearns 17 = .ok (.iconst (-1), 1) := by decide +kernel
theorem dX6_yearns_18 : decode cX6_yearns 18 = .ok (.ireturn, 1) := by decide +kernel
theorem dX6_bakes_0 : decode cX6_bakes 0 = .ok (.aload_n 0, 1) := by decide +kernel
theorem dX6_bakes_1 : decode cX6_bakes 1 = .ok (.iload_n 1, 1) := by decide +kernel
theorem dX6_bakes_2 : decode cX6_bakes 2 = .ok (.iload_n 2, 1) := by decide +kernel
theorem dX6_bakes_3 : decode cX6_bakes 3 = .ok (.invokespecial 11, 3) := by decide +kernel
theorem dX6_bakes_6 : decode cX6_bakes 6 = .ok (.iconst 2, 1) := by decide +kernel
theorem dX6_bakes_7 : decode cX6_bakes 7 = .ok (.imul, 1) := by decide +kernel
theorem dX6_bakes_8 : decode cX6_bakes 8 = .ok (.ireturn, 1) := by decide +kernel
theorem dX6_longs_0 : decode cX6_longs 0 = .ok (.aload_n 1, 1) := by decide +kernel
theorem dX6_longs_1 : decode cX6_longs 1 = .ok (.bipush 30, 2) := by decide +kernel
theorem dX6_longs_3 : decode cX6_longs 3 = .ok (.invokevirtual 15, 3) := by decide +kernel
theorem dX6_longs_6 : decode cX6_longs 6 = .ok (.aload_n 0, 1) := by decide +kernel
theorem dX6_longs_7 : decode cX6_longs 7 = .ok (.aload_n 1, 1) := by decide +kernel
theorem dX6_longs_8 : decode cX6_longs 8 = .ok (.iload_n 2, 1) := by decide +kernel
theorem dX6_longs_9 : decode cX6_longs 9 = .ok (.invokespecial 21, 3) := by decide +kernel
theorem dX6_longs_12 : decode cX6_longs 12 = .ok (.aload_n 1, 1) := by decide +kernel
theorem dX6_longs_13 : decode cX6_longs 13 = .ok (.getfield 25, 3) := by decide +kernel
theorem dX6_longs_16 : decode cX6_longs 16 = .ok (.isub, 1) := by decide +kernel
theorem dX6_longs_17 : decode cX6_longs 17 = .ok (.ireturn, 1) := by decide +kernel
theorem dX7_init_0 : decode cX7_init 0 = .ok (.aload_n 0, 1) := by decide +kernel
theorem dX7_init_1 : decode cX7_init 1 = .ok (.invokespecial 3, 3) := by decide +kernel
theorem dX7_init_4 : decode cX7_init 4 = .ok (.aload_n 0, 1) := by decide +kernel
theorem dX7_init_5 : decode cX7_init 5 = .ok (.bipush 8, 2) := by decide +kernel
theorem dX7_init_7 : decode cX7_init 7 = .ok (.newarray .int, 2) := by decide +kernel
theorem dX7_init_9 : decode cX7_init 9 = .ok (.putfield 9, 3) := by decide +kernel
theorem dX7_init_12 : decode cX7_init 12 = .ok (.aload_n 0, 1) := by decide +kernel
theorem dX7_init_13 : decode cX7_init 13 = .ok (.bipush 8, 2) := by decide +kernel
theorem dX7_init_15 : decode cX7_init 15 = .ok (.newarray .int, 2) := by decide +kernel
theorem dX7_init_17 : decode cX7_init 17 = .ok (.putfield 15, 3) := by decide +kernel
theorem dX7_init_20 : decode cX7_init 20 = .ok (.aload_n 0, 1) := by decide +kernel
theorem dX7_init_21 : decode cX7_init 21 = .ok (.bipush 8, 2) := by decide +kernel
theorem dX7_init_23 : decode cX7_init 23 = .ok (.newarray .int, 2) := by decide +kernel
theorem dX7_init_25 : decode cX7_init 25 = .ok (.putfield 18, 3) := by decide +kernel
theorem dX7_init_28 : decode cX7_init 28 = .ok (.aload_n 0, 1) := by decide +kernel
theorem dX7_init_29 : decode cX7_init 29 = .ok (.iconst 0, 1) := by decide +kernel
theorem dX7_init_30 : decode cX7_init 30 = .ok (.iload_n 1, 1) := by decide +kernel
theorem dX7_init_31 : decode cX7_init 31 = .ok (.invokestatic 21, 3) := by decide +kernel
theorem dX7_init_34 : decode cX7_init 34 = .ok (.iconst 3, 1) := by decide +kernel
theorem dX7_init_35 : decode cX7_init 35 = .ok (.imul, 1) := by decide +kernel
theorem dX7_init_36 : decode cX7_init 36 = .ok (.newarray .int, 2) := by decide +kernel
theorem dX7_init_38 : decode cX7_init 38 = .ok (.putfield 27, 3) := by decide +kernel
theorem dX7_init_41 : decode cX7_init 41 = .ok (.return_, 1) := by decide +kernel
theorem dX7_addRule_0 : decode cX7_addRule 0 = .ok (.aload_n 0, 1) := by decide +kernel
theorem dX7_addRule_1 : decode cX7_addRule 1 = .ok (.getfield 30, 3) := by decide +kernel
theorem dX7_addRule_4 : decode cX7_addRule 4 = .ok (.bipush 8, 2) := by decide +kernel
theorem dX7_addRule_6 : decode cX7_addRule 6 = .ok (.if_icmp .ge 46, 3) := by decide +kernel
theorem dX7_addRule_9 : decode cX7_addRule 9 = .ok (.aload_n 0, 1) := by decide +kernel
theorem dX7_addRule_10 : decode cX7_addRule 10 = .ok (.getfield 9, 3) := by decide +kernel
theorem dX7_addRule_13 : decode cX7_addRule 13 = .ok (.aload_n 0, 1) := by decide +kernel
theorem dX7_addRule_14 : decode cX7_addRule 14 = .ok (.getfield 30, 3) := by decide +kernel
theorem dX7_addRule_17 : decode cX7_addRule 17 = .ok (.iload_n 1, 1) := by decide +kernel
theorem dX7_addRule_18 : decode cX7_addRule 18 = .ok (.iastore, 1) := by decide +kernel
theorem dX7_addRule_19 : decode cX7_addRule 19 = .ok (.aload_n 0, 1) := by decide +kernel
theorem dX7_addRule_20 : decode cX7_addRule 20 = .ok (.getfield 15, 3) := by decide +kernel
theorem dX7_addRule_23 : decode cX7_addRule 23 = .ok (.aload_n 0, 1) := by decide +kernel
theorem dX7_addRule_24 : decode cX7_addRule 24 = .ok (.getfield 30, 3) := by decide +kernel
theorem dX7_addRule_27 : decode cX7_addRule 27 = .ok (.iload_n 2, 1) := by decide +kernel
theorem dX7_addRule_28 : decode cX7_addRule 28 = .ok (.iastore, 1) := by decide +kernel
theorem dX7_addRule_29 : decode cX7_addRule 29 = .ok (.aload_n 0, 1) := by decide +kernel
theorem dX7_addRule_30 : decode cX7_addRule 30 = .ok (.getfield 18, 3) := by decide +kernel
theorem dX7_addRule_33 : decode cX7_addRule 33 = .ok (.aload_n 0, 1) := by decide +kernel
theorem dX7_addRule_34 : decode cX7_addRule 34 = .ok (.getfield 30, 3) := by decide +kernel
theorem dX7_addRule_37 : decode cX7_addRule 37 = .ok (.aload_n 0, 1) := by decide +kernel
theorem dX7_addRule_38 : decode cX7_addRule 38 = .ok (.getfield 34, 3) := by decide +kernel
theorem dX7_addRule_41 : decode cX7_addRule 41 = .ok (.iastore, 1) := by decide +kernel
theorem dX7_addRule_42 : decode cX7_addRule 42 = .ok (.aload_n 0, 1) := by decide +kernel
theorem dX7_addRule_43 : decode cX7_addRule 43 = .ok (.dup, 1) := by decide +kernel
theorem dX7_addRule_44 : decode cX7_addRule 44 = .ok (.getfield 30, 3) := by decide +kernel
theorem dX7_addRule_47 : decode cX7_addRule 47 = .ok (.iconst 1, 1) := by decide +kernel
theorem dX7_addRule_48 : decode cX7_addRule 48 = .ok (.iadd, 1) := by decide +kernel
theorem dX7_addRule_49 : decode cX7_addRule 49 = .ok (.putfield 30, 3) := by decide +kernel
theorem dX7_addRule_52 : decode cX7_addRule 52 = .ok (.return_, 1) := by decide +kernel
theorem dX7_addStep_0 : decode cX7_addStep 0 = .ok (.aload_n 0, 1) := by decide +kernel
theorem dX7_addStep_1 : decode cX7_addStep 1 = .ok (.getfield 34, 3) := by decide +kernel
theorem dX7_addStep_4 : decode cX7_addStep 4 = .ok (.iconst 3, 1) := by decide +kernel
theorem dX7_addStep_5 : decode cX7_addStep 5 = .ok (.imul, 1) := by decide +kernel
theorem dX7_addStep_6 : decode cX7_addStep 6 = .ok (.istore 4, 2) := by decide +kernel
theorem dX7_addStep_8 : decode cX7_addStep 8 = .ok (.iload 4, 2) := by decide +kernel
theorem dX7_addStep_10 : decode cX7_addStep 10 = .ok (.iconst 3, 1) := by decide +kernel
theorem dX7_addStep_11 : decode cX7_addStep 11 = .ok (.iadd, 1) := by decide +kernel
theorem dX7_addStep_12 : decode cX7_addStep 12 = .ok (.aload_n 0, 1) := by decide +kernel
theorem dX7_addStep_13 : decode cX7_addStep 13 = .ok (.getfield 27, 3) := by decide +kernel
theorem dX7_addStep_16 : decode cX7_addStep 16 = .ok (.arraylength, 1) := by decide +kernel
theorem dX7_addStep_17 : decode cX7_addStep 17 = .ok (.if_icmp .gt 41, 3) := by decide +kernel
theorem dX7_addStep_20 : decode cX7_addStep 20 = .ok (.aload_n 0, 1) := by decide +kernel
theorem dX7_addStep_21 : decode cX7_addStep 21 = .ok (.getfield 27, 3) := by decide +kernel
theorem dX7_addStep_24 : decode cX7_addStep 24 = .ok (.iload 4, 2) := by decide +kernel
theorem dX7_addStep_26 : decode cX7_addStep 26 = .ok (.iload_n 1, 1) := by decide +kernel
theorem dX7_addStep_27 : decode cX7_addStep 27 = .ok (.iastore, 1) := by decide +kernel
theorem dX7_addStep_28 : decode cX7_addStep 28 = .ok (.aload_n 0, 1) := by decide +kernel
theorem dX7_addStep_29 : decode cX7_addStep 29 = .ok (.getfield 27, 3) := by decide +kernel
theorem dX7_addStep_32 : decode cX7_addStep 32 = .ok (.iload 4, 2) := by decide +kernel
theorem dX7_addStep_34 : decode cX7_addStep 34 = .ok (.iconst 1, 1) := by decide +kernel
theorem dX7_addStep_35 : decode cX7_addStep 35 = .ok (.iadd, 1) := by decide +kernel
theorem dX7_addStep_36 : decode cX7_addStep 36 = .ok (.iload_n 2, 1) := by decide +kernel
theorem dX7_addStep_37 : decode cX7_addStep 37 = .ok (.iastore, 1) := by decide +kernel
theorem dX7_addStep_38 : decode cX7_addStep 38 = .ok (.aload_n 0, 1) := by decide +kernel
theorem dX7_addStep_39 : decode cX7_addStep 39 = .ok (.getfield 27, 3) := by decide +kernel
theorem dX7_addStep_42 : decode cX7_addStep 42 = .ok (.iload 4, 2) := by decide +kernel
theorem dX7_addStep_44 : decode cX7_addStep 44 = .ok (.iconst 2, 1) := by decide +kernel
theorem dX7_addStep_45 : decode cX7_addStep 45 = .ok (.iadd, 1) := by decide +kernel
theorem dX7_addStep_46 : decode cX7_addStep 46 = .ok (.iload_n 3, 1) := by decide +kernel
theorem dX7_addStep_47 : decode cX7_addStep 47 = .ok (.iastore, 1) := by decide +kernel
theorem dX7_addStep_48 : decode cX7_addStep 48 = .ok (.aload_n 0, 1) := by decide +kernel
theorem dX7_addStep_49 : decode cX7_addStep 49 = .ok (.dup, 1) := by decide +kernel
theorem dX7_addStep_50 : decode cX7_addStep 50 = .ok (.getfield 34, 3) := by decide +kernel
theorem dX7_addStep_53 : decode cX7_addStep 53 = .ok (.iconst 1, 1) := by decide +kernel
theorem dX7_addStep_54 : decode cX7_addStep 54 = .ok (.iadd, 1) := by decide +kernel
theorem dX7_addStep_55 : decode cX7_addStep 55 = .ok (.putfield 34, 3) := by decide +kernel
theorem dX7_addStep_58 : decode cX7_addStep 58 = .ok (.return_, 1) := by decide +kernel
theorem dX7_tellsOf_0 : decode cX7_tellsOf 0 = .ok (.iconst 0, 1) := by decide +kernel
theorem dX7_tellsOf_1 : decode cX7_tellsOf 1 = .ok (.istore_n 3, 1) := by decide +kernel
theorem dX7_tellsOf_2 : decode cX7_tellsOf 2 = .ok (.iload_n 3, 1) := by decide +kernel
theorem dX7_tellsOf_3 : decode cX7_tellsOf 3 = .ok (.aload_n 0, 1) := by decide +kernel
theorem dX7_tellsOf_4 : decode cX7_tellsOf 4 = .ok (.getfield 30, 3) := by decide +kernel
theorem dX7_tellsOf_7 : decode cX7_tellsOf 7 = .ok (.if_icmp .ge 38, 3) := by decide +kernel
theorem dX7_tellsOf_10 : decode cX7_tellsOf 10 = .ok (.iload_n 1, 1) := by decide +kernel
theorem dX7_tellsOf_11 : decode cX7_tellsOf 11 = .ok (.aload_n 0, 1) := by decide +kernel
theorem dX7_tellsOf_12 : decode cX7_tellsOf 12 = .ok (.getfield 9, 3) := by decide +kernel
theorem dX7_tellsOf_15 : decode cX7_tellsOf 15 = .ok (.iload_n 3, 1) := by decide +kernel
theorem dX7_tellsOf_16 : decode cX7_tellsOf 16 = .ok (.iaload, 1) := by decide +kernel
theorem dX7_tellsOf_17 : decode cX7_tellsOf 17 = .ok (.invokestatic 37, 3) := by decide +kernel
theorem dX7_tellsOf_20 : decode cX7_tellsOf 20 = .ok (.ifCond .eq 19, 3) := by decide +kernel
theorem dX7_tellsOf_23 : decode cX7_tellsOf 23 = .ok (.aload_n 0, 1) := by decide +kernel
theorem dX7_tellsOf_24 : decode cX7_tellsOf 24 = .ok (.iload_n 3, 1) := by decide +kernel
theorem dX7_tellsOf_25 : decode cX7_tellsOf 25 = .ok (.aload_n 2, 1) := by decide +kernel
theorem dX7_tellsOf_26 : decode cX7_tellsOf 26 = .ok (.invokevirtual 41, 3) := by decide +kernel
theorem dX7_tellsOf_29 : decode cX7_tellsOf 29 = .ok (.ifCond .eq 10, 3) := by decide +kernel
theorem dX7_tellsOf_32 : decode cX7_tellsOf 32 = .ok (.aload_n 0, 1) := by decide +kernel
theorem dX7_tellsOf_33 : decode cX7_tellsOf 33 = .ok (.getfield 15, 3) := by decide +kernel
theorem dX7_tellsOf_36 : decode cX7_tellsOf 36 = .ok (.iload_n 3, 1) := by decide +kernel
theorem dX7_tellsOf_37 : decode cX7_tellsOf 37 = .ok (.iaload, 1) := by decide +kernel
theorem dX7_tellsOf_38 : decode cX7_tellsOf 38 = .ok (.ireturn, 1) := by decide +kernel
theorem dX7_tellsOf_39 : decode cX7_tellsOf 39 = .ok (.iinc 3 1, 3) := by decide +kernel
theorem dX7_tellsOf_42 : decode cX7_tellsOf 42 = .ok (.goto (-40), 3) := by decide +kernel
theorem dX7_tellsOf_45 : decode cX7_tellsOf 45 = .ok (.iconst 0, 1) := by decide +kernel
theorem dX7_tellsOf_46 : decode cX7_tellsOf 46 = .ok (.ireturn, 1) := by decide +kernel
theorem dX7_holds_0 : decode cX7_holds 0 = .ok (.iconst 1, 1) := by decide +kernel
theorem dX7_holds_1 : decode cX7_holds 1 = .ok (.istore_n 3, 1) := by decide +kernel
theorem dX7_holds_2 : decode cX7_holds 2 = .ok (.iload_n 1, 1) := by decide +kernel
theorem dX7_holds_3 : decode cX7_holds 3 = .ok (.ifCond .ne 7, 3) := by decide +kernel
theorem dX7_holds_6 : decode cX7_holds 6 = .ok (.iconst 0, 1) := by decide +kernel
theorem dX7_holds_7 : decode cX7_holds 7 = .ok (.goto 11, 3) := by decide +kernel
theorem dX7_holds_10 : decode cX7_holds 10 = .ok (.aload_n 0, 1) := by decide +kernel
theorem dX7_holds_11 : decode cX7_holds 11 = .ok (.getfield 18, 3) := by decide +kernel
theorem dX7_holds_14 : decode cX7_holds 14 = .ok (.iload_n 1, 1) := by decide +kernel
theorem dX7_holds_15 : decode cX7_holds 15 = .ok (.iconst 1, 1) := by decide +kernel
theorem dX7_holds_16 : decode cX7_holds 16 = .ok (.isub, 1) := by decide +kernel
theorem dX7_holds_17 : decode cX7_holds 17 = .ok (.iaload, 1) := by decide +kernel
theorem dX7_holds_18 : decode cX7_holds 18 = .ok (.istore 4, 2) := by decide +kernel
theorem dX7_holds_20 : decode cX7_holds 20 = .ok (.iload 4, 2) := by decide +kernel
theorem dX7_holds_22 : decode cX7_holds 22 = .ok (.aload_n 0, 1) := by decide +kernel
theorem dX7_holds_23 : decode cX7_holds 23 = .ok (.getfield 18, 3) := by decide +kernel
theorem dX7_holds_26 : decode cX7_holds 26 = .ok (.iload_n 1, 1) := by decide +kernel
theorem dX7_holds_27 : decode cX7_holds 27 = .ok (.iaload, 1) := by decide +kernel
theorem dX7_holds_28 : decode cX7_holds 28 = .ok (.if_icmp .ge 92, 3) := by decide +kernel
theorem dX7_holds_31 : decode cX7_holds 31 = .ok (.aload_n 0, 1) := by decide +kernel
theorem dX7_holds_32 : decode cX7_holds 32 = .ok (.getfield 27, 3) := by decide +kernel
theorem dX7_holds_35 : decode cX7_holds 35 = .ok (.iload 4, 2) := by decide +kernel
theorem dX7_holds_37 : decode cX7_holds 37 = .ok (.iconst 3, 1) := by decide +kernel
theorem dX7_holds_38 : decode cX7_holds 38 = .ok (.imul, 1) := by decide +kernel
theorem dX7_holds_39 : decode cX7_holds 39 = .ok (.iaload, 1) := by decide +kernel
theorem dX7_holds_40 : decode cX7_holds 40 = .ok (.istore 5, 2) := by decide +kernel
theorem dX7_holds_42 : decode cX7_holds 42 = .ok (.iload 5, 2) := by decide +kernel
theorem dX7_holds_44 : decode cX7_holds 44 = .ok (.iconst 2, 1) := by decide +kernel
theorem dX7_holds_45 : decode cX7_holds 45 = .ok (.if_icmp .gt 26, 3) := by decide +kernel
theorem dX7_holds_48 : decode cX7_holds 48 = .ok (.iload_n 3, 1) := by decide +kernel
theorem dX7_holds_49 : decode cX7_holds 49 = .ok (.iconst 1, 1) := by decide +kernel
theorem dX7_holds_50 : decode cX7_holds 50 = .ok (.ishl, 1) := by decide +kernel
theorem dX7_holds_51 : decode cX7_holds 51 = .ok (.aload_n 0, 1) := by decide +kernel
theorem dX7_holds_52 : decode cX7_holds 52 = .ok (.iload 4, 2) := by decide +kernel
theorem dX7_holds_54 : decode cX7_holds 54 = .ok (.aload_n 2, 1) := by decide +kernel
theorem dX7_holds_55 : decode cX7_holds 55 = .ok (.invokevirtual 45, 3) := by decide +kernel
theorem dX7_holds_58 : decode cX7_holds 58 = .ok (.ifCond .eq 7, 3) := by decide +kernel
theorem dX7_holds_61 : decode cX7_holds 61 = .ok (.iconst 1, 1) := by decide +kernel
theorem dX7_holds_62 : decode cX7_holds 62 = .ok (.goto 4, 3) := by decide +kernel
theorem dX7_holds_65 : decode cX7_holds 65 = .ok (.iconst 0, 1) := by decide +kernel
theorem dX7_holds_66 : decode cX7_holds 66 = .ok (.ior, 1) := by decide +kernel
theorem dX7_holds_67 : decode cX7_holds 67 = .ok (.istore_n 3, 1) := by decide +kernel
theorem dX7_holds_68 : decode cX7_holds 68 = .ok (.goto 46, 3) := by decide +kernel
theorem dX7_holds_71 : decode cX7_holds 71 = .ok (.iload 5, 2) := by decide +kernel
theorem dX7_holds_73 : decode cX7_holds 73 = .ok (.iconst 3, 1) := by decide +kernel
theorem dX7_holds_74 : decode cX7_holds 74 = .ok (.if_icmp .ne 10, 3) := by decide +kernel
theorem dX7_holds_77 : decode cX7_holds 77 = .ok (.iload_n 3, 1) := by decide +kernel
theorem dX7_holds_78 : decode cX7_holds 78 = .ok (.iconst 1, 1) := by decide +kernel
theorem dX7_holds_79 : decode cX7_holds 79 = .ok (.ixor, 1) := by decide +kernel
theorem dX7_holds_80 : decode cX7_holds 80 = .ok (.istore_n 3, 1) := by decide +kernel
theorem dX7_holds_81 : decode cX7_holds 81 = .ok (.goto 33, 3) := by decide +kernel
theorem dX7_holds_84 : decode cX7_holds 84 = .ok (.iload_n 3, 1) := by decide +kernel
theorem dX7_holds_85 : decode cX7_holds 85 = .ok (.iconst 1, 1) := by decide +kernel
theorem dX7_holds_86 : decode cX7_holds 86 = .ok (.iand, 1) := by decide +kernel
theorem dX7_holds_87 : decode cX7_holds 87 = .ok (.istore 6, 2) := by decide +kernel
theorem dX7_holds_89 : decode cX7_holds 89 = .ok (.iload_n 3, 1) := by decide +kernel
theorem dX7_holds_90 : decode cX7_holds 90 = .ok (.iconst 1, 1) := by decide +kernel
theorem dX7_holds_91 : decode cX7_holds 91 = .ok (.iushr, 1) := by decide +kernel
theorem dX7_holds_92 : decode cX7_holds 92 = .ok (.istore_n 3, 1) := by decide +kernel
theorem dX7_holds_93 : decode cX7_holds 93 = .ok (.iload 5, 2) := by decide +kernel
theorem dX7_holds_95 : decode cX7_holds 95 = .ok (.iconst 4, 1) := by decide +kernel
theorem dX7_holds_96 : decode cX7_holds 96 = .ok (.if_icmp .ne 13, 3) := by decide +kernel
theorem dX7_holds_99 : decode cX7_holds 99 = .ok (.iload_n 3, 1) := by decide +kernel
theorem dX7_holds_100 : decode cX7_holds 100 = .ok (.iload 6, 2) := by decide +kernel
theorem dX7_holds_102 : decode cX7_holds 102 = .ok (.bipush (-2), 2) := by decide +kernel
theorem dX7_holds_104 : decode cX7_holds 104 = .ok (.ior, 1) := by decide +kernel
theorem dX7_holds_105 : decode cX7_holds 105 = .ok (.iand, 1) := by decide +kernel
theorem dX7_holds_106 : decode cX7_holds 106 = .ok (.goto 7, 3) := by decide +kernel
theorem dX7_holds_109 : decode cX7_holds 109 = .ok (.iload_n 3, 1) := by decide +kernel
theorem dX7_holds_110 : decode cX7_holds 110 = .ok (.iload 6, 2) := by decide +kernel
theorem dX7_holds_112 : decode cX7_holds 112 = .ok (.ior, 1) := by decide +kernel
theorem dX7_holds_113 : decode cX7_holds 113 = .ok (.istore_n 3, 1) := by decide +kernel
theorem dX7_holds_114 : decode cX7_holds 114 = .ok (.iinc 4 1, 3) := by decide +kernel
theorem dX7_holds_117 : decode cX7_holds 117 = .ok (.goto (-97), 3) := by decide +kernel
theorem dX7_holds_120 : decode cX7_holds 120 = .ok (.iload_n 3, 1) := by decide +kernel
theorem dX7_holds_121 : decode cX7_holds 121 = .ok (.iconst 1, 1) := by decide +kernel
theorem dX7_holds_122 : decode cX7_holds 122 = .ok (.iand, 1) := by decide +kernel
theorem dX7_holds_123 : decode cX7_holds 123 = .ok (.ifCond .eq 7, 3) := by decide +kernel
theorem dX7_holds_126 : decode cX7_holds 126 = .ok (.iconst 1, 1) := by decide +kernel
theorem dX7_holds_127 : decode cX7_holds 127 = .ok (.goto 4, 3) := by decide +kernel
theorem dX7_holds_130 : decode cX7_holds 130 = .ok (.iconst 0, 1) := by decide +kernel
theorem dX7_holds_131 : decode cX7_holds 131 = .ok (.ireturn, 1) := by decide +kernel
theorem dX7_compares_0 : decode cX7_compares 0 = .ok (.aload_n 0, 1) := by decide +kernel
theorem dX7_compares_1 : decode cX7_compares 1 = .ok (.getfield 27, 3) := by decide +kernel
theorem dX7_compares_4 : decode cX7_compares 4 = .ok (.iload_n 1, 1) := by decide +kernel
theorem dX7_compares_5 : decode cX7_compares 5 = .ok (.iconst 3, 1) := by decide +kernel
theorem dX7_compares_6 : decode cX7_compares 6 = .ok (.imul, 1) := by decide +kernel
theorem dX7_compares_7 : decode cX7_compares 7 = .ok (.iconst 1, 1) := by decide +kernel
theorem dX7_compares_8 : decode cX7_compares 8 = .ok (.iadd, 1) := by decide +kernel
theorem dX7_compares_9 : decode cX7_compares 9 = .ok (.iaload, 1) := by decide +kernel
theorem dX7_compares_10 : decode cX7_compares 10 = .ok (.aload_n 2, 1) := by decide +kernel
theorem dX7_compares_11 : decode cX7_compares 11 = .ok (.invokestatic 48, 3) := by decide +kernel
theorem dX7_compares_14 : decode cX7_compares 14 = .ok (.istore_n 3, 1) := by decide +kernel
theorem dX7_compares_15 : decode cX7_compares 15 = .ok (.aload_n 0, 1) := by decide +kernel
theorem dX7_compares_16 : decode cX7_compares 16 = .ok (.getfield 27, 3) := by decide +kernel
theorem dX7_compares_19 : decode cX7_compares 19 = .ok (.iload_n 1, 1) := by decide +kernel
theorem dX7_compares_20 : decode cX7_compares 20 = .ok (.iconst 3, 1) := by decide +kernel
theorem dX7_compares_21 : decode cX7_compares 21 = .ok (.imul, 1) := by decide +kernel
theorem dX7_compares_22 : decode cX7_compares 22 = .ok (.iconst 2, 1) := by decide +kernel
theorem dX7_compares_23 : decode cX7_compares 23 = .ok (.iadd, 1) := by decide +kernel
theorem dX7_compares_24 : decode cX7_compares 24 = .ok (.iaload, 1) := by decide +kernel
theorem dX7_compares_25 : decode cX7_compares 25 = .ok (.aload_n 2, 1) := by decide +kernel
theorem dX7_compares_26 : decode cX7_compares 26 = .ok (.invokestatic 48, 3) := by decide +kernel
theorem dX7_compares_29 : decode cX7_compares 29 = .ok (.istore 4, 2) := by decide +kernel
theorem dX7_compares_31 : decode cX7_compares 31 = .ok (.aload_n 0, 1) := by decide +kernel
theorem dX7_compares_32 : decode cX7_compares 32 = .ok (.getfield 27, 3) := by decide +kernel
theorem dX7_compares_35 : decode cX7_compares 35 = .ok (.iload_n 1, 1) := by decide +kernel
theorem dX7_compares_36 : decode cX7_compares 36 = .ok (.iconst 3, 1) := by decide +kernel
theorem dX7_compares_37 : decode cX7_compares 37 = .ok (.imul, 1) := by decide +kernel
theorem dX7_compares_38 : decode cX7_compares 38 = .ok (.iaload, 1) := by decide +kernel
theorem dX7_compares_39 : decode cX7_compares 39 = .ok (.lookupswitch 49 #[(0, 25), (1, 37)], 25) := by decide +kernel
theorem dX7_compares_64 : decode cX7_compares 64 = .ok (.iload_n 3, 1) := by decide +kernel
theorem dX7_compares_65 : decode cX7_compares 65 = .ok (.iload 4, 2) := by decide +kernel
theorem dX7_compares_67 : decode cX7_compares 67 = .ok (.if_icmp .ge 7, 3) := by decide +kernel
theorem dX7_compares_70 : decode cX7_compares 70 = .ok (.iconst 1, 1) := by decide +kernel
theorem dX7_compares_71 : decode cX7_compares 71 = .ok (.goto 4, 3) := by decide +kernel
theorem dX7_compares_74 : decode cX7_compares 74 = .ok (.iconst 0, 1) := by decide +kernel
theorem dX7_compares_75 : decode cX7_compares 75 = .ok (.ireturn, 1) := by decide +kernel
theorem dX7_compares_76 : decode cX7_compares 76 = .ok (.iload_n 3, 1) := by decide +kernel
theorem dX7_compares_77 : decode cX7_compares 77 = .ok (.iload 4, 2) := by decide +kernel
theorem dX7_compares_79 : decode cX7_compares 79 = .ok (.if_icmp .ne 7, 3) := by decide +kernel
theorem dX7_compares_82 : decode cX7_compares 82 = .ok (.iconst 1, 1) := by decide +kernel
theorem dX7_compares_83 : decode cX7_compares 83 = .ok (.goto 4, 3) := by decide +kernel
theorem dX7_compares_86 : decode cX7_compares 86 = .ok (.iconst 0, 1) := by decide +kernel
theorem dX7_compares_87 : decode cX7_compares 87 = .ok (.ireturn, 1) := by decide +kernel
theorem dX7_compares_88 : decode cX7_compares 88 = .ok (.iload_n 3, 1) := by decide +kernel
theorem dX7_compares_89 : decode cX7_compares 89 = .ok (.iload 4, 2) := by decide +kernel
theorem dX7_compares_91 : decode cX7_compares 91 = .ok (.if_icmp .le 7, 3) := by decide +kernel
theorem dX7_compares_94 : decode cX7_compares 94 = .ok (.iconst 1, 1) := by decide +kernel
theorem dX7_compares_95 : decode cX7_compares 95 = .ok (.goto 4, 3) := by decide +kernel
theorem dX7_compares_98 : decode cX7_compares 98 = .ok (.iconst 0, 1) := by decide +kernel
theorem dX7_compares_99 : decode cX7_compares 99 = .ok (.ireturn, 1) := by decide +kernel
theorem dX7_valueOf_0 : decode cX7_valueOf 0 = .ok (.iload_n 0, 1) := by decide +kernel
theorem dX7_valueOf_1 : decode cX7_valueOf 1 = .ok (.sipush 10000, 3) := by decide +kernel
theorem dX7_valueOf_4 : decode cX7_valueOf 4 = .ok (.if_icmp .lt 17, 3) := by decide +kernel
theorem dX7_valueOf_7 : decode cX7_valueOf 7 = .ok (.iload_n 0, 1) := by decide +kernel
theorem dX7_valueOf_8 : decode cX7_valueOf 8 = .ok (.sipush 10000, 3) := by decide +kernel
theorem dX7_valueOf_11 : decode cX7_valueOf 11 = .ok (.isub, 1) := by decide +kernel
theorem dX7_valueOf_12 : decode cX7_valueOf 12 = .ok (.aload_n 1, 1) := by decide +kernel
theorem dX7_valueOf_13 : decode cX7_valueOf 13 = .ok (.arraylength, 1) := by decide +kernel
theorem dX7_valueOf_14 : decode cX7_valueOf 14 = .ok (.if_icmp .ge 7, 3) := by decide +kernel
theorem dX7_valueOf_17 : decode cX7_valueOf 17 = .ok (.iconst 1, 1) := by decide +kernel
theorem dX7_valueOf_18 : decode cX7_valueOf 18 = .ok (.goto 4, 3) := by decide +kernel
theorem dX7_valueOf_21 : decode cX7_valueOf 21 = .ok (.iconst 0, 1) := by decide +kernel
theorem dX7_valueOf_22 : decode cX7_valueOf 22 = .ok (.istore_n 2, 1) := by decide +kernel
theorem dX7_valueOf_23 : decode cX7_valueOf 23 = .ok (.iload_n 2, 1) := by decide +kernel
theorem dX7_valueOf_24 : decode cX7_valueOf 24 = .ok (.ifCond .eq 13, 3) := by decide +kernel
theorem dX7_valueOf_27 : decode cX7_valueOf 27 = .ok (.aload_n 1, 1) := by decide +kernel
theorem dX7_valueOf_28 : decode cX7_valueOf 28 = .ok (.iload_n 0, 1) := by decide +kernel
theorem dX7_valueOf_29 : decode cX7_valueOf 29 = .ok (.sipush 10000, 3) := by decide +kernel
theorem dX7_valueOf_32 : decode cX7_valueOf 32 = .ok (.isub, 1) := by decide +kernel
theorem dX7_valueOf_33 : decode cX7_valueOf 33 = .ok (.iaload, 1) := by decide +kernel
theorem dX7_valueOf_34 : decode cX7_valueOf 34 = .ok (.goto 4, 3) := by decide +kernel
theorem dX7_valueOf_37 : decode cX7_valueOf 37 = .ok (.iload_n 0, 1) := by decide +kernel
theorem dX7_valueOf_38 : decode cX7_valueOf 38 = .ok (.ireturn, 1) := by decide +kernel
theorem dX8_init_0 : decode cX8_init 0 = .ok (.aload_n 0, 1) := by decide +kernel
theorem dX8_init_1 : decode cX8_init 1 = .ok (.invokespecial 3, 3) := by decide +kernel
theorem dX8_init_4 : decode cX8_init 4 = .ok (.aload_n 0, 1) := by decide +kernel
theorem dX8_init_5 : decode cX8_init 5 = .ok (.sipush 200, 3) := by decide +kernel
theorem dX8_init_8 : decode cX8_init 8 = .ok (.newarray .int, 2) := by decide +kernel
theorem dX8_init_10 : decode cX8_init 10 = .ok (.putfield 9, 3) := by decide +kernel
theorem dX8_init_13 : decode cX8_init 13 = .ok (.aload_n 0, 1) := by decide +kernel
theorem dX8_init_14 : decode cX8_init 14 = .ok (.sipush 201, 3) := by decide +kernel
theorem dX8_init_17 : decode cX8_init 17 = .ok (.newarray .int, 2) := by decide +kernel
theorem dX8_init_19 : decode cX8_init 19 = .ok (.putfield 15, 3) := by decide +kernel
theorem dX8_init_22 : decode cX8_init 22 = .ok (.aload_n 0, 1) := by decide +kernel
theorem dX8_init_23 : decode cX8_init 23 = .ok (.sipush 201, 3) := by decide +kernel
theorem dX8_init_26 : decode cX8_init 26 = .ok (.newarray .int, 2) := by decide +kernel
theorem dX8_init_28 : decode cX8_init 28 = .ok (.putfield 18, 3) := by decide +kernel
theorem dX8_init_31 : decode cX8_init 31 = .ok (.aload_n 0, 1) := by decide +kernel
theorem dX8_init_32 : decode cX8_init 32 = .ok (.sipush 201, 3) := by decide +kernel
theorem dX8_init_35 : decode cX8_init 35 = .ok (.newarray .int, 2) := by decide +kernel
theorem dX8_init_37 : decode cX8_init 37 = .ok (.putfield 21, 3) := by decide +kernel
theorem dX8_init_40 : decode cX8_init 40 = .ok (.return_, 1) := by decide +kernel
theorem dX8_takeByte_0 : decode cX8_takeByte 0 = .ok (.aload_n 0, 1) := by decide +kernel
theorem dX8_takeByte_1 : decode cX8_takeByte 1 = .ok (.getfield 24, 3) := by decide +kernel
theorem dX8_takeByte_4 : decode cX8_takeByte 4 = .ok (.sipush 200, 3) := by decide +kernel
theorem dX8_takeByte_7 : decode cX8_takeByte 7 = .ok (.if_icmp .ge 23, 3) := by decide +kernel
theorem dX8_takeByte_10 : decode cX8_takeByte 10 = .ok (.aload_n 0, 1) := by decide +kernel
theorem dX8_takeByte_11 : decode cX8_takeByte 11 = .ok (.getfield 9, 3) := by decide +kernel
theorem dX8_takeByte_14 : decode cX8_takeByte 14 = .ok (.aload_n 0, 1) := by decide +kernel
theorem dX8_takeByte_15 : decode cX8_takeByte 15 = .ok (.getfield 24, 3) := by decide +kernel
theorem dX8_takeByte_18 : decode cX8_takeByte 18 = .ok (.iload_n 1, 1) := by decide +kernel
theorem dX8_takeByte_19 : decode cX8_takeByte 19 = .ok (.iastore, 1) := by decide +kernel
theorem dX8_takeByte_20 : decode cX8_takeByte 20 = .ok (.aload_n 0, 1) := by decide +kernel
theorem dX8_takeByte_21 : decode cX8_takeByte 21 = .ok (.dup, 1) := by decide +kernel
theorem dX8_takeByte_22 : decode cX8_takeByte 22 = .ok (.getfield 24, 3) := by decide +kernel
theorem dX8_takeByte_25 : decode cX8_takeByte 25 = .ok (.iconst 1, 1) := by decide +kernel
theorem dX8_takeByte_26 : decode cX8_takeByte 26 = .ok (.iadd, 1) := by decide +kernel
theorem dX8_takeByte_27 : decode cX8_takeByte 27 = .ok (.putfield 24, 3) := by decide +kernel
theorem dX8_takeByte_30 : decode cX8_takeByte 30 = .ok (.return_, 1) := by decide +kernel
theorem dX8_readTape_0 : decode cX8_readTape 0 = .ok (.aload_n 0, 1) := by decide +kernel
theorem dX8_readTape_1 : decode cX8_readTape 1 = .ok (.invokevirtual 28, 3) := by decide +kernel
theorem dX8_readTape_4 : decode cX8_readTape 4 = .ok (.aload_n 0, 1) := by decide +kernel
theorem dX8_readTape_5 : decode cX8_readTape 5 = .ok (.iconst 0, 1) := by decide +kernel
theorem dX8_readTape_6 : decode cX8_readTape 6 = .ok (.putfield 24, 3) := by decide +kernel
theorem dX8_readTape_9 : decode cX8_readTape 9 = .ok (.aload_n 0, 1) := by decide +kernel
theorem dX8_readTape_10 : decode cX8_readTape 10 = .ok (.iconst 0, 1) := by decide +kernel
theorem dX8_readTape_11 : decode cX8_readTape 11 = .ok (.putfield 31, 3) := by decide +kernel
theorem dX8_readTape_14 : decode cX8_readTape 14 = .ok (.new 34, 3) := by decide +kernel
theorem dX8_readTape_17 : decode cX8_readTape 17 = .ok (.dup, 1) := by decide +kernel
theorem dX8_readTape_18 : decode cX8_readTape 18 = .ok (.aload_n 0, 1) := by decide +kernel
theorem dX8_readTape_19 : decode cX8_readTape 19 = .ok (.getfield 36, 3) := by decide +kernel
theorem dX8_readTape_22 : decode cX8_readTape 22 = .ok (.invokespecial 39, 3) := by decide +kernel
theorem dX8_readTape_25 : decode cX8_readTape 25 = .ok (.astore_n 1, 1) := by decide +kernel
theorem dX8_readTape_26 : decode cX8_readTape 26 = .ok (.iconst 1, 1) := by decide +kernel
theorem dX8_readTape_27 : decode cX8_readTape 27 = .ok (.istore_n 2, 1) := by decide +kernel
theorem dX8_readTape_28 : decode cX8_readTape 28 = .ok (.iconst 0, 1) := by decide +kernel
theorem dX8_readTape_29 : decode cX8_readTape 29 = .ok (.istore_n 3, 1) := by decide +kernel
theorem dX8_readTape_30 : decode cX8_readTape 30 = .ok (.iload_n 3, 1) := by decide +kernel
theorem dX8_readTape_31 : decode cX8_readTape 31 = .ok (.bipush 8, 2) := by decide +kernel
theorem dX8_readTape_33 : decode cX8_readTape 33 = .ok (.if_icmp .ge 33, 3) := by decide +kernel
theorem dX8_readTape_36 : decode cX8_readTape 36 = .ok (.iload_n 2, 1) := by decide +kernel
theorem dX8_readTape_37 : decode cX8_readTape 37 = .ok (.ifCond .eq 29, 3) := by decide +kernel
theorem dX8_readTape_40 : decode cX8_readTape 40 = .ok (.aload_n 0, 1) := by decide +kernel
theorem dX8_readTape_41 : decode cX8_readTape 41 = .ok (.getfield 15, 3) := by decide +kernel
theorem dX8_readTape_44 : decode cX8_readTape 44 = .ok (.aload_n 0, 1) := by decide +kernel
theorem dX8_readTape_45 : decode cX8_readTape 45 = .ok (.getfield 31, 3) := by decide +kernel
theorem dX8_readTape_48 : decode cX8_readTape 48 = .ok (.iaload, 1) := by decide +kernel
theorem dX8_readTape_49 : decode cX8_readTape 49 = .ok (.bipush 26, 2) := by decide +kernel
theorem dX8_readTape_51 : decode cX8_readTape 51 = .ok (.if_icmp .eq 15, 3) := by decide +kernel
theorem dX8_readTape_54 : decode cX8_readTape 54 = .ok (.aload_n 0, 1) := by decide +kernel
theorem dX8_readTape_55 : decode cX8_readTape 55 = .ok (.aload_n 1, 1) := by decide +kernel
theorem dX8_readTape_56 : decode cX8_readTape 56 = .ok (.invokevirtual 42, 3) := by decide +kernel
theorem dX8_readTape_59 : decode cX8_readTape 59 = .ok (.istore_n 2, 1) := by decide +kernel
theorem dX8_readTape_60 : decode cX8_readTape 60 = .ok (.iinc 3 1, 3) := by decide +kernel
theorem dX8_readTape_63 : decode cX8_readTape 63 = .ok (.goto (-33), 3) := by decide +kernel
theorem dX8_readTape_66 : decode cX8_readTape 66 = .ok (.aload_n 0, 1) := by decide +kernel
theorem dX8_readTape_67 : decode cX8_readTape 67 = .ok (.aload_n 0, 1) := by decide +kernel
theorem dX8_readTape_68 : decode cX8_readTape 68 = .ok (.getfield 18, 3) := by decide +kernel
theorem dX8_readTape_71 : decode cX8_readTape 71 = .ok (.aload_n 0, 1) := by decide +kernel
theorem dX8_readTape_72 : decode cX8_readTape 72 = .ok (.getfield 31, 3) := by decide +kernel
theorem dX8_readTape_75 : decode cX8_readTape 75 = .ok (.iaload, 1) := by decide +kernel
theorem dX8_readTape_76 : decode cX8_readTape 76 = .ok (.putfield 46, 3) := by decide +kernel
theorem dX8_readTape_79 : decode cX8_readTape 79 = .ok (.iload_n 2, 1) := by decide +kernel
theorem dX8_readTape_80 : decode cX8_readTape 80 = .ok (.ifCond .eq 21, 3) := by decide +kernel
theorem dX8_readTape_83 : decode cX8_readTape 83 = .ok (.aload_n 0, 1) := by decide +kernel
theorem dX8_readTape_84 : decode cX8_readTape 84 = .ok (.getfield 15, 3) := by decide +kernel
theorem dX8_readTape_87 : decode cX8_readTape 87 = .ok (.aload_n 0, 1) := by decide +kernel
theorem dX8_readTape_88 : decode cX8_readTape 88 = .ok (.getfield 31, 3) := by decide +kernel
theorem dX8_readTape_91 : decode cX8_readTape 91 = .ok (.iaload, 1) := by decide +kernel
theorem dX8_readTape_92 : decode cX8_readTape 92 = .ok (.bipush 26, 2) := by decide +kernel
theorem dX8_readTape_94 : decode cX8_readTape 94 = .ok (.if_icmp .ne 7, 3) := by decide +kernel
theorem dX8_readTape_97 : decode cX8_readTape 97 = .ok (.aload_n 1, 1) := by decide +kernel
theorem dX8_readTape_98 : decode cX8_readTape 98 = .ok (.goto 4, 3) := by decide +kernel
theorem dX8_readTape_101 : decode cX8_readTape 101 = .ok (.aconst_null, 1) := by decide +kernel
theorem dX8_readTape_102 : decode cX8_readTape 102 = .ok (.areturn, 1) := by decide +kernel
theorem dX8_splitTape_0 : decode cX8_splitTape 0 = .ok (.aload_n 0, 1) := by decide +kernel
theorem dX8_splitTape_1 : decode cX8_splitTape 1 = .ok (.iconst 0, 1) := by decide +kernel
theorem dX8_splitTape_2 : decode cX8_splitTape 2 = .ok (.putfield 36, 3) := by decide +kernel
theorem dX8_splitTape_5 : decode cX8_splitTape 5 = .ok (.iconst 0, 1) := by decide +kernel
theorem dX8_splitTape_6 : decode cX8_splitTape 6 = .ok (.istore_n 1, 1) := by decide +kernel
theorem dX8_splitTape_7 : decode cX8_splitTape 7 = .ok (.iconst 0, 1) := by decide +kernel
theorem dX8_splitTape_8 : decode cX8_splitTape 8 = .ok (.istore_n 2, 1) := by decide +kernel
theorem dX8_splitTape_9 : decode cX8_splitTape 9 = .ok (.iload_n 2, 1) := by decide +kernel
theorem dX8_splitTape_10 : decode cX8_splitTape 10 = .ok (.aload_n 0, 1) := by decide +kernel
theorem dX8_splitTape_11 : decode cX8_splitTape 11 = .ok (.getfield 24, 3) := by decide +kernel
theorem dX8_splitTape_14 : decode cX8_splitTape 14 = .ok (.if_icmp .ge 99, 3) := by decide +kernel
theorem dX8_splitTape_17 : decode cX8_splitTape 17 = .ok (.aload_n 0, 1) := by decide +kernel
theorem dX8_splitTape_18 : decode cX8_splitTape 18 = .ok (.iload_n 2, 1) := by decide +kernel
theorem dX8_splitTape_19 : decode cX8_splitTape 19 = .ok (.invokevirtual 49, 3) := by decide +kernel
theorem dX8_splitTape_22 : decode cX8_splitTape 22 = .ok (.istore_n 1, 1) := by decide +kernel
theorem dX8_splitTape_23 : decode cX8_splitTape 23 = .ok (.aload_n 0, 1) := by decide +kernel
theorem dX8_splitTape_24 : decode cX8_splitTape 24 = .ok (.getfield 9, 3) := by decide +kernel
theorem dX8_splitTape_27 : decode cX8_splitTape 27 = .ok (.iload_n 2, 1) := by decide +kernel
theorem dX8_splitTape_28 : decode cX8_splitTape 28 = .ok (.iaload, 1) := by decide +kernel
theorem dX8_splitTape_29 : decode cX8_splitTape 29 = .ok (.bipush 32, 2) := by decide +kernel
theorem dX8_splitTape_31 : decode cX8_splitTape 31 = .ok (.if_icmp .eq 71, 3) := by decide +kernel
theorem dX8_splitTape_34 : decode cX8_splitTape 34 = .ok (.aload_n 0, 1) := by decide +kernel
theorem dX8_splitTape_35 : decode cX8_splitTape 35 = .ok (.getfield 15, 3) := by decide +kernel
theorem dX8_splitTape_38 : decode cX8_splitTape 38 = .ok (.aload_n 0, 1) := by decide +kernel
theorem dX8_splitTape_39 : decode cX8_splitTape 39 = .ok (.getfield 36, 3) := by decide +kernel
theorem dX8_splitTape_42 : decode cX8_splitTape 42 = .ok (.aload_n 0, 1) := by decide +kernel
theorem dX8_splitTape_43 : decode cX8_splitTape 43 = .ok (.iload_n 2, 1) := by decide +kernel
theorem dX8_splitTape_44 : decode cX8_splitTape 44 = .ok (.iload_n 1, 1) := by decide +kernel
theorem dX8_splitTape_45 : decode cX8_splitTape 45 = .ok (.invokevirtual 53, 3) := by decide +kernel
theorem dX8_splitTape_48 : decode cX8_splitTape 48 = .ok (.iastore, 1) := by decide +kernel
theorem dX8_splitTape_49 : decode cX8_splitTape 49 = .ok (.aload_n 0, 1) := by decide +kernel
theorem dX8_splitTape_50 : decode cX8_splitTape 50 = .ok (.getfield 18, 3) := by decide +kernel
theorem dX8_splitTape_53 : decode cX8_splitTape 53 = .ok (.aload_n 0, 1) := by decide +kernel
theorem dX8_splitTape_54 : decode cX8_splitTape 54 = .ok (.getfield 36, 3) := by decide +kernel
theorem dX8_splitTape_57 : decode cX8_splitTape 57 = .ok (.iload_n 2, 1) := by decide +kernel
theorem dX8_splitTape_58 : decode cX8_splitTape 58 = .ok (.iastore, 1) := by decide +kernel
theorem dX8_splitTape_59 : decode cX8_splitTape 59 = .ok (.aload_n 0, 1) := by decide +kernel
theorem dX8_splitTape_60 : decode cX8_splitTape 60 = .ok (.getfield 21, 3) := by decide +kernel
theorem dX8_splitTape_63 : decode cX8_splitTape 63 = .ok (.aload_n 0, 1) := by decide +kernel
theorem dX8_splitTape_64 : decode cX8_splitTape 64 = .ok (.getfield 36, 3) := by decide +kernel
theorem dX8_splitTape_67 : decode cX8_splitTape 67 = .ok (.aload_n 0, 1) := by decide +kernel
theorem dX8_splitTape_68 : decode cX8_splitTape 68 = .ok (.getfield 15, 3) := by decide +kernel
theorem dX8_splitTape_71 : decode cX8_splitTape 71 = .ok (.aload_n 0, 1) := by decide +kernel
theorem dX8_splitTape_72 : decode cX8_splitTape 72 = .ok (.getfield 36, 3) := by decide +kernel
theorem dX8_splitTape_75 : decode cX8_splitTape 75 = .ok (.iaload, 1) := by decide +kernel
theorem dX8_splitTape_76 : decode cX8_splitTape 76 = .ok (.bipush 18, 2) := by decide +kernel
theorem dX8_splitTape_78 : decode cX8_splitTape 78 = .ok (.if_icmp .ne 12, 3) := by decide +kernel
theorem dX8_splitTape_81 : decode cX8_splitTape 81 = .ok (.aload_n 0, 1) := by decide +kernel
theorem dX8_splitTape_82 : decode cX8_splitTape 82 = .ok (.iload_n 2, 1) := by decide +kernel
theorem dX8_splitTape_83 : decode cX8_splitTape 83 = .ok (.iload_n 1, 1) := by decide +kernel
theorem dX8_splitTape_84 : decode cX8_splitTape 84 = .ok (.invokevirtual 57, 3) := by decide +kernel
theorem dX8_splitTape_87 : decode cX8_splitTape 87 = .ok (.goto 4, 3) := by decide +kernel
theorem dX8_splitTape_90 : decode cX8_splitTape 90 = .ok (.iconst 0, 1) := by decide +kernel
theorem dX8_splitTape_91 : decode cX8_splitTape 91 = .ok (.iastore, 1) := by decide +kernel
theorem dX8_splitTape_92 : decode cX8_splitTape 92 = .ok (.aload_n 0, 1) := by decide +kernel
theorem dX8_splitTape_93 : decode cX8_splitTape 93 = .ok (.dup, 1) := by decide +kernel
theorem dX8_splitTape_94 : decode cX8_splitTape 94 = .ok (.getfield 36, 3) := by decide +kernel
theorem dX8_splitTape_97 : decode cX8_splitTape 97 = .ok (.iconst 1, 1) := by decide +kernel
theorem dX8_splitTape_98 : decode cX8_splitTape 98 = .ok (.iadd, 1) := by decide +kernel
theorem dX8_splitTape_99 : decode cX8_splitTape 99 = .ok (.putfield 36, 3) := by decide +kernel
theorem dX8_splitTape_102 : decode cX8_splitTape 102 = .ok (.iload_n 2, 1) := by decide +kernel
theorem dX8_splitTape_103 : decode cX8_splitTape 103 = .ok (.iconst 1, 1) := by decide +kernel
theorem dX8_splitTape_104 : decode cX8_splitTape 104 = .ok (.iadd, 1) := by decide +kernel
theorem dX8_splitTape_105 : decode cX8_splitTape 105 = .ok (.iload_n 1, 1) := by decide +kernel
theorem dX8_splitTape_106 : decode cX8_splitTape 106 = .ok (.invokestatic 60, 3) := by decide +kernel
theorem dX8_splitTape_109 : decode cX8_splitTape 109 = .ok (.istore_n 2, 1) := by decide +kernel
theorem dX8_splitTape_110 : decode cX8_splitTape 110 = .ok (.goto (-101), 3) := by decide +kernel
theorem dX8_splitTape_113 : decode cX8_splitTape 113 = .ok (.aload_n 0, 1) := by decide +kernel
theorem dX8_splitTape_114 : decode cX8_splitTape 114 = .ok (.getfield 15, 3) := by decide +kernel
theorem dX8_splitTape_117 : decode cX8_splitTape 117 = .ok (.aload_n 0, 1) := by decide +kernel
theorem dX8_splitTape_118 : decode cX8_splitTape 118 = .ok (.getfield 36, 3) := by decide +kernel
theorem dX8_splitTape_121 : decode cX8_splitTape 121 = .ok (.bipush 26, 2) := by decide +kernel
theorem dX8_splitTape_123 : decode cX8_splitTape 123 = .ok (.iastore, 1) := by decide +kernel
theorem dX8_splitTape_124 : decode cX8_splitTape 124 = .ok (.aload_n 0, 1) := by decide +kernel
theorem dX8_splitTape_125 : decode cX8_splitTape 125 = .ok (.getfield 18, 3) := by decide +kernel
theorem dX8_splitTape_128 : decode cX8_splitTape 128 = .ok (.aload_n 0, 1) := by decide +kernel
theorem dX8_splitTape_129 : decode cX8_splitTape 129 = .ok (.getfield 36, 3) := by decide +kernel
theorem dX8_splitTape_132 : decode cX8_splitTape 132 = .ok (.aload_n 0, 1) := by decide +kernel
theorem dX8_splitTape_133 : decode cX8_splitTape 133 = .ok (.getfield 24, 3) := by decide +kernel
theorem dX8_splitTape_136 : decode cX8_splitTape 136 = .ok (.iastore, 1) := by decide +kernel
theorem dX8_splitTape_137 : decode cX8_splitTape 137 = .ok (.return_, 1) := by decide +kernel
theorem dX8_isLetter_0 : decode cX8_isLetter 0 = .ok (.iload_n 0, 1) := by decide +kernel
theorem dX8_isLetter_1 : decode cX8_isLetter 1 = .ok (.bipush 97, 2) := by decide +kernel
theorem dX8_isLetter_3 : decode cX8_isLetter 3 = .ok (.if_icmp .lt 13, 3) := by decide +kernel
theorem dX8_isLetter_6 : decode cX8_isLetter 6 = .ok (.iload_n 0, 1) := by decide +kernel
theorem dX8_isLetter_7 : decode cX8_isLetter 7 = .ok (.bipush 122, 2) := by decide +kernel
theorem dX8_isLetter_9 : decode cX8_isLetter 9 = .ok (.if_icmp .gt 7, 3) := by decide +kernel
theorem dX8_isLetter_12 : decode cX8_isLetter 12 = .ok (.iconst 1, 1) := by decide +kernel
theorem dX8_isLetter_13 : decode cX8_isLetter 13 = .ok (.goto 4, 3) := by decide +kernel
theorem dX8_isLetter_16 : decode cX8_isLetter 16 = .ok (.iconst 0, 1) := by decide +kernel
theorem dX8_isLetter_17 : decode cX8_isLetter 17 = .ok (.ireturn, 1) := by decide +kernel
theorem dX8_isDigit_0 : decode cX8_isDigit 0 = .ok (.iload_n 0, 1) := by decide +kernel
theorem dX8_isDigit_1 : decode cX8_isDigit 1 = .ok (.bipush 48, 2) := by decide +kernel
theorem dX8_isDigit_3 : decode cX8_isDigit 3 = .ok (.if_icmp .lt 13, 3) := by decide +kernel
theorem dX8_isDigit_6 : decode cX8_isDigit 6 = .ok (.iload_n 0, 1) := by decide +kernel
theorem dX8_isDigit_7 : decode cX8_isDigit 7 = .ok (.bipush 57, 2) := by decide +kernel
theorem dX8_isDigit_9 : decode cX8_isDigit 9 = .ok (.if_icmp .gt 7, 3) := by decide +kernel
theorem dX8_isDigit_12 : decode cX8_isDigit 12 = .ok (.iconst 1, 1) := by decide +kernel
theorem dX8_isDigit_13 : decode cX8_isDigit 13 = .ok (.goto 4, 3) := by decide +kernel
theorem dX8_isDigit_16 : decode cX8_isDigit 16 = .ok (.iconst 0, 1) := by decide +kernel
theorem dX8_isDigit_17 : decode cX8_isDigit 17 = .ok (.ireturn, 1) := by decide +kernel
theorem dX8_wordEnd_0 : decode cX8_wordEnd 0 = .ok (.iload_n 1, 1) := by decide +kernel
theorem dX8_wordEnd_1 : decode cX8_wordEnd 1 = .ok (.iconst 1, 1) := by decide +kernel
theorem dX8_wordEnd_2 : decode cX8_wordEnd 2 = .ok (.iadd, 1) := by decide +kernel
theorem dX8_wordEnd_3 : decode cX8_wordEnd 3 = .ok (.istore_n 2, 1) := by decide +kernel
theorem dX8_wordEnd_4 : decode cX8_wordEnd 4 = .ok (.aload_n 0, 1) := by decide +kernel
theorem dX8_wordEnd_5 : decode cX8_wordEnd 5 = .ok (.getfield 9, 3) := by decide +kernel
theorem dX8_wordEnd_8 : decode cX8_wordEnd 8 = .ok (.iload_n 1, 1) := by decide +kernel
theorem dX8_wordEnd_9 : decode cX8_wordEnd 9 = .ok (.iaload, 1) := by decide +kernel
theorem dX8_wordEnd_10 : decode cX8_wordEnd 10 = .ok (.invokestatic 65, 3) := by decide +kernel
theorem dX8_wordEnd_13 : decode cX8_wordEnd 13 = .ok (.ifCond .eq 29, 3) := by decide +kernel
theorem dX8_wordEnd_16 : decode cX8_wordEnd 16 = .ok (.iload_n 2, 1) := by decide +kernel
theorem dX8_wordEnd_17 : decode cX8_wordEnd 17 = .ok (.aload_n 0, 1) := by decide +kernel
theorem dX8_wordEnd_18 : decode cX8_wordEnd 18 = .ok (.getfield 24, 3) := by decide +kernel
theorem dX8_wordEnd_21 : decode cX8_wordEnd 21 = .ok (.if_icmp .ge 59, 3) := by decide +kernel
theorem dX8_wordEnd_24 : decode cX8_wordEnd 24 = .ok (.aload_n 0, 1) := by decide +kernel
theorem dX8_wordEnd_25 : decode cX8_wordEnd 25 = .ok (.getfield 9, 3) := by decide +kernel
theorem dX8_wordEnd_28 : decode cX8_wordEnd 28 = .ok (.iload_n 2, 1) := by decide +kernel
theorem dX8_wordEnd_29 : decode cX8_wordEnd 29 = .ok (.iaload, 1) := by decide +kernel
theorem dX8_wordEnd_30 : decode cX8_wordEnd 30 = .ok (.invokestatic 65, 3) := by decide +kernel
theorem dX8_wordEnd_33 : decode cX8_wordEnd 33 = .ok (.ifCond .eq 47, 3) := by decide +kernel
theorem dX8_wordEnd_36 : decode cX8_wordEnd 36 = .ok (.iinc 2 1, 3) := by decide +kernel
theorem dX8_wordEnd_39 : decode cX8_wordEnd 39 = .ok (.goto (-23), 3) := by decide +kernel
theorem dX8_wordEnd_42 : decode cX8_wordEnd 42 = .ok (.aload_n 0, 1) := by decide +kernel
theorem dX8_wordEnd_43 : decode cX8_wordEnd 43 = .ok (.getfield 9, 3) := by decide +kernel
theorem dX8_wordEnd_46 : decode cX8_wordEnd 46 = .ok (.iload_n 1, 1) := by decide +kernel
theorem dX8_wordEnd_47 : decode cX8_wordEnd 47 = .ok (.iaload, 1) := by decide +kernel
theorem dX8_wordEnd_48 : decode cX8_wordEnd 48 = .ok (.invokestatic 69, 3) := by decide +kernel
theorem dX8_wordEnd_51 : decode cX8_wordEnd 51 = .ok (.ifCond .eq 29, 3) := by decide +kernel
theorem dX8_wordEnd_54 : decode cX8_wordEnd 54 = .ok (.iload_n 2, 1) := by decide +kernel
theorem dX8_wordEnd_55 : decode cX8_wordEnd 55 = .ok (.aload_n 0, 1) := by decide +kernel
theorem dX8_wordEnd_56 : decode cX8_wordEnd 56 = .ok (.getfield 24, 3) := by decide +kernel
theorem dX8_wordEnd_59 : decode cX8_wordEnd 59 = .ok (.if_icmp .ge 21, 3) := by decide +kernel
theorem dX8_wordEnd_62 : decode cX8_wordEnd 62 = .ok (.aload_n 0, 1) := by decide +kernel
theorem dX8_wordEnd_63 : decode cX8_wordEnd 63 = .ok (.getfield 9, 3) := by decide +kernel
theorem dX8_wordEnd_66 : decode cX8_wordEnd 66 = .ok (.iload_n 2, 1) := by decide +kernel
theorem dX8_wordEnd_67 : decode cX8_wordEnd 67 = .ok (.iaload, 1) := by decide +kernel
theorem dX8_wordEnd_68 : decode cX8_wordEnd 68 = .ok (.invokestatic 69, 3) := by decide +kernel
theorem dX8_wordEnd_71 : decode cX8_wordEnd 71 = .ok (.ifCond .eq 9, 3) := by decide +kernel
theorem dX8_wordEnd_74 : decode cX8_wordEnd 74 = .ok (.iinc 2 1, 3) := by decide +kernel
theorem dX8_wordEnd_77 : decode cX8_wordEnd 77 = .ok (.goto (-23), 3) := by decide +kernel
theorem dX8_wordEnd_80 : decode cX8_wordEnd 80 = .ok (.iload_n 2, 1) := by decide +kernel
theorem dX8_wordEnd_81 : decode cX8_wordEnd 81 = .ok (.ireturn, 1) := by decide +kernel
theorem dX8_codeOf_0 : decode cX8_codeOf 0 = .ok (.aload_n 0, 1) := by decide +kernel
theorem dX8_codeOf_1 : decode cX8_codeOf 1 = .ok (.getfield 9, 3) := by decide +kernel
theorem dX8_codeOf_4 : decode cX8_codeOf 4 = .ok (.iload_n 1, 1) := by decide +kernel
theorem dX8_codeOf_5 : decode cX8_codeOf 5 = .ok (.iaload, 1) := by decide +kernel
theorem dX8_codeOf_6 : decode cX8_codeOf 6 = .ok (.invokestatic 65, 3) := by decide +kernel
theorem dX8_codeOf_9 : decode cX8_codeOf 9 = .ok (.ifCond .eq 12, 3) := by decide +kernel
theorem dX8_codeOf_12 : decode cX8_codeOf 12 = .ok (.aload_n 0, 1) := by decide +kernel
theorem dX8_codeOf_13 : decode cX8_codeOf 13 = .ok (.iload_n 1, 1) := by decide +kernel
theorem dX8_codeOf_14 : decode cX8_codeOf 14 = .ok (.iload_n 2, 1) := by decide +kernel
theorem dX8_codeOf_15 : decode cX8_codeOf 15 = .ok (.iload_n 1, 1) := by decide +kernel
theorem dX8_codeOf_16 : decode cX8_codeOf 16 = .ok (.isub, 1) := by decide +kernel
theorem dX8_codeOf_17 : decode cX8_codeOf 17 = .ok (.invokevirtual 72, 3) := by decide +kernel
theorem dX8_codeOf_20 : decode cX8_codeOf 20 = .ok (.ireturn, 1) := by decide +kernel
theorem dX8_codeOf_21 : decode cX8_codeOf 21 = .ok (.aload_n 0, 1) := by decide +kernel
theorem dX8_codeOf_22 : decode cX8_codeOf 22 = .ok (.getfield 9, 3) := by decide +kernel
theorem dX8_codeOf_25 : decode cX8_codeOf 25 = .ok (.iload_n 1, 1) := by decide +kernel
theorem dX8_codeOf_26 : decode cX8_codeOf 26 = .ok (.iaload, 1) := by decide +kernel
theorem dX8_codeOf_27 : decode cX8_codeOf 27 = .ok (.invokestatic 69, 3) := by decide +kernel
theorem dX8_codeOf_30 : decode cX8_codeOf 30 = .ok (.ifCond .eq 18, 3) := by decide +kernel
theorem dX8_codeOf_33 : decode cX8_codeOf 33 = .ok (.iload_n 2, 1) := by decide +kernel
theorem dX8_codeOf_34 : decode cX8_codeOf 34 = .ok (.iload_n 1, 1) := by decide +kernel
theorem dX8_codeOf_35 : decode cX8_codeOf 35 = .ok (.isub, 1) := by decide +kernel
theorem dX8_codeOf_36 : decode cX8_codeOf 36 = .ok (.iconst 4, 1) := by decide +kernel
theorem dX8_codeOf_37 : decode cX8_codeOf 37 = .ok (.if_icmp .gt 8, 3) := by decide +kernel
theorem dX8_codeOf_40 : decode cX8_codeOf 40 = .ok (.bipush 18, 2) := by decide +kernel
theorem dX8_codeOf_42 : decode cX8_codeOf 42 = .ok (.goto 5, 3) := by decide +kernel
theorem dX8_codeOf_45 : decode cX8_codeOf 45 = .ok (.bipush 25, 2) := by decide +kernel
theorem dX8_codeOf_47 : decode cX8_codeOf 47 = .ok (.ireturn, 1) := by decide +kernel
theorem dX8_codeOf_48 : decode cX8_codeOf 48 = .ok (.aload_n 0, 1) := by decide +kernel
theorem dX8_codeOf_49 : decode cX8_codeOf 49 = .ok (.getfield 9, 3) := by decide +kernel
theorem dX8_codeOf_52 : decode cX8_codeOf 52 = .ok (.iload_n 1, 1) := by decide +kernel
theorem dX8_codeOf_53 : decode cX8_codeOf 53 = .ok (.iaload, 1) := by decide +kernel
theorem dX8_codeOf_54 : decode cX8_codeOf 54 = .ok (.lookupswitch 76 #[(40, 70), (41, 73), (59, 58), (60, 61), (61, 64), (62, 67)], 58) := by decide +kernel
theorem dX8_codeOf_112 : decode cX8_codeOf 112 = .ok (.bipush 19, 2) := by decide +kernel
theorem dX8_codeOf_114 : decode cX8_codeOf 114 = .ok (.ireturn, 1) := by decide +kernel
theorem dX8_codeOf_115 : decode cX8_codeOf 115 = .ok (.bipush 20, 2) := by decide +kernel
theorem dX8_codeOf_117 : decode cX8_codeOf 117 = .ok (.ireturn, 1) := by decide +kernel
theorem dX8_codeOf_118 : decode cX8_codeOf 118 = .ok (.bipush 21, 2) := by decide +kernel
theorem dX8_codeOf_120 : decode cX8_codeOf 120 = .ok (.ireturn, 1) := by decide +kernel
theorem dX8_codeOf_121 : decode cX8_codeOf 121 = .ok (.bipush 22, 2) := by decide +kernel
theorem dX8_codeOf_123 : decode cX8_codeOf 123 = .ok (.ireturn, 1) := by decide +kernel
theorem dX8_codeOf_124 : decode cX8_codeOf 124 = .ok (.bipush 23, 2) := by decide +kernel
theorem dX8_codeOf_126 : decode cX8_codeOf 126 = .ok (.ireturn, 1) := by decide +kernel
theorem dX8_codeOf_127 : decode cX8_codeOf 127 = .ok (.bipush 24, 2) := by decide +kernel
theorem dX8_codeOf_129 : decode cX8_codeOf 129 = .ok (.ireturn, 1) := by decide +kernel
theorem dX8_codeOf_130 : decode cX8_codeOf 130 = .ok (.bipush 25, 2) := by decide +kernel
theorem dX8_codeOf_132 : decode cX8_codeOf 132 = .ok (.ireturn, 1) := by decide +kernel
theorem dX8_nameCode_0 : decode cX8_nameCode 0 = .ok (.iconst 0, 1) := by decide +kernel
theorem dX8_nameCode_1 : decode cX8_nameCode 1 = .ok (.istore_n 3, 1) := by decide +kernel
theorem dX8_nameCode_2 : decode cX8_nameCode 2 = .ok (.iload_n 3, 1) := by decide +kernel
theorem dX8_nameCode_3 : decode cX8_nameCode 3 = .ok (.bipush 18, 2) := by decide +kernel
theorem dX8_nameCode_5 : decode cX8_nameCode 5 = .ok (.if_icmp .ge 21, 3) := by decide +kernel
theorem dX8_nameCode_8 : decode cX8_nameCode 8 = .ok (.aload_n 0, 1) := by decide +kernel
theorem dX8_nameCode_9 : decode cX8_nameCode 9 = .ok (.iload_n 3, 1) := by decide +kernel
theorem dX8_nameCode_10 : decode cX8_nameCode 10 = .ok (.iload_n 1, 1) := by decide +kernel
theorem dX8_nameCode_11 : decode cX8_nameCode 11 = .ok (.iload_n 2, 1) := by decide +kernel
theorem dX8_nameCode_12 : decode cX8_nameCode 12 = .ok (.invokevirtual 75, 3) := by decide +kernel
theorem dX8_nameCode_15 : decode cX8_nameCode 15 = .ok (.ifCond .eq 5, 3) := by decide +kernel
theorem dX8_nameCode_18 : decode cX8_nameCode 18 = .ok (.iload_n 3, 1) := by decide +kernel
theorem dX8_nameCode_19 : decode cX8_nameCode 19 = .ok (.ireturn, 1) := by decide +kernel
theorem dX8_nameCode_20 : decode cX8_nameCode 20 = .ok (.iinc 3 1, 3) := by decide +kernel
theorem dX8_nameCode_23 : decode cX8_nameCode 23 = .ok (.goto (-21), 3) := by decide +kernel
theorem dX8_nameCode_26 : decode cX8_nameCode 26 = .ok (.bipush 25, 2) := by decide +kernel
theorem dX8_nameCode_28 : decode cX8_nameCode 28 = .ok (.ireturn, 1) := by decide +kernel
theorem dX8_isName_0 : decode cX8_isName 0 = .ok (.iload_n 3, 1) := by decide +kernel
theorem dX8_isName_1 : decode cX8_isName 1 = .ok (.bipush 8, 2) := by decide +kernel
theorem dX8_isName_3 : decode cX8_isName 3 = .ok (.if_icmp .le 5, 3) := by decide +kernel
theorem dX8_isName_6 : decode cX8_isName 6 = .ok (.iconst 0, 1) := by decide +kernel
theorem dX8_isName_7 : decode cX8_isName 7 = .ok (.ireturn, 1) := by decide +kernel
theorem dX8_isName_8 : decode cX8_isName 8 = .ok (.iconst 0, 1) := by decide +kernel
theorem dX8_isName_9 : decode cX8_isName 9 = .ok (.istore 4, 2) := by decide +kernel
theorem dX8_isName_11 : decode cX8_isName 11 = .ok (.iload 4, 2) := by decide +kernel
theorem dX8_isName_13 : decode cX8_isName 13 = .ok (.bipush 8, 2) := by decide +kernel
theorem dX8_isName_15 : decode cX8_isName 15 = .ok (.if_icmp .ge 50, 3) := by decide +kernel
theorem dX8_isName_18 : decode cX8_isName 18 = .ok (.iload 4, 2) := by decide +kernel
theorem dX8_isName_20 : decode cX8_isName 20 = .ok (.iload_n 3, 1) := by decide +kernel
theorem dX8_isName_21 : decode cX8_isName 21 = .ok (.if_icmp .ge 15, 3) := by decide +kernel
theorem dX8_isName_24 : decode cX8_isName 24 = .ok (.aload_n 0, 1) := by decide +kernel
theorem dX8_isName_25 : decode cX8_isName 25 = .ok (.getfield 9, 3) := by decide +kernel
theorem dX8_isName_28 : decode cX8_isName 28 = .ok (.iload_n 2, 1) := by decide +kernel
theorem dX8_isName_29 : decode cX8_isName 29 = .ok (.iload 4, 2) := by decide +kernel
theorem dX8_isName_31 : decode cX8_isName 31 = .ok (.iadd, 1) := by decide +kernel
theorem dX8_isName_32 : decode cX8_isName 32 = .ok (.iaload, 1) := by decide +kernel
theorem dX8_isName_33 : decode cX8_isName 33 = .ok (.goto 5, 3) := by decide +kernel
theorem dX8_isName_36 : decode cX8_isName 36 = .ok (.bipush 32, 2) := by decide +kernel
theorem dX8_isName_38 : decode cX8_isName 38 = .ok (.istore 5, 2) := by decide +kernel
theorem dX8_isName_40 : decode cX8_isName 40 = .ok (.ldc 79, 2) := by decide +kernel
theorem dX8_isName_42 : decode cX8_isName 42 = .ok (.iload_n 1, 1) := by decide +kernel
theorem dX8_isName_43 : decode cX8_isName 43 = .ok (.bipush 8, 2) := by decide +kernel
theorem dX8_isName_45 : decode cX8_isName 45 = .ok (.imul, 1) := by decide +kernel
theorem dX8_isName_46 : decode cX8_isName 46 = .ok (.iload 4, 2) := by decide +kernel
theorem dX8_isName_48 : decode cX8_isName 48 = .ok (.iadd, 1) := by decide +kernel
theorem dX8_isName_49 : decode cX8_isName 49 = .ok (.invokevirtual 81, 3) := by decide +kernel
theorem dX8_isName_52 : decode cX8_isName 52 = .ok (.iload 5, 2) := by decide +kernel
theorem dX8_isName_54 : decode cX8_isName 54 = .ok (.if_icmp .eq 5, 3) := by decide +kernel
theorem dX8_isName_57 : decode cX8_isName 57 = .ok (.iconst 0, 1) := by decide +kernel
theorem dX8_isName_58 : decode cX8_isName 58 = .ok (.ireturn, 1) := by decide +kernel
theorem dX8_isName_59 : decode cX8_isName 59 = .ok (.iinc 4 1, 3) := by decide +kernel
theorem dX8_isName_62 : decode cX8_isName 62 = .ok (.goto (-51), 3) := by decide +kernel
theorem dX8_isName_65 : decode cX8_isName 65 = .ok (.iconst 1, 1) := by decide +kernel
theorem dX8_isName_66 : decode cX8_isName 66 = .ok (.ireturn, 1) := by decide +kernel
theorem dX8_numberOf_0 : decode cX8_numberOf 0 = .ok (.iconst 0, 1) := by decide +kernel
theorem dX8_numberOf_1 : decode cX8_numberOf 1 = .ok (.istore_n 3, 1) := by decide +kernel
theorem dX8_numberOf_2 : decode cX8_numberOf 2 = .ok (.iload_n 1, 1) := by decide +kernel
theorem dX8_numberOf_3 : decode cX8_numberOf 3 = .ok (.istore 4, 2) := by decide +kernel
theorem dX8_numberOf_5 : decode cX8_numberOf 5 = .ok (.iload 4, 2) := by decide +kernel
theorem dX8_numberOf_7 : decode cX8_numberOf 7 = .ok (.iload_n 2, 1) := by decide +kernel
theorem dX8_numberOf_8 : decode cX8_numberOf 8 = .ok (.if_icmp .ge 25, 3) := by decide +kernel
theorem dX8_numberOf_11 : decode cX8_numberOf 11 = .ok (.iload_n 3, 1) := by decide +kernel
theorem dX8_numberOf_12 : decode cX8_numberOf 12 = .ok (.bipush 10, 2) := by decide +kernel
theorem dX8_numberOf_14 : decode cX8_numberOf 14 = .ok (.imul, 1) := by decide +kernel
theorem dX8_numberOf_15 : decode cX8_numberOf 15 = .ok (.aload_n 0, 1) := by decide +kernel
theorem dX8_numberOf_16 : decode cX8_numberOf 16 = .ok (.getfield 9, 3) := by decide +kernel
theorem dX8_numberOf_19 : decode cX8_numberOf 19 = .ok (.iload 4, 2) := by decide +kernel
theorem dX8_numberOf_21 : decode cX8_numberOf 21 = .ok (.iaload, 1) := by decide +kernel
theorem dX8_numberOf_22 : decode cX8_numberOf 22 = .ok (.iadd, 1) := by decide +kernel
theorem dX8_numberOf_23 : decode cX8_numberOf 23 = .ok (.bipush 48, 2) := by decide +kernel
theorem dX8_numberOf_25 : decode cX8_numberOf 25 = .ok (.isub, 1) := by decide +kernel
theorem dX8_numberOf_26 : decode cX8_numberOf 26 = .ok (.istore_n 3, 1) := by decide +kernel
theorem dX8_numberOf_27 : decode cX8_numberOf 27 = .ok (.iinc 4 1, 3) := by decide +kernel
theorem dX8_numberOf_30 : decode cX8_numberOf 30 = .ok (.goto (-25), 3) := by decide +kernel
theorem dX8_numberOf_33 : decode cX8_numberOf 33 = .ok (.iload_n 3, 1) := by decide +kernel
theorem dX8_numberOf_34 : decode cX8_numberOf 34 = .ok (.ireturn, 1) := by decide +kernel
theorem dX8_pass_0 : decode cX8_pass 0 = .ok (.aload_n 0, 1) := by decide +kernel
theorem dX8_pass_1 : decode cX8_pass 1 = .ok (.getfield 31, 3) := by decide +kernel
theorem dX8_pass_4 : decode cX8_pass 4 = .ok (.aload_n 0, 1) := by decide +kernel
theorem dX8_pass_5 : decode cX8_pass 5 = .ok (.getfield 36, 3) := by decide +kernel
theorem dX8_pass_8 : decode cX8_pass 8 = .ok (.if_icmp .ge 33, 3) := by decide +kernel
theorem dX8_pass_11 : decode cX8_pass 11 = .ok (.aload_n 0, 1) := by decide +kernel
theorem dX8_pass_12 : decode cX8_pass 12 = .ok (.getfield 15, 3) := by decide +kernel
theorem dX8_pass_15 : decode cX8_pass 15 = .ok (.aload_n 0, 1) := by decide +kernel
theorem dX8_pass_16 : decode cX8_pass 16 = .ok (.getfield 31, 3) := by decide +kernel
theorem dX8_pass_19 : decode cX8_pass 19 = .ok (.iaload, 1) := by decide +kernel
theorem dX8_pass_20 : decode cX8_pass 20 = .ok (.iload_n 1, 1) := by decide +kernel
theorem dX8_pass_21 : decode cX8_pass 21 = .ok (.if_icmp .lt 20, 3) := by decide +kernel
theorem dX8_pass_24 : decode cX8_pass 24 = .ok (.aload_n 0, 1) := by decide +kernel
theorem dX8_pass_25 : decode cX8_pass 25 = .ok (.getfield 15, 3) := by decide +kernel
theorem dX8_pass_28 : decode cX8_pass 28 = .ok (.aload_n 0, 1) := by decide +kernel
theorem dX8_pass_29 : decode cX8_pass 29 = .ok (.getfield 31, 3) := by decide +kernel
theorem dX8_pass_32 : decode cX8_pass 32 = .ok (.iaload, 1) := by decide +kernel
theorem dX8_pass_33 : decode cX8_pass 33 = .ok (.iload_n 2, 1) := by decide +kernel
theorem dX8_pass_34 : decode cX8_pass 34 = .ok (.if_icmp .gt 7, 3) := by decide +kernel
theorem dX8_pass_37 : decode cX8_pass 37 = .ok (.iconst 1, 1) := by decide +kernel
theorem dX8_pass_38 : decode cX8_pass 38 = .ok (.goto 4, 3) := by decide +kernel
theorem dX8_pass_41 : decode cX8_pass 41 = .ok (.iconst 0, 1) := by decide +kernel
theorem dX8_pass_42 : decode cX8_pass 42 = .ok (.istore_n 3, 1) := by decide +kernel
theorem dX8_pass_43 : decode cX8_pass 43 = .ok (.iload_n 3, 1) := by decide +kernel
theorem dX8_pass_44 : decode cX8_pass 44 = .ok (.ifCond .eq 13, 3) := by decide +kernel
theorem dX8_pass_47 : decode cX8_pass 47 = .ok (.aload_n 0, 1) := by decide +kernel
theorem dX8_pass_48 : decode cX8_pass 48 = .ok (.dup, 1) := by decide +kernel
theorem dX8_pass_49 : decode cX8_pass 49 = .ok (.getfield 31, 3) := by decide +kernel
theorem dX8_pass_52 : decode cX8_pass 52 = .ok (.iconst 1, 1) := by decide +kernel
theorem dX8_pass_53 : decode cX8_pass 53 = .ok (.iadd, 1) := by decide +kernel
theorem dX8_pass_54 : decode cX8_pass 54 = .ok (.putfield 31, 3) := by decide +kernel
theorem dX8_pass_57 : decode cX8_pass 57 = .ok (.iload_n 3, 1) := by decide +kernel
theorem dX8_pass_58 : decode cX8_pass 58 = .ok (.ireturn, 1) := by decide +kernel
theorem dX8_readRule_0 : decode cX8_readRule 0 = .ok (.aload_n 0, 1) := by decide +kernel
theorem dX8_readRule_1 : decode cX8_readRule 1 = .ok (.getfield 15, 3) := by decide +kernel
theorem dX8_readRule_4 : decode cX8_readRule 4 = .ok (.aload_n 0, 1) := by decide +kernel
theorem dX8_readRule_5 : decode cX8_readRule 5 = .ok (.getfield 31, 3) := by decide +kernel
theorem dX8_readRule_8 : decode cX8_readRule 8 = .ok (.iaload, 1) := by decide +kernel
theorem dX8_readRule_9 : decode cX8_readRule 9 = .ok (.istore_n 2, 1) := by decide +kernel
theorem dX8_readRule_10 : decode cX8_readRule 10 = .ok (.aload_n 0, 1) := by decide +kernel
theorem dX8_readRule_11 : decode cX8_readRule 11 = .ok (.iconst 0, 1) := by decide +kernel
theorem dX8_readRule_12 : decode cX8_readRule 12 = .ok (.iconst 5, 1) := by decide +kernel
theorem dX8_readRule_13 : decode cX8_readRule 13 = .ok (.invokevirtual 87, 3) := by decide +kernel
theorem dX8_readRule_16 : decode cX8_readRule 16 = .ok (.ifCond .ne 5, 3) := by decide +kernel
theorem dX8_readRule_19 : decode cX8_readRule 19 = .ok (.iconst 0, 1) := by decide +kernel
theorem dX8_readRule_20 : decode cX8_readRule 20 = .ok (.ireturn, 1) := by decide +kernel
theorem dX8_readRule_21 : decode cX8_readRule 21 = .ok (.aload_n 0, 1) := by decide +kernel
theorem dX8_readRule_22 : decode cX8_readRule 22 = .ok (.bipush 9, 2) := by decide +kernel
theorem dX8_readRule_24 : decode cX8_readRule 24 = .ok (.bipush 9, 2) := by decide +kernel
theorem dX8_readRule_26 : decode cX8_readRule 26 = .ok (.invokevirtual 87, 3) := by decide +kernel
theorem dX8_readRule_29 : decode cX8_readRule 29 = .ok (.ifCond .eq 14, 3) := by decide +kernel
theorem dX8_readRule_32 : decode cX8_readRule 32 = .ok (.aload_n 0, 1) := by decide +kernel
theorem dX8_readRule_33 : decode cX8_readRule 33 = .ok (.aload_n 1, 1) := by decide +kernel
theorem dX8_readRule_34 : decode cX8_readRule 34 = .ok (.iconst 0, 1) := by decide +kernel
theorem dX8_readRule_35 : decode cX8_readRule 35 = .ok (.invokevirtual 91, 3) := by decide +kernel
theorem dX8_readRule_38 : decode cX8_readRule 38 = .ok (.ifCond .ne 5, 3) := by decide +kernel
theorem dX8_readRule_41 : decode cX8_readRule 41 = .ok (.iconst 0, 1) := by decide +kernel
theorem dX8_readRule_42 : decode cX8_readRule 42 = .ok (.ireturn, 1) := by decide +kernel
theorem dX8_readRule_43 : decode cX8_readRule 43 = .ok (.aload_n 0, 1) := by decide +kernel
theorem dX8_readRule_44 : decode cX8_readRule 44 = .ok (.getfield 15, 3) := by decide +kernel
theorem dX8_readRule_47 : decode cX8_readRule 47 = .ok (.aload_n 0, 1) := by decide +kernel
theorem dX8_readRule_48 : decode cX8_readRule 48 = .ok (.getfield 31, 3) := by decide +kernel
theorem dX8_readRule_51 : decode cX8_readRule 51 = .ok (.iaload, 1) := by decide +kernel
theorem dX8_readRule_52 : decode cX8_readRule 52 = .ok (.bipush 6, 2) := by decide +kernel
theorem dX8_readRule_54 : decode cX8_readRule 54 = .ok (.isub, 1) := by decide +kernel
theorem dX8_readRule_55 : decode cX8_readRule 55 = .ok (.istore_n 3, 1) := by decide +kernel
theorem dX8_readRule_56 : decode cX8_readRule 56 = .ok (.aload_n 0, 1) := by decide +kernel
theorem dX8_readRule_57 : decode cX8_readRule 57 = .ok (.bipush 6, 2) := by decide +kernel
theorem dX8_readRule_59 : decode cX8_readRule 59 = .ok (.bipush 8, 2) := by decide +kernel
theorem dX8_readRule_61 : decode cX8_readRule 61 = .ok (.invokevirtual 87, 3) := by decide +kernel
theorem dX8_readRule_64 : decode cX8_readRule 64 = .ok (.ifCond .eq 14, 3) := by decide +kernel
theorem dX8_readRule_67 : decode cX8_readRule 67 = .ok (.aload_n 0, 1) := by decide +kernel
theorem dX8_readRule_68 : decode cX8_readRule 68 = .ok (.bipush 19, 2) := by decide +kernel
theorem dX8_readRule_70 : decode cX8_readRule 70 = .ok (.bipush 19, 2) := by decide +kernel
theorem dX8_readRule_72 : decode cX8_readRule 72 = .ok (.invokevirtual 87, 3) := by decide +kernel
theorem dX8_readRule_75 : decode cX8_readRule 75 = .ok (.ifCond .ne 5, 3) := by decide +kernel
theorem dX8_readRule_78 : decode cX8_readRule 78 = .ok (.iconst 0, 1) := by decide +kernel
theorem dX8_readRule_79 : decode cX8_readRule 79 = .ok (.ireturn, 1) := by decide +kernel
theorem dX8_readRule_80 : decode cX8_readRule 80 = .ok (.aload_n 1, 1) := by decide +kernel
theorem dX8_readRule_81 : decode cX8_readRule 81 = .ok (.iload_n 2, 1) := by decide +kernel
theorem dX8_readRule_82 : decode cX8_readRule 82 = .ok (.iload_n 3, 1) := by decide +kernel
theorem dX8_readRule_83 : decode cX8_readRule 83 = .ok (.invokevirtual 95, 3) := by decide +kernel
theorem dX8_readRule_86 : decode cX8_readRule 86 = .ok (.iconst 1, 1) := by decide +kernel
theorem dX8_readRule_87 : decode cX8_readRule 87 = .ok (.ireturn, 1) := by decide +kernel
theorem dX8_readCondition_0 : decode cX8_readCondition 0 = .ok (.aload_n 0, 1) := by decide +kernel
theorem dX8_readCondition_1 : decode cX8_readCondition 1 = .ok (.aload_n 1, 1) := by decide +kernel
theorem dX8_readCondition_2 : decode cX8_readCondition 2 = .ok (.iload_n 2, 1) := by decide +kernel
theorem dX8_readCondition_3 : decode cX8_readCondition 3 = .ok (.invokevirtual 99, 3) := by decide +kernel
theorem dX8_readCondition_6 : decode cX8_readCondition 6 = .ok (.ifCond .ne 5, 3) := by decide +kernel
theorem dX8_readCondition_9 : decode cX8_readCondition 9 = .ok (.iconst 0, 1) := by decide +kernel
theorem dX8_readCondition_10 : decode cX8_readCondition 10 = .ok (.ireturn, 1) := by decide +kernel
theorem dX8_readCondition_11 : decode cX8_readCondition 11 = .ok (.iconst 0, 1) := by decide +kernel
theorem dX8_readCondition_12 : decode cX8_readCondition 12 = .ok (.istore_n 3, 1) := by decide +kernel
theorem dX8_readCondition_13 : decode cX8_readCondition 13 = .ok (.iload_n 3, 1) := by decide +kernel
theorem dX8_readCondition_14 : decode cX8_readCondition 14 = .ok (.sipush 200, 3) := by decide +kernel
theorem dX8_readCondition_17 : decode cX8_readCondition 17 = .ok (.if_icmp .ge 38, 3) := by decide +kernel
theorem dX8_readCondition_20 : decode cX8_readCondition 20 = .ok (.aload_n 0, 1) := by decide +kernel
theorem dX8_readCondition_21 : decode cX8_readCondition 21 = .ok (.bipush 10, 2) := by decide +kernel
theorem dX8_readCondition_23 : decode cX8_readCondition 23 = .ok (.bipush 10, 2) := by decide +kernel
theorem dX8_readCondition_25 : decode cX8_readCondition 25 = .ok (.invokevirtual 87, 3) := by decide +kernel
theorem dX8_readCondition_28 : decode cX8_readCondition 28 = .ok (.ifCond .eq 27, 3) := by decide +kernel
theorem dX8_readCondition_31 : decode cX8_readCondition 31 = .ok (.aload_n 0, 1) := by decide +kernel
theorem dX8_readCondition_32 : decode cX8_readCondition 32 = .ok (.aload_n 1, 1) := by decide +kernel
theorem dX8_readCondition_33 : decode cX8_readCondition 33 = .ok (.iload_n 2, 1) := by decide +kernel
theorem dX8_readCondition_34 : decode cX8_readCondition 34 = .ok (.invokevirtual 99, 3) := by decide +kernel
theorem dX8_readCondition_37 : decode cX8_readCondition 37 = .ok (.ifCond .ne 5, 3) := by decide +kernel
theorem dX8_readCondition_40 : decode cX8_readCondition 40 = .ok (.iconst 0, 1) := by decide +kernel
theorem dX8_readCondition_41 : decode cX8_readCondition 41 = .ok (.ireturn, 1) := by decide +kernel
theorem dX8_readCondition_42 : decode cX8_readCondition 42 = .ok (.aload_n 1, 1) := by decide +kernel
theorem dX8_readCondition_43 : decode cX8_readCondition 43 = .ok (.iconst 5, 1) := by decide +kernel
theorem dX8_readCondition_44 : decode cX8_readCondition 44 = .ok (.iconst 0, 1) := by decide +kernel
theorem dX8_readCondition_45 : decode cX8_readCondition 45 = .ok (.iconst 0, 1) := by decide +kernel
theorem dX8_readCondition_46 : decode cX8_readCondition 46 = .ok (.invokevirtual 102, 3) := by decide +kernel
theorem dX8_readCondition_49 : decode cX8_readCondition 49 = .ok (.iinc 3 1, 3) := by decide +kernel
theorem dX8_readCondition_52 : decode cX8_readCondition 52 = .ok (.goto (-39), 3) := by decide +kernel
theorem dX8_readCondition_55 : decode cX8_readCondition 55 = .ok (.iconst 1, 1) := by decide +kernel
theorem dX8_readCondition_56 : decode cX8_readCondition 56 = .ok (.ireturn, 1) := by decide +kernel
theorem dX8_readAll_0 : decode cX8_readAll 0 = .ok (.aload_n 0, 1) := by decide +kernel
theorem dX8_readAll_1 : decode cX8_readAll 1 = .ok (.aload_n 1, 1) := by decide +kernel
theorem dX8_readAll_2 : decode cX8_readAll 2 = .ok (.iload_n 2, 1) := by decide +kernel
theorem dX8_readAll_3 : decode cX8_readAll 3 = .ok (.invokevirtual 106, 3) := by decide +kernel
theorem dX8_readAll_6 : decode cX8_readAll 6 = .ok (.ifCond .ne 5, 3) := by decide +kernel
theorem dX8_readAll_9 : decode cX8_readAll 9 = .ok (.iconst 0, 1) := by decide +kernel
theorem dX8_readAll_10 : decode cX8_readAll 10 = .ok (.ireturn, 1) := by decide +kernel
theorem dX8_readAll_11 : decode cX8_readAll 11 = .ok (.iconst 0, 1) := by decide +kernel
theorem dX8_readAll_12 : decode cX8_readAll 12 = .ok (.istore_n 3, 1) := by decide +kernel
theorem dX8_readAll_13 : decode cX8_readAll 13 = .ok (.iload_n 3, 1) := by decide +kernel
theorem dX8_readAll_14 : decode cX8_readAll 14 = .ok (.sipush 200, 3) := by decide +kernel
theorem dX8_readAll_17 : decode cX8_readAll 17 = .ok (.if_icmp .ge 38, 3) := by decide +kernel
theorem dX8_readAll_20 : decode cX8_readAll 20 = .ok (.aload_n 0, 1) := by decide +kernel
theorem dX8_readAll_21 : decode cX8_readAll 21 = .ok (.bipush 11, 2) := by decide +kernel
theorem dX8_readAll_23 : decode cX8_readAll 23 = .ok (.bipush 11, 2) := by decide +kernel
theorem dX8_readAll_25 : decode cX8_readAll 25 = .ok (.invokevirtual 87, 3) := by decide +kernel
theorem dX8_readAll_28 : decode cX8_readAll 28 = .ok (.ifCond .eq 27, 3) := by decide +kernel
theorem dX8_readAll_31 : decode cX8_readAll 31 = .ok (.aload_n 0, 1) := by decide +kernel
theorem dX8_readAll_32 : decode cX8_readAll 32 = .ok (.aload_n 1, 1) := by decide +kernel
theorem dX8_readAll_33 : decode cX8_readAll 33 = .ok (.iload_n 2, 1) := by decide +kernel
theorem dX8_readAll_34 : decode cX8_readAll 34 = .ok (.invokevirtual 106, 3) := by decide +kernel
theorem dX8_readAll_37 : decode cX8_readAll 37 = .ok (.ifCond .ne 5, 3) := by decide +kernel
theorem dX8_readAll_40 : decode cX8_readAll 40 = .ok (.iconst 0, 1) := by decide +kernel
theorem dX8_readAll_41 : decode cX8_readAll 41 = .ok (.ireturn, 1) := by decide +kernel
theorem dX8_readAll_42 : decode cX8_readAll 42 = .ok (.aload_n 1, 1) := by decide +kernel
theorem dX8_readAll_43 : decode cX8_readAll 43 = .ok (.iconst 4, 1) := by decide +kernel
theorem dX8_readAll_44 : decode cX8_readAll 44 = .ok (.iconst 0, 1) := by decide +kernel
theorem dX8_readAll_45 : decode cX8_readAll 45 = .ok (.iconst 0, 1) := by decide +kernel
theorem dX8_readAll_46 : decode cX8_readAll 46 = .ok (.invokevirtual 102, 3) := by decide +kernel
theorem dX8_readAll_49 : decode cX8_readAll 49 = .ok (.iinc 3 1, 3) := by decide +kernel
theorem dX8_readAll_52 : decode cX8_readAll 52 = .ok (.goto (-39), 3) := by decide +kernel
theorem dX8_readAll_55 : decode cX8_readAll 55 = .ok (.iconst 1, 1) := by decide +kernel
theorem dX8_readAll_56 : decode cX8_readAll 56 = .ok (.ireturn, 1) := by decide +kernel
theorem dX8_readOne_0 : decode cX8_readOne 0 = .ok (.iconst 0, 1) := by decide +kernel
theorem dX8_readOne_1 : decode cX8_readOne 1 = .ok (.istore_n 3, 1) := by decide +kernel
theorem dX8_readOne_2 : decode cX8_readOne 2 = .ok (.iconst 0, 1) := by decide +kernel
theorem dX8_readOne_3 : decode cX8_readOne 3 = .ok (.istore 4, 2) := by decide +kernel
theorem dX8_readOne_5 : decode cX8_readOne 5 = .ok (.iload 4, 2) := by decide +kernel
theorem dX8_readOne_7 : decode cX8_readOne 7 = .ok (.sipush 200, 3) := by decide +kernel
theorem dX8_readOne_10 : decode cX8_readOne 10 = .ok (.if_icmp .ge 30, 3) := by decide +kernel
theorem dX8_readOne_13 : decode cX8_readOne 13 = .ok (.aload_n 0, 1) := by decide +kernel
theorem dX8_readOne_14 : decode cX8_readOne 14 = .ok (.bipush 12, 2) := by decide +kernel
theorem dX8_readOne_16 : decode cX8_readOne 16 = .ok (.bipush 12, 2) := by decide +kernel
theorem dX8_readOne_18 : decode cX8_readOne 18 = .ok (.invokevirtual 87, 3) := by decide +kernel
theorem dX8_readOne_21 : decode cX8_readOne 21 = .ok (.ifCond .eq 19, 3) := by decide +kernel
theorem dX8_readOne_24 : decode cX8_readOne 24 = .ok (.iload_n 3, 1) := by decide +kernel
theorem dX8_readOne_25 : decode cX8_readOne 25 = .ok (.ifCond .ne 7, 3) := by decide +kernel
theorem dX8_readOne_28 : decode cX8_readOne 28 = .ok (.iconst 1, 1) := by decide +kernel
theorem dX8_readOne_29 : decode cX8_readOne 29 = .ok (.goto 4, 3) := by decide +kernel
theorem dX8_readOne_32 : decode cX8_readOne 32 = .ok (.iconst 0, 1) := by decide +kernel
theorem dX8_readOne_33 : decode cX8_readOne 33 = .ok (.istore_n 3, 1) := by decide +kernel
theorem dX8_readOne_34 : decode cX8_readOne 34 = .ok (.iinc 4 1, 3) := by decide +kernel
theorem dX8_readOne_37 : decode cX8_readOne 37 = .ok (.goto (-32), 3) := by decide +kernel
theorem dX8_readOne_40 : decode cX8_readOne 40 = .ok (.aload_n 0, 1) := by decide +kernel
theorem dX8_readOne_41 : decode cX8_readOne 41 = .ok (.getfield 15, 3) := by decide +kernel
theorem dX8_readOne_44 : decode cX8_readOne 44 = .ok (.aload_n 0, 1) := by decide +kernel
theorem dX8_readOne_45 : decode cX8_readOne 45 = .ok (.getfield 31, 3) := by decide +kernel
theorem dX8_readOne_48 : decode cX8_readOne 48 = .ok (.iaload, 1) := by decide +kernel
theorem dX8_readOne_49 : decode cX8_readOne 49 = .ok (.bipush 23, 2) := by decide +kernel
theorem dX8_readOne_51 : decode cX8_readOne 51 = .ok (.if_icmp .ne 12, 3) := by decide +kernel
theorem dX8_readOne_54 : decode cX8_readOne 54 = .ok (.aload_n 0, 1) := by decide +kernel
theorem dX8_readOne_55 : decode cX8_readOne 55 = .ok (.aload_n 1, 1) := by decide +kernel
theorem dX8_readOne_56 : decode cX8_readOne 56 = .ok (.iload_n 2, 1) := by decide +kernel
theorem dX8_readOne_57 : decode cX8_readOne 57 = .ok (.invokevirtual 109, 3) := by decide +kernel
theorem dX8_readOne_60 : decode cX8_readOne 60 = .ok (.goto 8, 3) := by decide +kernel
theorem dX8_readOne_63 : decode cX8_readOne 63 = .ok (.aload_n 0, 1) := by decide +kernel
theorem dX8_readOne_64 : decode cX8_readOne 64 = .ok (.aload_n 1, 1) := by decide +kernel
theorem dX8_readOne_65 : decode cX8_readOne 65 = .ok (.invokevirtual 112, 3) := by decide +kernel
theorem dX8_readOne_68 : decode cX8_readOne 68 = .ok (.istore 4, 2) := by decide +kernel
theorem dX8_readOne_70 : decode cX8_readOne 70 = .ok (.iload 4, 2) := by decide +kernel
theorem dX8_readOne_72 : decode cX8_readOne 72 = .ok (.ifCond .eq 14, 3) := by decide +kernel
theorem dX8_readOne_75 : decode cX8_readOne 75 = .ok (.iload_n 3, 1) := by decide +kernel
theorem dX8_readOne_76 : decode cX8_readOne 76 = .ok (.ifCond .eq 10, 3) := by decide +kernel
theorem dX8_readOne_79 : decode cX8_readOne 79 = .ok (.aload_n 1, 1) := by decide +kernel
theorem dX8_readOne_80 : decode cX8_readOne 80 = .ok (.iconst 3, 1) := by decide +kernel
theorem dX8_readOne_81 : decode cX8_readOne 81 = .ok (.iconst 0, 1) := by decide +kernel
theorem dX8_readOne_82 : decode cX8_readOne 82 = .ok (.iconst 0, 1) := by decide +kernel
theorem dX8_readOne_83 : decode cX8_readOne 83 = .ok (.invokevirtual 102, 3) := by decide +kernel
theorem dX8_readOne_86 : decode cX8_readOne 86 = .ok (.iload 4, 2) := by decide +kernel
theorem dX8_readOne_88 : decode cX8_readOne 88 = .ok (.ireturn, 1) := by decide +kernel
theorem dX8_readBracket_0 : decode cX8_readBracket 0 = .ok (.iload_n 2, 1) := by decide +kernel
theorem dX8_readBracket_1 : decode cX8_readBracket 1 = .ok (.iconst 3, 1) := by decide +kernel
theorem dX8_readBracket_2 : decode cX8_readBracket 2 = .ok (.if_icmp .ge 40, 3) := by decide +kernel
theorem dX8_readBracket_5 : decode cX8_readBracket 5 = .ok (.aload_n 0, 1) := by decide +kernel
theorem dX8_readBracket_6 : decode cX8_readBracket 6 = .ok (.bipush 23, 2) := by decide +kernel
theorem dX8_readBracket_8 : decode cX8_readBracket 8 = .ok (.bipush 23, 2) := by decide +kernel
theorem dX8_readBracket_10 : decode cX8_readBracket 10 = .ok (.invokevirtual 87, 3) := by decide +kernel
theorem dX8_readBracket_13 : decode cX8_readBracket 13 = .ok (.ifCond .eq 29, 3) := by decide +kernel
theorem dX8_readBracket_16 : decode cX8_readBracket 16 = .ok (.aload_n 0, 1) := by decide +kernel
theorem dX8_readBracket_17 : decode cX8_readBracket 17 = .ok (.aload_n 1, 1) := by decide +kernel
theorem dX8_readBracket_18 : decode cX8_readBracket 18 = .ok (.iload_n 2, 1) := by decide +kernel
theorem dX8_readBracket_19 : decode cX8_readBracket 19 = .ok (.iconst 1, 1) := by decide +kernel
theorem dX8_readBracket_20 : decode cX8_readBracket 20 = .ok (.iadd, 1) := by decide +kernel
theorem dX8_readBracket_21 : decode cX8_readBracket 21 = .ok (.invokevirtual 91, 3) := by decide +kernel
theorem dX8_readBracket_24 : decode cX8_readBracket 24 = .ok (.ifCond .eq 18, 3) := by decide +kernel
theorem dX8_readBracket_27 : decode cX8_readBracket 27 = .ok (.aload_n 0, 1) := by decide +kernel
theorem dX8_readBracket_28 : decode cX8_readBracket 28 = .ok (.bipush 24, 2) := by decide +kernel
theorem dX8_readBracket_30 : decode cX8_readBracket 30 = .ok (.bipush 24, 2) := by decide +kernel
theorem dX8_readBracket_32 : decode cX8_readBracket 32 = .ok (.invokevirtual 87, 3) := by decide +kernel
theorem dX8_readBracket_35 : decode cX8_readBracket 35 = .ok (.ifCond .eq 7, 3) := by decide +kernel
theorem dX8_readBracket_38 : decode cX8_readBracket 38 = .ok (.iconst 1, 1) := by decide +kernel
theorem dX8_readBracket_39 : decode cX8_readBracket 39 = .ok (.goto 4, 3) := by decide +kernel
theorem dX8_readBracket_42 : decode cX8_readBracket 42 = .ok (.iconst 0, 1) := by decide +kernel
theorem dX8_readBracket_43 : decode cX8_readBracket 43 = .ok (.ireturn, 1) := by decide +kernel
theorem dX8_readSign_0 : decode cX8_readSign 0 = .ok (.aload_n 0, 1) := by decide +kernel
theorem dX8_readSign_1 : decode cX8_readSign 1 = .ok (.invokevirtual 115, 3) := by decide +kernel
theorem dX8_readSign_4 : decode cX8_readSign 4 = .ok (.istore_n 2, 1) := by decide +kernel
theorem dX8_readSign_5 : decode cX8_readSign 5 = .ok (.aload_n 0, 1) := by decide +kernel
theorem dX8_readSign_6 : decode cX8_readSign 6 = .ok (.bipush 13, 2) := by decide +kernel
theorem dX8_readSign_8 : decode cX8_readSign 8 = .ok (.bipush 18, 2) := by decide +kernel
theorem dX8_readSign_10 : decode cX8_readSign 10 = .ok (.invokevirtual 87, 3) := by decide +kernel
theorem dX8_readSign_13 : decode cX8_readSign 13 = .ok (.ifCond .ne 5, 3) := by decide +kernel
theorem dX8_readSign_16 : decode cX8_readSign 16 = .ok (.iconst 0, 1) := by decide +kernel
theorem dX8_readSign_17 : decode cX8_readSign 17 = .ok (.ireturn, 1) := by decide +kernel
theorem dX8_readSign_18 : decode cX8_readSign 18 = .ok (.aload_n 0, 1) := by decide +kernel
theorem dX8_readSign_19 : decode cX8_readSign 19 = .ok (.getfield 15, 3) := by decide +kernel
theorem dX8_readSign_22 : decode cX8_readSign 22 = .ok (.aload_n 0, 1) := by decide +kernel
theorem dX8_readSign_23 : decode cX8_readSign 23 = .ok (.getfield 31, 3) := by decide +kernel
theorem dX8_readSign_26 : decode cX8_readSign 26 = .ok (.iaload, 1) := by decide +kernel
theorem dX8_readSign_27 : decode cX8_readSign 27 = .ok (.bipush 20, 2) := by decide +kernel
theorem dX8_readSign_29 : decode cX8_readSign 29 = .ok (.isub, 1) := by decide +kernel
theorem dX8_readSign_30 : decode cX8_readSign 30 = .ok (.istore_n 3, 1) := by decide +kernel
theorem dX8_readSign_31 : decode cX8_readSign 31 = .ok (.aload_n 0, 1) := by decide +kernel
theorem dX8_readSign_32 : decode cX8_readSign 32 = .ok (.bipush 20, 2) := by decide +kernel
theorem dX8_readSign_34 : decode cX8_readSign 34 = .ok (.bipush 22, 2) := by decide +kernel
theorem dX8_readSign_36 : decode cX8_readSign 36 = .ok (.invokevirtual 87, 3) := by decide +kernel
theorem dX8_readSign_39 : decode cX8_readSign 39 = .ok (.ifCond .ne 5, 3) := by decide +kernel
theorem dX8_readSign_42 : decode cX8_readSign 42 = .ok (.iconst 0, 1) := by decide +kernel
theorem dX8_readSign_43 : decode cX8_readSign 43 = .ok (.ireturn, 1) := by decide +kernel
theorem dX8_readSign_44 : decode cX8_readSign 44 = .ok (.aload_n 0, 1) := by decide +kernel
theorem dX8_readSign_45 : decode cX8_readSign 45 = .ok (.invokevirtual 115, 3) := by decide +kernel
theorem dX8_readSign_48 : decode cX8_readSign 48 = .ok (.istore 4, 2) := by decide +kernel
theorem dX8_readSign_50 : decode cX8_readSign 50 = .ok (.aload_n 0, 1) := by decide +kernel
theorem dX8_readSign_51 : decode cX8_readSign 51 = .ok (.bipush 13, 2) := by decide +kernel
theorem dX8_readSign_53 : decode cX8_readSign 53 = .ok (.bipush 18, 2) := by decide +kernel
theorem dX8_readSign_55 : decode cX8_readSign 55 = .ok (.invokevirtual 87, 3) := by decide +kernel
theorem dX8_readSign_58 : decode cX8_readSign 58 = .ok (.ifCond .ne 5, 3) := by decide +kernel
theorem dX8_readSign_61 : decode cX8_readSign 61 = .ok (.iconst 0, 1) := by decide +kernel
theorem dX8_readSign_62 : decode cX8_readSign 62 = .ok (.ireturn, 1) := by decide +kernel
theorem dX8_readSign_63 : decode cX8_readSign 63 = .ok (.aload_n 1, 1) := by decide +kernel
theorem dX8_readSign_64 : decode cX8_readSign 64 = .ok (.iload_n 3, 1) := by decide +kernel
theorem dX8_readSign_65 : decode cX8_readSign 65 = .ok (.iload_n 2, 1) := by decide +kernel
theorem dX8_readSign_66 : decode cX8_readSign 66 = .ok (.iload 4, 2) := by decide +kernel
theorem dX8_readSign_68 : decode cX8_readSign 68 = .ok (.invokevirtual 102, 3) := by decide +kernel
theorem dX8_readSign_71 : decode cX8_readSign 71 = .ok (.iconst 1, 1) := by decide +kernel
theorem dX8_readSign_72 : decode cX8_readSign 72 = .ok (.ireturn, 1) := by decide +kernel
theorem dX8_valueHere_0 : decode cX8_valueHere 0 = .ok (.aload_n 0, 1) := by decide +kernel
theorem dX8_valueHere_1 : decode cX8_valueHere 1 = .ok (.getfield 15, 3) := by decide +kernel
theorem dX8_valueHere_4 : decode cX8_valueHere 4 = .ok (.aload_n 0, 1) := by decide +kernel
theorem dX8_valueHere_5 : decode cX8_valueHere 5 = .ok (.getfield 31, 3) := by decide +kernel
theorem dX8_valueHere_8 : decode cX8_valueHere 8 = .ok (.iaload, 1) := by decide +kernel
theorem dX8_valueHere_9 : decode cX8_valueHere 9 = .ok (.bipush 13, 2) := by decide +kernel
theorem dX8_valueHere_11 : decode cX8_valueHere 11 = .ok (.if_icmp .lt 21, 3) := by decide +kernel
theorem dX8_valueHere_14 : decode cX8_valueHere 14 = .ok (.aload_n 0, 1) := by decide +kernel
theorem dX8_valueHere_15 : decode cX8_valueHere 15 = .ok (.getfield 15, 3) := by decide +kernel
theorem dX8_valueHere_18 : decode cX8_valueHere 18 = .ok (.aload_n 0, 1) := by decide +kernel
theorem dX8_valueHere_19 : decode cX8_valueHere 19 = .ok (.getfield 31, 3) := by decide +kernel
theorem dX8_valueHere_22 : decode cX8_valueHere 22 = .ok (.iaload, 1) := by decide +kernel
theorem dX8_valueHere_23 : decode cX8_valueHere 23 = .ok (.bipush 17, 2) := by decide +kernel
theorem dX8_valueHere_25 : decode cX8_valueHere 25 = .ok (.if_icmp .gt 7, 3) := by decide +kernel
theorem dX8_valueHere_28 : decode cX8_valueHere 28 = .ok (.iconst 1, 1) := by decide +kernel
theorem dX8_valueHere_29 : decode cX8_valueHere 29 = .ok (.goto 4, 3) := by decide +kernel
theorem dX8_valueHere_32 : decode cX8_valueHere 32 = .ok (.iconst 0, 1) := by decide +kernel
theorem dX8_valueHere_33 : decode cX8_valueHere 33 = .ok (.istore_n 1, 1) := by decide +kernel
theorem dX8_valueHere_34 : decode cX8_valueHere 34 = .ok (.iload_n 1, 1) := by decide +kernel
theorem dX8_valueHere_35 : decode cX8_valueHere 35 = .ok (.ifCond .eq 22, 3) := by decide +kernel
theorem dX8_valueHere_38 : decode cX8_valueHere 38 = .ok (.sipush 10000, 3) := by decide +kernel
theorem dX8_valueHere_41 : decode cX8_valueHere 41 = .ok (.aload_n 0, 1) := by decide +kernel
theorem dX8_valueHere_42 : decode cX8_valueHere 42 = .ok (.getfield 15, 3) := by decide +kernel
theorem dX8_valueHere_45 : decode cX8_valueHere 45 = .ok (.aload_n 0, 1) := by decide +kernel
theorem dX8_valueHere_46 : decode cX8_valueHere 46 = .ok (.getfield 31, 3) := by decide +kernel
theorem dX8_valueHere_49 : decode cX8_valueHere 49 = .ok (.iaload, 1) := by decide +kernel
theorem dX8_valueHere_50 : decode cX8_valueHere 50 = .ok (.iadd, 1) := by decide +kernel
theorem dX8_valueHere_51 : decode cX8_valueHere 51 = .ok (.bipush 13, 2) := by decide +kernel
theorem dX8_valueHere_53 : decode cX8_valueHere 53 = .ok (.isub, 1) := by decide +kernel
theorem dX8_valueHere_54 : decode cX8_valueHere 54 = .ok (.goto 12, 3) := by decide +kernel
theorem dX8_valueHere_57 : decode cX8_valueHere 57 = .ok (.aload_n 0, 1) := by decide +kernel
theorem dX8_valueHere_58 : decode cX8_valueHere 58 = .ok (.getfield 21, 3) := by decide +kernel
theorem dX8_valueHere_61 : decode cX8_valueHere 61 = .ok (.aload_n 0, 1) := by decide +kernel
theorem dX8_valueHere_62 : decode cX8_valueHere 62 = .ok (.getfield 31, 3) := by decide +kernel
theorem dX8_valueHere_65 : decode cX8_valueHere 65 = .ok (.iaload, 1) := by decide +kernel
theorem dX8_valueHere_66 : decode cX8_valueHere 66 = .ok (.ireturn, 1) := by decide +kernel
theorem dX9_init_0 : decode cX9_init 0 = .ok (.aload_n 0, 1) := by decide +kernel
theorem dX9_init_1 : decode cX9_init 1 = .ok (.invokespecial 3, 3) := by decide +kernel
theorem dX9_init_4 : decode cX9_init 4 = .ok (.aload_n 0, 1) := by decide +kernel
theorem dX9_init_5 : decode cX9_init 5 = .ok (.bipush 6, 2) := by decide +kernel
theorem dX9_init_7 : decode cX9_init 7 = .ok (.anewarray 9, 3) := by decide +kernel
theorem dX9_init_10 : decode cX9_init 10 = .ok (.dup, 1) := by decide +kernel
theorem dX9_init_11 : decode cX9_init 11 = .ok (.iconst 0, 1) := by decide +kernel
theorem dX9_init_12 : decode cX9_init 12 = .ok (.new 9, 3) := by decide +kernel
theorem dX9_init_15 : decode cX9_init 15 = .ok (.dup, 1) := by decide +kernel
theorem dX9_init_16 : decode cX9_init 16 = .ok (.invokespecial 11, 3) := by decide +kernel
theorem dX9_init_19 : decode cX9_init 19 = .ok (.aastore, 1) := by decide +kernel
theorem dX9_init_20 : decode cX9_init 20 = .ok (.dup, 1) := by decide +kernel
theorem dX9_init_21 : decode cX9_init 21 = .ok (.iconst 1, 1) := by decide +kernel
theorem dX9_init_22 : decode cX9_init 22 = .ok (.new 12, 3) := by decide +kernel
theorem dX9_init_25 : decode cX9_init 25 = .ok (.dup, 1) := by decide +kernel
theorem dX9_init_26 : decode cX9_init 26 = .ok (.invokespecial 14, 3) := by decide +kernel
theorem dX9_init_29 : decode cX9_init 29 = .ok (.aastore, 1) := by decide +kernel
theorem dX9_init_30 : decode cX9_init 30 = .ok (.dup, 1) := by decide +kernel
theorem dX9_init_31 : decode cX9_init 31 = .ok (.iconst 2, 1) := by decide +kernel
theorem dX9_init_32 : decode cX9_init 32 = .ok (.new 15, 3) := by decide +kernel
theorem dX9_init_35 : decode cX9_init 35 = .ok (.dup, 1) := by decide +kernel
theorem dX9_init_36 : decode cX9_init 36 = .ok (.invokespecial 17, 3) := by decide +kernel
theorem dX9_init_39 : decode cX9_init 39 = .ok (.aastore, 1) := by decide +kernel
theorem dX9_init_40 : decode cX9_init 40 = .ok (.dup, 1) := by decide +kernel
theorem dX9_init_41 : decode cX9_init 41 = .ok (.iconst 3, 1) := by decide +kernel
theorem dX9_init_42 : decode cX9_init 42 = .ok (.new 18, 3) := by decide +kernel
theorem dX9_init_45 : decode cX9_init 45 = .ok (.dup, 1) := by decide +kernel
theorem dX9_init_46 : decode cX9_init 46 = .ok (.invokespecial 20, 3) := by decide +kernel
theorem dX9_init_49 : decode cX9_init 49 = .ok (.aastore, 1) := by decide +kernel
theorem dX9_init_50 : decode cX9_init 50 = .ok (.dup, 1) := by decide +kernel
theorem dX9_init_51 : decode cX9_init 51 = .ok (.iconst 4, 1) := by decide +kernel
theorem dX9_init_52 : decode cX9_init 52 = .ok (.new 21, 3) := by decide +kernel
theorem dX9_init_55 : decode cX9_init 55 = .ok (.dup, 1) := by decide +kernel
theorem dX9_init_56 : decode cX9_init 56 = .ok (.invokespecial 23, 3) := by decide +kernel
theorem dX9_init_59 : decode cX9_init 59 = .ok (.aastore, 1) := by decide +kernel
theorem dX9_init_60 : decode cX9_init 60 = .ok (.dup, 1) := by decide +kernel
theorem dX9_init_61 : decode cX9_init 61 = .ok (.iconst 5, 1) := by decide +kernel
theorem dX9_init_62 : decode cX9_init 62 = .ok (.new 24, 3) := by decide +kernel
theorem dX9_init_65 : decode cX9_init 65 = .ok (.dup, 1) := by decide +kernel
theorem dX9_init_66 : decode cX9_init 66 = .ok (.invokespecial 26, 3) := by decide +kernel
theorem dX9_init_69 : decode cX9_init 69 = .ok (.aastore, 1) := by decide +kernel
theorem dX9_init_70 : decode cX9_init 70 = .ok (.putfield 27, 3) := by decide +kernel
theorem dX9_init_73 : decode cX9_init 73 = .ok (.aload_n 0, 1) := by decide +kernel
theorem dX9_init_74 : decode cX9_init 74 = .ok (.bipush 6, 2) := by decide +kernel
theorem dX9_init_76 : decode cX9_init 76 = .ok (.newarray .int, 2) := by decide +kernel
theorem dX9_init_78 : decode cX9_init 78 = .ok (.putfield 33, 3) := by decide +kernel
theorem dX9_init_81 : decode cX9_init 81 = .ok (.aload_n 0, 1) := by decide +kernel
theorem dX9_init_82 : decode cX9_init 82 = .ok (.bipush 6, 2) := by decide +kernel
theorem dX9_init_84 : decode cX9_init 84 = .ok (.newarray .int, 2) := by decide +kernel
theorem dX9_init_86 : decode cX9_init 86 = .ok (.putfield 37, 3) := by decide +kernel
theorem dX9_init_89 : decode cX9_init 89 = .ok (.aload_n 0, 1) := by decide +kernel
theorem dX9_init_90 : decode cX9_init 90 = .ok (.bipush 6, 2) := by decide +kernel
theorem dX9_init_92 : decode cX9_init 92 = .ok (.newarray .int, 2) := by decide +kernel
theorem dX9_init_94 : decode cX9_init 94 = .ok (.putfield 40, 3) := by decide +kernel
theorem dX9_init_97 : decode cX9_init 97 = .ok (.aload_n 0, 1) := by decide +kernel
theorem dX9_init_98 : decode cX9_init 98 = .ok (.bipush 6, 2) := by decide +kernel
theorem dX9_init_100 : decode cX9_init 100 = .ok (.newarray .int, 2) := by decide +kernel
theorem dX9_init_102 : decode cX9_init 102 = .ok (.putfield 43, 3) := by decide +kernel
theorem dX9_init_105 : decode cX9_init 105 = .ok (.aload_n 0, 1) := by decide +kernel
theorem dX9_init_106 : decode cX9_init 106 = .ok (.bipush 36, 2) := by decide +kernel
theorem dX9_init_108 : decode cX9_init 108 = .ok (.newarray .int, 2) := by decide +kernel
theorem dX9_init_110 : decode cX9_init 110 = .ok (.putfield 46, 3) := by decide +kernel
theorem dX9_init_113 : decode cX9_init 113 = .ok (.aload_n 0, 1) := by decide +kernel
theorem dX9_init_114 : decode cX9_init 114 = .ok (.bipush 102, 2) := by decide +kernel
theorem dX9_init_116 : decode cX9_init 116 = .ok (.newarray .int, 2) := by decide +kernel
theorem dX9_init_118 : decode cX9_init 118 = .ok (.putfield 49, 3) := by decide +kernel
theorem dX9_init_121 : decode cX9_init 121 = .ok (.aload_n 0, 1) := by decide +kernel
theorem dX9_init_122 : decode cX9_init 122 = .ok (.bipush 6, 2) := by decide +kernel
theorem dX9_init_124 : decode cX9_init 124 = .ok (.newarray .int, 2) := by decide +kernel
theorem dX9_init_126 : decode cX9_init 126 = .ok (.putfield 52, 3) := by decide +kernel
theorem dX9_init_129 : decode cX9_init 129 = .ok (.aload_n 0, 1) := by decide +kernel
theorem dX9_init_130 : decode cX9_init 130 = .ok (.iconst 5, 1) := by decide +kernel
theorem dX9_init_131 : decode cX9_init 131 = .ok (.newarray .int, 2) := by decide +kernel
theorem dX9_init_133 : decode cX9_init 133 = .ok (.putfield 57, 3) := by decide +kernel
theorem dX9_init_136 : decode cX9_init 136 = .ok (.aload_n 0, 1) := by decide +kernel
theorem dX9_init_137 : decode cX9_init 137 = .ok (.bipush 24, 2) := by decide +kernel
theorem dX9_init_139 : decode cX9_init 139 = .ok (.newarray .int, 2) := by decide +kernel
theorem dX9_init_141 : decode cX9_init 141 = .ok (.putfield 60, 3) := by decide +kernel
theorem dX9_init_144 : decode cX9_init 144 = .ok (.aload_n 0, 1) := by decide +kernel
theorem dX9_init_145 : decode cX9_init 145 = .ok (.new 55, 3) := by decide +kernel
theorem dX9_init_148 : decode cX9_init 148 = .ok (.dup, 1) := by decide +kernel
theorem dX9_init_149 : decode cX9_init 149 = .ok (.iconst 0, 1) := by decide +kernel
theorem dX9_init_150 : decode cX9_init 150 = .ok (.invokespecial 63, 3) := by decide +kernel
theorem dX9_init_153 : decode cX9_init 153 = .ok (.putfield 66, 3) := by decide +kernel
theorem dX9_init_156 : decode cX9_init 156 = .ok (.aload_n 0, 1) := by decide +kernel
theorem dX9_init_157 : decode cX9_init 157 = .ok (.bipush 12, 2) := by decide +kernel
theorem dX9_init_159 : decode cX9_init 159 = .ok (.putfield 70, 3) := by decide +kernel
theorem dX9_init_162 : decode cX9_init 162 = .ok (.aload_n 0, 1) := by decide +kernel
theorem dX9_init_163 : decode cX9_init 163 = .ok (.iconst 1, 1) := by decide +kernel
theorem dX9_init_164 : decode cX9_init 164 = .ok (.putfield 74, 3) := by decide +kernel
theorem dX9_init_167 : decode cX9_init 167 = .ok (.return_, 1) := by decide +kernel
theorem dX9_copyFrom_0 : decode cX9_copyFrom 0 = .ok (.aload_n 1, 1) := by decide +kernel
theorem dX9_copyFrom_1 : decode cX9_copyFrom 1 = .ok (.getfield 33, 3) := by decide +kernel
theorem dX9_copyFrom_4 : decode cX9_copyFrom 4 = .ok (.iconst 0, 1) := by decide +kernel
theorem dX9_copyFrom_5 : decode cX9_copyFrom 5 = .ok (.aload_n 0, 1) := by decide +kernel
theorem dX9_copyFrom_6 : decode cX9_copyFrom 6 = .ok (.getfield 33, 3) := by decide +kernel
theorem dX9_copyFrom_9 : decode cX9_copyFrom 9 = .ok (.iconst 0, 1) := by decide +kernel
theorem dX9_copyFrom_10 : decode cX9_copyFrom 10 = .ok (.bipush 6, 2) := by decide +kernel
theorem dX9_copyFrom_12 : decode cX9_copyFrom 12 = .ok (.invokestatic 77, 3) := by decide +kernel
theorem dX9_copyFrom_15 : decode cX9_copyFrom 15 = .ok (.aload_n 1, 1) := by decide +kernel
theorem dX9_copyFrom_16 : decode cX9_copyFrom 16 = .ok (.getfield 37, 3) := by decide +kernel
theorem dX9_copyFrom_19 : decode cX9_copyFrom 19 = .ok (.iconst 0, 1) := by decide +kernel
theorem dX9_copyFrom_20 : decode cX9_copyFrom 20 = .ok (.aload_n 0, 1) := by decide +kernel
theorem dX9_copyFrom_21 : decode cX9_copyFrom 21 = .ok (.getfield 37, 3) := by decide +kernel
theorem dX9_copyFrom_24 : decode cX9_copyFrom 24 = .ok (.iconst 0, 1) := by decide +kernel
theorem dX9_copyFrom_25 : decode cX9_copyFrom 25 = .ok (.bipush 6, 2) := by decide +kernel
theorem dX9_copyFrom_27 : decode cX9_copyFrom 27 = .ok (.invokestatic 77, 3) := by decide +kernel
theorem dX9_copyFrom_30 : decode cX9_copyFrom 30 = .ok (.aload_n 1, 1) := by decide +kernel
theorem dX9_copyFrom_31 : decode cX9_copyFrom 31 = .ok (.getfield 40, 3) := by decide +kernel
theorem dX9_copyFrom_34 : decode cX9_copyFrom 34 = .ok (.iconst 0, 1) := by decide +kernel
theorem dX9_copyFrom_35 : decode cX9_copyFrom 35 = .ok (.aload_n 0, 1) := by decide +kernel
theorem dX9_copyFrom_36 : decode cX9_copyFrom 36 = .ok (.getfield 40, 3) := by decide +kernel
theorem dX9_copyFrom_39 : decode cX9_copyFrom 39 = .ok (.iconst 0, 1) := by decide +kernel
theorem dX9_copyFrom_40 : decode cX9_copyFrom 40 = .ok (.bipush 6, 2) := by decide +kernel
theorem dX9_copyFrom_42 : decode cX9_copyFrom 42 = .ok (.invokestatic 77, 3) := by decide +kernel
theorem dX9_copyFrom_45 : decode cX9_copyFrom 45 = .ok (.aload_n 1, 1) := by decide +kernel
theorem dX9_copyFrom_46 : decode cX9_copyFrom 46 = .ok (.getfield 43, 3) := by decide +kernel
theorem dX9_copyFrom_49 : decode cX9_copyFrom 49 = .ok (.iconst 0, 1) := by decide +kernel
theorem dX9_copyFrom_50 : decode cX9_copyFrom 50 = .ok (.aload_n 0, 1) := by decide +kernel
theorem dX9_copyFrom_51 : decode cX9_copyFrom 51 = .ok (.getfield 43, 3) := by decide +kernel
theorem dX9_copyFrom_54 : decode cX9_copyFrom 54 = .ok (.iconst 0, 1) := by decide +kernel
theorem dX9_copyFrom_55 : decode cX9_copyFrom 55 = .ok (.bipush 6, 2) := by decide +kernel
theorem dX9_copyFrom_57 : decode cX9_copyFrom 57 = .ok (.invokestatic 77, 3) := by decide +kernel
theorem dX9_copyFrom_60 : decode cX9_copyFrom 60 = .ok (.aload_n 1, 1) := by decide +kernel
theorem dX9_copyFrom_61 : decode cX9_copyFrom 61 = .ok (.getfield 46, 3) := by decide +kernel
theorem dX9_copyFrom_64 : decode cX9_copyFrom 64 = .ok (.iconst 0, 1) := by decide +kernel
theorem dX9_copyFrom_65 : decode cX9_copyFrom 65 = .ok (.aload_n 0, 1) := by decide +kernel
theorem dX9_copyFrom_66 : decode cX9_copyFrom 66 = .ok (.getfield 46, 3) := by decide +kernel
theorem dX9_copyFrom_69 : decode cX9_copyFrom 69 = .ok (.iconst 0, 1) := by decide +kernel
theorem dX9_copyFrom_70 : decode cX9_copyFrom 70 = .ok (.aload_n 0, 1) := by decide +kernel
theorem dX9_copyFrom_71 : decode cX9_copyFrom 71 = .ok (.getfield 46, 3) := by decide +kernel
theorem dX9_copyFrom_74 : decode cX9_copyFrom 74 = .ok (.arraylength, 1) := by decide +kernel
theorem dX9_copyFrom_75 : decode cX9_copyFrom 75 = .ok (.invokestatic 77, 3) := by decide +kernel
theorem dX9_copyFrom_78 : decode cX9_copyFrom 78 = .ok (.aload_n 1, 1) := by decide +kernel
theorem dX9_copyFrom_79 : decode cX9_copyFrom 79 = .ok (.getfield 49, 3) := by decide +kernel
theorem dX9_copyFrom_82 : decode cX9_copyFrom 82 = .ok (.iconst 0, 1) := by decide +kernel
theorem dX9_copyFrom_83 : decode cX9_copyFrom 83 = .ok (.aload_n 0, 1) := by decide +kernel
theorem dX9_copyFrom_84 : decode cX9_copyFrom 84 = .ok (.getfield 49, 3) := by decide +kernel
theorem dX9_copyFrom_87 : decode cX9_copyFrom 87 = .ok (.iconst 0, 1) := by decide +kernel
theorem dX9_copyFrom_88 : decode cX9_copyFrom 88 = .ok (.aload_n 0, 1) := by decide +kernel
theorem dX9_copyFrom_89 : decode cX9_copyFrom 89 = .ok (.getfield 49, 3) := by decide +kernel
theorem dX9_copyFrom_92 : decode cX9_copyFrom 92 = .ok (.arraylength, 1) := by decide +kernel
theorem dX9_copyFrom_93 : decode cX9_copyFrom 93 = .ok (.invokestatic 77, 3) := by decide +kernel
theorem dX9_copyFrom_96 : decode cX9_copyFrom 96 = .ok (.aload_n 1, 1) := by decide +kernel
theorem dX9_copyFrom_97 : decode cX9_copyFrom 97 = .ok (.getfield 60, 3) := by decide +kernel
theorem dX9_copyFrom_100 : decode cX9_copyFrom 100 = .ok (.iconst 0, 1) := by decide +kernel
theorem dX9_copyFrom_101 : decode cX9_copyFrom 101 = .ok (.aload_n 0, 1) := by decide +kernel
theorem dX9_copyFrom_102 : decode cX9_copyFrom 102 = .ok (.getfield 60, 3) := by decide +kernel
theorem dX9_copyFrom_105 : decode cX9_copyFrom 105 = .ok (.iconst 0, 1) := by decide +kernel
theorem dX9_copyFrom_106 : decode cX9_copyFrom 106 = .ok (.aload_n 0, 1) := by decide +kernel
theorem dX9_copyFrom_107 : decode cX9_copyFrom 107 = .ok (.getfield 60, 3) := by decide +kernel
theorem dX9_copyFrom_110 : decode cX9_copyFrom 110 = .ok (.arraylength, 1) := by decide +kernel
theorem dX9_copyFrom_111 : decode cX9_copyFrom 111 = .ok (.invokestatic 77, 3) := by decide +kernel
theorem dX9_copyFrom_114 : decode cX9_copyFrom 114 = .ok (.aload_n 0, 1) := by decide +kernel
theorem dX9_copyFrom_115 : decode cX9_copyFrom 115 = .ok (.aload_n 1, 1) := by decide +kernel
theorem dX9_copyFrom_116 : decode cX9_copyFrom 116 = .ok (.getfield 66, 3) := by decide +kernel
theorem dX9_copyFrom_119 : decode cX9_copyFrom 119 = .ok (.putfield 66, 3) := by decide +kernel
theorem dX9_copyFrom_122 : decode cX9_copyFrom 122 = .ok (.aload_n 0, 1) := by decide +kernel
theorem dX9_copyFrom_123 : decode cX9_copyFrom 123 = .ok (.aload_n 1, 1) := by decide +kernel
theorem dX9_copyFrom_124 : decode cX9_copyFrom 124 = .ok (.getfield 83, 3) := by decide +kernel
theorem dX9_copyFrom_127 : decode cX9_copyFrom 127 = .ok (.putfield 83, 3) := by decide +kernel
theorem dX9_copyFrom_130 : decode cX9_copyFrom 130 = .ok (.aload_n 0, 1) := by decide +kernel
theorem dX9_copyFrom_131 : decode cX9_copyFrom 131 = .ok (.aload_n 1, 1) := by decide +kernel
theorem dX9_copyFrom_132 : decode cX9_copyFrom 132 = .ok (.getfield 86, 3) := by decide +kernel
theorem dX9_copyFrom_135 : decode cX9_copyFrom 135 = .ok (.putfield 86, 3) := by decide +kernel
theorem dX9_copyFrom_138 : decode cX9_copyFrom 138 = .ok (.aload_n 0, 1) := by decide +kernel
theorem dX9_copyFrom_139 : decode cX9_copyFrom 139 = .ok (.aload_n 1, 1) := by decide +kernel
theorem dX9_copyFrom_140 : decode cX9_copyFrom 140 = .ok (.getfield 89, 3) := by decide +kernel
theorem dX9_copyFrom_143 : decode cX9_copyFrom 143 = .ok (.putfield 89, 3) := by decide +kernel
theorem dX9_copyFrom_146 : decode cX9_copyFrom 146 = .ok (.aload_n 0, 1) := by decide +kernel
theorem dX9_copyFrom_147 : decode cX9_copyFrom 147 = .ok (.aload_n 1, 1) := by decide +kernel
theorem dX9_copyFrom_148 : decode cX9_copyFrom 148 = .ok (.getfield 70, 3) := by decide +kernel
theorem dX9_copyFrom_151 : decode cX9_copyFrom 151 = .ok (.putfield 70, 3) := by decide +kernel
theorem dX9_copyFrom_154 : decode cX9_copyFrom 154 = .ok (.aload_n 0, 1) := by decide +kernel
theorem dX9_copyFrom_155 : decode cX9_copyFrom 155 = .ok (.aload_n 1, 1) := by decide +kernel
theorem dX9_copyFrom_156 : decode cX9_copyFrom 156 = .ok (.getfield 92, 3) := by decide +kernel
theorem dX9_copyFrom_159 : decode cX9_copyFrom 159 = .ok (.putfield 92, 3) := by decide +kernel
theorem dX9_copyFrom_162 : decode cX9_copyFrom 162 = .ok (.aload_n 0, 1) := by decide +kernel
theorem dX9_copyFrom_163 : decode cX9_copyFrom 163 = .ok (.aload_n 1, 1) := by decide +kernel
theorem dX9_copyFrom_164 : decode cX9_copyFrom 164 = .ok (.getfield 74, 3) := by decide +kernel
theorem dX9_copyFrom_167 : decode cX9_copyFrom 167 = .ok (.putfield 74, 3) := by decide +kernel
theorem dX9_copyFrom_170 : decode cX9_copyFrom 170 = .ok (.aload_n 0, 1) := by decide +kernel
theorem dX9_copyFrom_171 : decode cX9_copyFrom 171 = .ok (.aload_n 1, 1) := by decide +kernel
theorem dX9_copyFrom_172 : decode cX9_copyFrom 172 = .ok (.getfield 95, 3) := by decide +kernel
theorem dX9_copyFrom_175 : decode cX9_copyFrom 175 = .ok (.putfield 95, 3) := by decide +kernel
theorem dX9_copyFrom_178 : decode cX9_copyFrom 178 = .ok (.return_, 1) := by decide +kernel
theorem dX9_addOven_0 : decode cX9_addOven 0 = .ok (.aload_n 0, 1) := by decide +kernel
theorem dX9_addOven_1 : decode cX9_addOven 1 = .ok (.getfield 83, 3) := by decide +kernel
theorem dX9_addOven_4 : decode cX9_addOven 4 = .ok (.istore 5, 2) := by decide +kernel
theorem dX9_addOven_6 : decode cX9_addOven 6 = .ok (.aload_n 0, 1) := by decide +kernel
theorem dX9_addOven_7 : decode cX9_addOven 7 = .ok (.getfield 33, 3) := by decide +kernel
theorem dX9_addOven_10 : decode cX9_addOven 10 = .ok (.iload 5, 2) := by decide +kernel
theorem dX9_addOven_12 : decode cX9_addOven 12 = .ok (.iload_n 1, 1) := by decide +kernel
theorem dX9_addOven_13 : decode cX9_addOven 13 = .ok (.iastore, 1) := by decide +kernel
theorem dX9_addOven_14 : decode cX9_addOven 14 = .ok (.aload_n 0, 1) := by decide +kernel
theorem dX9_addOven_15 : decode cX9_addOven 15 = .ok (.getfield 37, 3) := by decide +kernel
theorem dX9_addOven_18 : decode cX9_addOven 18 = .ok (.iload 5, 2) := by decide +kernel
theorem dX9_addOven_20 : decode cX9_addOven 20 = .ok (.iload_n 2, 1) := by decide +kernel
theorem dX9_addOven_21 : decode cX9_addOven 21 = .ok (.iastore, 1) := by decide +kernel
theorem dX9_addOven_22 : decode cX9_addOven 22 = .ok (.aload_n 0, 1) := by decide +kernel
theorem dX9_addOven_23 : decode cX9_addOven 23 = .ok (.getfield 40, 3) := by decide +kernel
theorem dX9_addOven_26 : decode cX9_addOven 26 = .ok (.iload 5, 2) := by decide +kernel
theorem dX9_addOven_28 : decode cX9_addOven 28 = .ok (.iload_n 3, 1) := by decide +kernel
theorem dX9_addOven_29 : decode cX9_addOven 29 = .ok (.iastore, 1) := by decide +kernel
theorem dX9_addOven_30 : decode cX9_addOven 30 = .ok (.aload_n 0, 1) := by decide +kernel
theorem dX9_addOven_31 : decode cX9_addOven 31 = .ok (.getfield 43, 3) := by decide +kernel
theorem dX9_addOven_34 : decode cX9_addOven 34 = .ok (.iload 5, 2) := by decide +kernel
theorem dX9_addOven_36 : decode cX9_addOven 36 = .ok (.iload 4, 2) := by decide +kernel
theorem dX9_addOven_38 : decode cX9_addOven 38 = .ok (.iastore, 1) := by decide +kernel
theorem dX9_addOven_39 : decode cX9_addOven 39 = .ok (.aload_n 0, 1) := by decide +kernel
theorem dX9_addOven_40 : decode cX9_addOven 40 = .ok (.dup, 1) := by decide +kernel
theorem dX9_addOven_41 : decode cX9_addOven 41 = .ok (.getfield 83, 3) := by decide +kernel
theorem dX9_addOven_44 : decode cX9_addOven 44 = .ok (.iconst 1, 1) := by decide +kernel
theorem dX9_addOven_45 : decode cX9_addOven 45 = .ok (.iadd, 1) := by decide +kernel
theorem dX9_addOven_46 : decode cX9_addOven 46 = .ok (.putfield 83, 3) := by decide +kernel
theorem dX9_addOven_49 : decode cX9_addOven 49 = .ok (.aload_n 0, 1) := by decide +kernel
theorem dX9_addOven_50 : decode cX9_addOven 50 = .ok (.iload 5, 2) := by decide +kernel
theorem dX9_addOven_52 : decode cX9_addOven 52 = .ok (.invokevirtual 98, 3) := by decide +kernel
theorem dX9_addOven_55 : decode cX9_addOven 55 = .ok (.iload 5, 2) := by decide +kernel
theorem dX9_addOven_57 : decode cX9_addOven 57 = .ok (.ireturn, 1) := by decide +kernel
theorem dX9_replace_0 : decode cX9_replace 0 = .ok (.aload_n 1, 1) := by decide +kernel
theorem dX9_replace_1 : decode cX9_replace 1 = .ok (.iload_n 2, 1) := by decide +kernel
theorem dX9_replace_2 : decode cX9_replace 2 = .ok (.iaload, 1) := by decide +kernel
theorem dX9_replace_3 : decode cX9_replace 3 = .ok (.istore 4, 2) := by decide +kernel
theorem dX9_replace_5 : decode cX9_replace 5 = .ok (.aload_n 1, 1) := by decide +kernel
theorem dX9_replace_6 : decode cX9_replace 6 = .ok (.iload_n 2, 1) := by decide +kernel
theorem dX9_replace_7 : decode cX9_replace 7 = .ok (.iload_n 3, 1) := by decide +kernel
theorem dX9_replace_8 : decode cX9_replace 8 = .ok (.iastore, 1) := by decide +kernel
theorem dX9_replace_9 : decode cX9_replace 9 = .ok (.aload_n 0, 1) := by decide +kernel
theorem dX9_replace_10 : decode cX9_replace 10 = .ok (.iload_n 2, 1) := by decide +kernel
theorem dX9_replace_11 : decode cX9_replace 11 = .ok (.invokevirtual 98, 3) := by decide +kernel
theorem dX9_replace_14 : decode cX9_replace 14 = .ok (.iload 4, 2) := by decide +kernel
theorem dX9_replace_16 : decode cX9_replace 16 = .ok (.ireturn, 1) := by decide +kernel
theorem dX9_replaceAway_0 : decode cX9_replaceAway 0 = .ok (.aload_n 0, 1) := by decide +kernel
theorem dX9_replaceAway_1 : decode cX9_replaceAway 1 = .ok (.aload_n 0, 1) := by decide +kernel
theorem dX9_replaceAway_2 : decode cX9_replaceAway 2 = .ok (.getfield 86, 3) := by decide +kernel
theorem dX9_replaceAway_5 : decode cX9_replaceAway 5 = .ok (.iload_n 1, 1) := by decide +kernel
theorem dX9_replaceAway_6 : decode cX9_replaceAway 6 = .ok (.invokevirtual 101, 3) := by decide +kernel
theorem dX9_replaceAway_9 : decode cX9_replaceAway 9 = .ok (.istore_n 3, 1) := by decide +kernel
theorem dX9_replaceAway_10 : decode cX9_replaceAway 10 = .ok (.aload_n 0, 1) := by decide +kernel
theorem dX9_replaceAway_11 : decode cX9_replaceAway 11 = .ok (.dup, 1) := by decide +kernel
theorem dX9_replaceAway_12 : decode cX9_replaceAway 12 = .ok (.getfield 86, 3) := by decide +kernel
theorem dX9_replaceAway_15 : decode cX9_replaceAway 15 = .ok (.iload_n 2, 1) := by decide +kernel
theorem dX9_replaceAway_16 : decode cX9_replaceAway 16 = .ok (.iload_n 3, 1) := by decide +kernel
theorem dX9_replaceAway_17 : decode cX9_replaceAway 17 = .ok (.isub, 1) := by decide +kernel
theorem dX9_replaceAway_18 : decode cX9_replaceAway 18 = .ok (.iconst 4, 1) := by decide +kernel
theorem dX9_replaceAway_19 : decode cX9_replaceAway 19 = .ok (.iload_n 1, 1) := by decide +kernel
theorem dX9_replaceAway_20 : decode cX9_replaceAway 20 = .ok (.imul, 1) := by decide +kernel
theorem dX9_replaceAway_21 : decode cX9_replaceAway 21 = .ok (.ishl, 1) := by decide +kernel
theorem dX9_replaceAway_22 : decode cX9_replaceAway 22 = .ok (.iadd, 1) := by decide +kernel
theorem dX9_replaceAway_23 : decode cX9_replaceAway 23 = .ok (.putfield 86, 3) := by decide +kernel
theorem dX9_replaceAway_26 : decode cX9_replaceAway 26 = .ok (.iload_n 3, 1) := by decide +kernel
theorem dX9_replaceAway_27 : decode cX9_replaceAway 27 = .ok (.ireturn, 1) := by decide +kernel
theorem dX9_obey_0 : decode cX9_obey 0 = .ok (.aload_n 0, 1) := by decide +kernel
theorem dX9_obey_1 : decode cX9_obey 1 = .ok (.aload_n 1, 1) := by decide +kernel
theorem dX9_obey_2 : decode cX9_obey 2 = .ok (.putfield 66, 3) := by decide +kernel
theorem dX9_obey_5 : decode cX9_obey 5 = .ok (.iconst 0, 1) := by decide +kernel
theorem dX9_obey_6 : decode cX9_obey 6 = .ok (.istore_n 2, 1) := by decide +kernel
theorem dX9_obey_7 : decode cX9_obey 7 = .ok (.iload_n 2, 1) := by decide +kernel
theorem dX9_obey_8 : decode cX9_obey 8 = .ok (.aload_n 0, 1) := by decide +kernel
theorem dX9_obey_9 : decode cX9_obey 9 = .ok (.getfield 83, 3) := by decide +kernel
theorem dX9_obey_12 : decode cX9_obey 12 = .ok (.if_icmp .ge 14, 3) := by decide +kernel
theorem dX9_obey_15 : decode cX9_obey 15 = .ok (.aload_n 0, 1) := by decide +kernel
theorem dX9_obey_16 : decode cX9_obey 16 = .ok (.iload_n 2, 1) := by decide +kernel
theorem dX9_obey_17 : decode cX9_obey 17 = .ok (.invokevirtual 105, 3) := by decide +kernel
theorem dX9_obey_20 : decode cX9_obey 20 = .ok (.iinc 2 1, 3) := by decide +kernel
theorem dX9_obey_23 : decode cX9_obey 23 = .ok (.goto (-16), 3) := by decide +kernel
theorem dX9_obey_26 : decode cX9_obey 26 = .ok (.return_, 1) := by decide +kernel
theorem dX9_settle_0 : decode cX9_settle 0 = .ok (.iconst 0, 1) := by decide +kernel
theorem dX9_settle_1 : decode cX9_settle 1 = .ok (.istore_n 2, 1) := by decide +kernel
theorem dX9_settle_2 : decode cX9_settle 2 = .ok (.iload_n 2, 1) := by decide +kernel
theorem dX9_settle_3 : decode cX9_settle 3 = .ok (.aload_n 0, 1) := by decide +kernel
theorem dX9_settle_4 : decode cX9_settle 4 = .ok (.getfield 83, 3) := by decide +kernel
theorem dX9_settle_7 : decode cX9_settle 7 = .ok (.if_icmp .ge 26, 3) := by decide +kernel
theorem dX9_settle_10 : decode cX9_settle 10 = .ok (.iload_n 2, 1) := by decide +kernel
theorem dX9_settle_11 : decode cX9_settle 11 = .ok (.iload_n 1, 1) := by decide +kernel
theorem dX9_settle_12 : decode cX9_settle 12 = .ok (.if_icmp .eq 15, 3) := by decide +kernel
theorem dX9_settle_15 : decode cX9_settle 15 = .ok (.aload_n 0, 1) := by decide +kernel
theorem dX9_settle_16 : decode cX9_settle 16 = .ok (.iload_n 1, 1) := by decide +kernel
theorem dX9_settle_17 : decode cX9_settle 17 = .ok (.iload_n 2, 1) := by decide +kernel
theorem dX9_settle_18 : decode cX9_settle 18 = .ok (.invokevirtual 108, 3) := by decide +kernel
theorem dX9_settle_21 : decode cX9_settle 21 = .ok (.aload_n 0, 1) := by decide +kernel
theorem dX9_settle_22 : decode cX9_settle 22 = .ok (.iload_n 2, 1) := by decide +kernel
theorem dX9_settle_23 : decode cX9_settle 23 = .ok (.iload_n 1, 1) := by decide +kernel
theorem dX9_settle_24 : decode cX9_settle 24 = .ok (.invokevirtual 108, 3) := by decide +kernel
theorem dX9_settle_27 : decode cX9_settle 27 = .ok (.iinc 2 1, 3) := by decide +kernel
theorem dX9_settle_30 : decode cX9_settle 30 = .ok (.goto (-28), 3) := by decide +kernel
theorem dX9_settle_33 : decode cX9_settle 33 = .ok (.aload_n 0, 1) := by decide +kernel
theorem dX9_settle_34 : decode cX9_settle 34 = .ok (.iload_n 1, 1) := by decide +kernel
theorem dX9_settle_35 : decode cX9_settle 35 = .ok (.invokevirtual 105, 3) := by decide +kernel
theorem dX9_settle_38 : decode cX9_settle 38 = .ok (.return_, 1) := by decide +kernel
theorem dX9_settleWish_0 : decode cX9_settleWish 0 = .ok (.aload_n 0, 1) := by decide +kernel
theorem dX9_settleWish_1 : decode cX9_settleWish 1 = .ok (.getfield 40, 3) := by decide +kernel
theorem dX9_settleWish_4 : decode cX9_settleWish 4 = .ok (.iload_n 1, 1) := by decide +kernel
theorem dX9_settleWish_5 : decode cX9_settleWish 5 = .ok (.iaload, 1) := by decide +kernel
theorem dX9_settleWish_6 : decode cX9_settleWish 6 = .ok (.aload_n 0, 1) := by decide +kernel
theorem dX9_settleWish_7 : decode cX9_settleWish 7 = .ok (.getfield 40, 3) := by decide +kernel
theorem dX9_settleWish_10 : decode cX9_settleWish 10 = .ok (.iload_n 2, 1) := by decide +kernel
theorem dX9_settleWish_11 : decode cX9_settleWish 11 = .ok (.iaload, 1) := by decide +kernel
theorem dX9_settleWish_12 : decode cX9_settleWish 12 = .ok (.isub, 1) := by decide +kernel
theorem dX9_settleWish_13 : decode cX9_settleWish 13 = .ok (.invokestatic 112, 3) := by decide +kernel
theorem dX9_settleWish_16 : decode cX9_settleWish 16 = .ok (.istore_n 3, 1) := by decide +kernel
theorem dX9_settleWish_17 : decode cX9_settleWish 17 = .ok (.aload_n 0, 1) := by decide +kernel
theorem dX9_settleWish_18 : decode cX9_settleWish 18 = .ok (.getfield 46, 3) := by decide +kernel
theorem dX9_settleWish_21 : decode cX9_settleWish 21 = .ok (.iload_n 1, 1) := by decide +kernel
theorem dX9_settleWish_22 : decode cX9_settleWish 22 = .ok (.bipush 6, 2) := by decide +kernel
theorem dX9_settleWish_24 : decode cX9_settleWish 24 = .ok (.imul, 1) := by decide +kernel
theorem dX9_settleWish_25 : decode cX9_settleWish 25 = .ok (.iload_n 2, 1) := by decide +kernel
theorem dX9_settleWish_26 : decode cX9_settleWish 26 = .ok (.iadd, 1) := by decide +kernel
theorem dX9_settleWish_27 : decode cX9_settleWish 27 = .ok (.aload_n 0, 1) := by decide +kernel
theorem dX9_settleWish_28 : decode cX9_settleWish 28 = .ok (.getfield 27, 3) := by decide +kernel
theorem dX9_settleWish_31 : decode cX9_settleWish 31 = .ok (.aload_n 0, 1) := by decide +kernel
theorem dX9_settleWish_32 : decode cX9_settleWish 32 = .ok (.getfield 33, 3) := by decide +kernel
theorem dX9_settleWish_35 : decode cX9_settleWish 35 = .ok (.iload_n 1, 1) := by decide +kernel
theorem dX9_settleWish_36 : decode cX9_settleWish 36 = .ok (.iaload, 1) := by decide +kernel
theorem dX9_settleWish_37 : decode cX9_settleWish 37 = .ok (.aaload, 1) := by decide +kernel
theorem dX9_settleWish_38 : decode cX9_settleWish 38 = .ok (.aload_n 0, 1) := by decide +kernel
theorem dX9_settleWish_39 : decode cX9_settleWish 39 = .ok (.getfield 37, 3) := by decide +kernel
theorem dX9_settleWish_42 : decode cX9_settleWish 42 = .ok (.iload_n 2, 1) := by decide +kernel
theorem dX9_settleWish_43 : decode cX9_settleWish 43 = .ok (.iaload, 1) := by decide +kernel
theorem dX9_settleWish_44 : decode cX9_settleWish 44 = .ok (.iload_n 3, 1) := by decide +kernel
theorem dX9_settleWish_45 : decode cX9_settleWish 45 = .ok (.aload_n 0, 1) := by decide +kernel
theorem dX9_settleWish_46 : decode cX9_settleWish 46 = .ok (.getfield 37, 3) := by decide +kernel
theorem dX9_settleWish_49 : decode cX9_settleWish 49 = .ok (.iload_n 1, 1) := by decide +kernel
theorem dX9_settleWish_50 : decode cX9_settleWish 50 = .ok (.iaload, 1) := by decide +kernel
theorem dX9_settleWish_51 : decode cX9_settleWish 51 = .ok (.iload_n 2, 1) := by decide +kernel
theorem dX9_settleWish_52 : decode cX9_settleWish 52 = .ok (.iload_n 1, 1) := by decide +kernel
theorem dX9_settleWish_53 : decode cX9_settleWish 53 = .ok (.if_icmp .le 7, 3) := by decide +kernel
theorem dX9_settleWish_56 : decode cX9_settleWish 56 = .ok (.iconst 1, 1) := by decide +kernel
theorem dX9_settleWish_57 : decode cX9_settleWish 57 = .ok (.goto 4, 3) := by decide +kernel
theorem dX9_settleWish_60 : decode cX9_settleWish 60 = .ok (.iconst 0, 1) := by decide +kernel
theorem dX9_settleWish_61 : decode cX9_settleWish 61 = .ok (.invokevirtual 118, 3) := by decide +kernel
theorem dX9_settleWish_64 : decode cX9_settleWish 64 = .ok (.iastore, 1) := by decide +kernel
theorem dX9_settleWish_65 : decode cX9_settleWish 65 = .ok (.return_, 1) := by decide +kernel
theorem dX9_settleWills_0 : decode cX9_settleWills 0 = .ok (.aload_n 0, 1) := by decide +kernel
theorem dX9_settleWills_1 : decode cX9_settleWills 1 = .ok (.getfield 57, 3) := by decide +kernel
theorem dX9_settleWills_4 : decode cX9_settleWills 4 = .ok (.iconst 1, 1) := by decide +kernel
theorem dX9_settleWills_5 : decode cX9_settleWills 5 = .ok (.aload_n 0, 1) := by decide +kernel
theorem dX9_settleWills_6 : decode cX9_settleWills 6 = .ok (.getfield 37, 3) := by decide +kernel
theorem dX9_settleWills_9 : decode cX9_settleWills 9 = .ok (.iload_n 1, 1) := by decide +kernel
theorem dX9_settleWills_10 : decode cX9_settleWills 10 = .ok (.iaload, 1) := by decide +kernel
theorem dX9_settleWills_11 : decode cX9_settleWills 11 = .ok (.iastore, 1) := by decide +kernel
theorem dX9_settleWills_12 : decode cX9_settleWills 12 = .ok (.aload_n 0, 1) := by decide +kernel
theorem dX9_settleWills_13 : decode cX9_settleWills 13 = .ok (.getfield 57, 3) := by decide +kernel
theorem dX9_settleWills_16 : decode cX9_settleWills 16 = .ok (.iconst 2, 1) := by decide +kernel
theorem dX9_settleWills_17 : decode cX9_settleWills 17 = .ok (.aload_n 0, 1) := by decide +kernel
theorem dX9_settleWills_18 : decode cX9_settleWills 18 = .ok (.getfield 40, 3) := by decide +kernel
theorem dX9_settleWills_21 : decode cX9_settleWills 21 = .ok (.iload_n 1, 1) := by decide +kernel
theorem dX9_settleWills_22 : decode cX9_settleWills 22 = .ok (.iaload, 1) := by decide +kernel
theorem dX9_settleWills_23 : decode cX9_settleWills 23 = .ok (.iastore, 1) := by decide +kernel
theorem dX9_settleWills_24 : decode cX9_settleWills 24 = .ok (.aload_n 0, 1) := by decide +kernel
theorem dX9_settleWills_25 : decode cX9_settleWills 25 = .ok (.getfield 57, 3) := by decide +kernel
theorem dX9_settleWills_28 : decode cX9_settleWills 28 = .ok (.iconst 3, 1) := by decide +kernel
theorem dX9_settleWills_29 : decode cX9_settleWills 29 = .ok (.aload_n 0, 1) := by decide +kernel
theorem dX9_settleWills_30 : decode cX9_settleWills 30 = .ok (.getfield 43, 3) := by decide +kernel
theorem dX9_settleWills_33 : decode cX9_settleWills 33 = .ok (.iload_n 1, 1) := by decide +kernel
theorem dX9_settleWills_34 : decode cX9_settleWills 34 = .ok (.iaload, 1) := by decide +kernel
theorem dX9_settleWills_35 : decode cX9_settleWills 35 = .ok (.iastore, 1) := by decide +kernel
theorem dX9_settleWills_36 : decode cX9_settleWills 36 = .ok (.aload_n 0, 1) := by decide +kernel
theorem dX9_settleWills_37 : decode cX9_settleWills 37 = .ok (.getfield 57, 3) := by decide +kernel
theorem dX9_settleWills_40 : decode cX9_settleWills 40 = .ok (.iconst 4, 1) := by decide +kernel
theorem dX9_settleWills_41 : decode cX9_settleWills 41 = .ok (.iload_n 1, 1) := by decide +kernel
theorem dX9_settleWills_42 : decode cX9_settleWills 42 = .ok (.iastore, 1) := by decide +kernel
theorem dX9_settleWills_43 : decode cX9_settleWills 43 = .ok (.iconst 0, 1) := by decide +kernel
theorem dX9_settleWills_44 : decode cX9_settleWills 44 = .ok (.istore_n 2, 1) := by decide +kernel
theorem dX9_settleWills_45 : decode cX9_settleWills 45 = .ok (.iload_n 2, 1) := by decide +kernel
theorem dX9_settleWills_46 : decode cX9_settleWills 46 = .ok (.bipush 16, 2) := by decide +kernel
theorem dX9_settleWills_48 : decode cX9_settleWills 48 = .ok (.if_icmp .gt 44, 3) := by decide +kernel
theorem dX9_settleWills_51 : decode cX9_settleWills 51 = .ok (.aload_n 0, 1) := by decide +kernel
theorem dX9_settleWills_52 : decode cX9_settleWills 52 = .ok (.getfield 57, 3) := by decide +kernel
theorem dX9_settleWills_55 : decode cX9_settleWills 55 = .ok (.iconst 0, 1) := by decide +kernel
theorem dX9_settleWills_56 : decode cX9_settleWills 56 = .ok (.iload_n 2, 1) := by decide +kernel
theorem dX9_settleWills_57 : decode cX9_settleWills 57 = .ok (.iastore, 1) := by decide +kernel
theorem dX9_settleWills_58 : decode cX9_settleWills 58 = .ok (.aload_n 0, 1) := by decide +kernel
theorem dX9_settleWills_59 : decode cX9_settleWills 59 = .ok (.getfield 49, 3) := by decide +kernel
theorem dX9_settleWills_62 : decode cX9_settleWills 62 = .ok (.iload_n 2, 1) := by decide +kernel
theorem dX9_settleWills_63 : decode cX9_settleWills 63 = .ok (.bipush 6, 2) := by decide +kernel
theorem dX9_settleWills_65 : decode cX9_settleWills 65 = .ok (.imul, 1) := by decide +kernel
theorem dX9_settleWills_66 : decode cX9_settleWills 66 = .ok (.iload_n 1, 1) := by decide +kernel
theorem dX9_settleWills_67 : decode cX9_settleWills 67 = .ok (.iadd, 1) := by decide +kernel
theorem dX9_settleWills_68 : decode cX9_settleWills 68 = .ok (.aload_n 0, 1) := by decide +kernel
theorem dX9_settleWills_69 : decode cX9_settleWills 69 = .ok (.getfield 66, 3) := by decide +kernel
theorem dX9_settleWills_72 : decode cX9_settleWills 72 = .ok (.aload_n 0, 1) := by decide +kernel
theorem dX9_settleWills_73 : decode cX9_settleWills 73 = .ok (.getfield 33, 3) := by decide +kernel
theorem dX9_settleWills_76 : decode cX9_settleWills 76 = .ok (.iload_n 1, 1) := by decide +kernel
theorem dX9_settleWills_77 : decode cX9_settleWills 77 = .ok (.iaload, 1) := by decide +kernel
theorem dX9_settleWills_78 : decode cX9_settleWills 78 = .ok (.aload_n 0, 1) := by decide +kernel
theorem dX9_settleWills_79 : decode cX9_settleWills 79 = .ok (.getfield 57, 3) := by decide +kernel
theorem dX9_settleWills_82 : decode cX9_settleWills 82 = .ok (.invokevirtual 122, 3) := by decide +kernel
theorem dX9_settleWills_85 : decode cX9_settleWills 85 = .ok (.iastore, 1) := by decide +kernel
theorem dX9_settleWills_86 : decode cX9_settleWills 86 = .ok (.iinc 2 1, 3) := by decide +kernel
theorem dX9_settleWills_89 : decode cX9_settleWills 89 = .ok (.goto (-44), 3) := by decide +kernel
theorem dX9_settleWills_92 : decode cX9_settleWills 92 = .ok (.return_, 1) := by decide +kernel
theorem dX9_isOver_0 : decode cX9_isOver 0 = .ok (.aload_n 0, 1) := by decide +kernel
theorem dX9_isOver_1 : decode cX9_isOver 1 = .ok (.getfield 89, 3) := by decide +kernel
theorem dX9_isOver_4 : decode cX9_isOver 4 = .ok (.aload_n 0, 1) := by decide +kernel
theorem dX9_isOver_5 : decode cX9_isOver 5 = .ok (.getfield 70, 3) := by decide +kernel
theorem dX9_isOver_8 : decode cX9_isOver 8 = .ok (.if_icmp .lt 7, 3) := by decide +kernel
theorem dX9_isOver_11 : decode cX9_isOver 11 = .ok (.iconst 1, 1) := by decide +kernel
theorem dX9_isOver_12 : decode cX9_isOver 12 = .ok (.goto 4, 3) := by decide +kernel
theorem dX9_isOver_15 : decode cX9_isOver 15 = .ok (.iconst 0, 1) := by decide +kernel
theorem dX9_isOver_16 : decode cX9_isOver 16 = .ok (.ireturn, 1) := by decide +kernel
theorem dX9_nightsOf_0 : decode cX9_nightsOf 0 = .ok (.iconst 0, 1) := by decide +kernel
theorem dX9_nightsOf_1 : decode cX9_nightsOf 1 = .ok (.iload_n 1, 1) := by decide +kernel
theorem dX9_nightsOf_2 : decode cX9_nightsOf 2 = .ok (.aload_n 0, 1) := by decide +kernel
theorem dX9_nightsOf_3 : decode cX9_nightsOf 3 = .ok (.getfield 70, 3) := by decide +kernel
theorem dX9_nightsOf_6 : decode cX9_nightsOf 6 = .ok (.aload_n 0, 1) := by decide +kernel
theorem dX9_nightsOf_7 : decode cX9_nightsOf 7 = .ok (.getfield 89, 3) := by decide +kernel
theorem dX9_nightsOf_10 : decode cX9_nightsOf 10 = .ok (.isub, 1) := by decide +kernel
theorem dX9_nightsOf_11 : decode cX9_nightsOf 11 = .ok (.invokestatic 126, 3) := by decide +kernel
theorem dX9_nightsOf_14 : decode cX9_nightsOf 14 = .ok (.invokestatic 129, 3) := by decide +kernel
theorem dX9_nightsOf_17 : decode cX9_nightsOf 17 = .ok (.ireturn, 1) := by decide +kernel
theorem dX9_everybody_0 : decode cX9_everybody 0 = .ok (.iconst 1, 1) := by decide +kernel
theorem dX9_everybody_1 : decode cX9_everybody 1 = .ok (.aload_n 0, 1) := by decide +kernel
theorem dX9_everybody_2 : decode cX9_everybody 2 = .ok (.getfield 83, 3) := by decide +kernel
theorem dX9_everybody_5 : decode cX9_everybody 5 = .ok (.ishl, 1) := by decide +kernel
theorem dX9_everybody_6 : decode cX9_everybody 6 = .ok (.iconst 1, 1) := by decide +kernel
theorem dX9_everybody_7 : decode cX9_everybody 7 = .ok (.isub, 1) := by decide +kernel
theorem dX9_everybody_8 : decode cX9_everybody 8 = .ok (.ireturn, 1) := by decide +kernel
theorem dX9_wishOf_0 : decode cX9_wishOf 0 = .ok (.aload_n 0, 1) := by decide +kernel
theorem dX9_wishOf_1 : decode cX9_wishOf 1 = .ok (.getfield 46, 3) := by decide +kernel
theorem dX9_wishOf_4 : decode cX9_wishOf 4 = .ok (.iload_n 1, 1) := by decide +kernel
theorem dX9_wishOf_5 : decode cX9_wishOf 5 = .ok (.bipush 6, 2) := by decide +kernel
theorem dX9_wishOf_7 : decode cX9_wishOf 7 = .ok (.imul, 1) := by decide +kernel
theorem dX9_wishOf_8 : decode cX9_wishOf 8 = .ok (.iload_n 2, 1) := by decide +kernel
theorem dX9_wishOf_9 : decode cX9_wishOf 9 = .ok (.iadd, 1) := by decide +kernel
theorem dX9_wishOf_10 : decode cX9_wishOf 10 = .ok (.iaload, 1) := by decide +kernel
theorem dX9_wishOf_11 : decode cX9_wishOf 11 = .ok (.ireturn, 1) := by decide +kernel
theorem dX9_isPair_0 : decode cX9_isPair 0 = .ok (.aload_n 0, 1) := by decide +kernel
theorem dX9_isPair_1 : decode cX9_isPair 1 = .ok (.iload_n 1, 1) := by decide +kernel
theorem dX9_isPair_2 : decode cX9_isPair 2 = .ok (.iload_n 2, 1) := by decide +kernel
theorem dX9_isPair_3 : decode cX9_isPair 3 = .ok (.invokevirtual 132, 3) := by decide +kernel
theorem dX9_isPair_6 : decode cX9_isPair 6 = .ok (.ifCond .le 16, 3) := by decide +kernel
theorem dX9_isPair_9 : decode cX9_isPair 9 = .ok (.aload_n 0, 1) := by decide +kernel
theorem dX9_isPair_10 : decode cX9_isPair 10 = .ok (.iload_n 2, 1) := by decide +kernel
theorem dX9_isPair_11 : decode cX9_isPair 11 = .ok (.iload_n 1, 1) := by decide +kernel
theorem dX9_isPair_12 : decode cX9_isPair 12 = .ok (.invokevirtual 132, 3) := by decide +kernel
theorem dX9_isPair_15 : decode cX9_isPair 15 = .ok (.ifCond .le 7, 3) := by decide +kernel
theorem dX9_isPair_18 : decode cX9_isPair 18 = .ok (.iconst 1, 1) := by decide +kernel
theorem dX9_isPair_19 : decode cX9_isPair 19 = .ok (.goto 4, 3) := by decide +kernel
theorem dX9_isPair_22 : decode cX9_isPair 22 = .ok (.iconst 0, 1) := by decide +kernel
theorem dX9_isPair_23 : decode cX9_isPair 23 = .ok (.ireturn, 1) := by decide +kernel
theorem dX9_willOf_0 : decode cX9_willOf 0 = .ok (.aload_n 0, 1) := by decide +kernel
theorem dX9_willOf_1 : decode cX9_willOf 1 = .ok (.getfield 49, 3) := by decide +kernel
theorem dX9_willOf_4 : decode cX9_willOf 4 = .ok (.iload_n 2, 1) := by decide +kernel
theorem dX9_willOf_5 : decode cX9_willOf 5 = .ok (.bipush 6, 2) := by decide +kernel
theorem dX9_willOf_7 : decode cX9_willOf 7 = .ok (.imul, 1) := by decide +kernel
theorem dX9_willOf_8 : decode cX9_willOf 8 = .ok (.iload_n 1, 1) := by decide +kernel
theorem dX9_willOf_9 : decode cX9_willOf 9 = .ok (.iadd, 1) := by decide +kernel
theorem dX9_willOf_10 : decode cX9_willOf 10 = .ok (.iaload, 1) := by decide +kernel
theorem dX9_willOf_11 : decode cX9_willOf 11 = .ok (.ireturn, 1) := by decide +kernel
theorem dX9_bakesOf_0 : decode cX9_bakesOf 0 = .ok (.aload_n 0, 1) := by decide +kernel
theorem dX9_bakesOf_1 : decode cX9_bakesOf 1 = .ok (.getfield 27, 3) := by decide +kernel
theorem dX9_bakesOf_4 : decode cX9_bakesOf 4 = .ok (.aload_n 0, 1) := by decide +kernel
theorem dX9_bakesOf_5 : decode cX9_bakesOf 5 = .ok (.getfield 33, 3) := by decide +kernel
theorem dX9_bakesOf_8 : decode cX9_bakesOf 8 = .ok (.iload_n 1, 1) := by decide +kernel
theorem dX9_bakesOf_9 : decode cX9_bakesOf 9 = .ok (.iaload, 1) := by decide +kernel
theorem dX9_bakesOf_10 : decode cX9_bakesOf 10 = .ok (.aaload, 1) := by decide +kernel
theorem dX9_bakesOf_11 : decode cX9_bakesOf 11 = .ok (.aload_n 0, 1) := by decide +kernel
theorem dX9_bakesOf_12 : decode cX9_bakesOf 12 = .ok (.getfield 43, 3) := by decide +kernel
theorem dX9_bakesOf_15 : decode cX9_bakesOf 15 = .ok (.iload_n 1, 1) := by decide +kernel
theorem dX9_bakesOf_16 : decode cX9_bakesOf 16 = .ok (.iaload, 1) := by decide +kernel
theorem dX9_bakesOf_17 : decode cX9_bakesOf 17 = .ok (.iload_n 2, 1) := by decide +kernel
theorem dX9_bakesOf_18 : decode cX9_bakesOf 18 = .ok (.invokevirtual 135, 3) := by decide +kernel
theorem dX9_bakesOf_21 : decode cX9_bakesOf 21 = .ok (.ireturn, 1) := by decide +kernel
theorem dX9_awayOf_0 : decode cX9_awayOf 0 = .ok (.iload_n 1, 1) := by decide +kernel
theorem dX9_awayOf_1 : decode cX9_awayOf 1 = .ok (.iconst 4, 1) := by decide +kernel
theorem dX9_awayOf_2 : decode cX9_awayOf 2 = .ok (.iload_n 2, 1) := by decide +kernel
theorem dX9_awayOf_3 : decode cX9_awayOf 3 = .ok (.imul, 1) := by decide +kernel
theorem dX9_awayOf_4 : decode cX9_awayOf 4 = .ok (.iushr, 1) := by decide +kernel
theorem dX9_awayOf_5 : decode cX9_awayOf 5 = .ok (.bipush 15, 2) := by decide +kernel
theorem dX9_awayOf_7 : decode cX9_awayOf 7 = .ok (.iand, 1) := by decide +kernel
theorem dX9_awayOf_8 : decode cX9_awayOf 8 = .ok (.ireturn, 1) := by decide +kernel
theorem dX9_homeSet_0 : decode cX9_homeSet 0 = .ok (.iconst 0, 1) := by decide +kernel
theorem dX9_homeSet_1 : decode cX9_homeSet 1 = .ok (.istore_n 2, 1) := by decide +kernel
theorem dX9_homeSet_2 : decode cX9_homeSet 2 = .ok (.iconst 0, 1) := by decide +kernel
theorem dX9_homeSet_3 : decode cX9_homeSet 3 = .ok (.istore_n 3, 1) := by decide +kernel
theorem dX9_homeSet_4 : decode cX9_homeSet 4 = .ok (.iload_n 3, 1) := by decide +kernel
theorem dX9_homeSet_5 : decode cX9_homeSet 5 = .ok (.aload_n 0, 1) := by decide +kernel
theorem dX9_homeSet_6 : decode cX9_homeSet 6 = .ok (.getfield 83, 3) := by decide +kernel
theorem dX9_homeSet_9 : decode cX9_homeSet 9 = .ok (.if_icmp .ge 24, 3) := by decide +kernel
theorem dX9_homeSet_12 : decode cX9_homeSet 12 = .ok (.aload_n 0, 1) := by decide +kernel
theorem dX9_homeSet_13 : decode cX9_homeSet 13 = .ok (.iload_n 1, 1) := by decide +kernel
theorem dX9_homeSet_14 : decode cX9_homeSet 14 = .ok (.iload_n 3, 1) := by decide +kernel
theorem dX9_homeSet_15 : decode cX9_homeSet 15 = .ok (.invokevirtual 101, 3) := by decide +kernel
theorem dX9_homeSet_18 : decode cX9_homeSet 18 = .ok (.ifCond .ne 9, 3) := by decide +kernel
theorem dX9_homeSet_21 : decode cX9_homeSet 21 = .ok (.iload_n 2, 1) := by decide +kernel
theorem dX9_homeSet_22 : decode cX9_homeSet 22 = .ok (.iconst 1, 1) := by decide +kernel
theorem dX9_homeSet_23 : decode cX9_homeSet 23 = .ok (.iload_n 3, 1) := by decide +kernel
theorem dX9_homeSet_24 : decode cX9_homeSet 24 = .ok (.ishl, 1) := by decide +kernel
theorem dX9_homeSet_25 : decode cX9_homeSet 25 = .ok (.ior, 1) := by decide +kernel
theorem dX9_homeSet_26 : decode cX9_homeSet 26 = .ok (.istore_n 2, 1) := by decide +kernel
theorem dX9_homeSet_27 : decode cX9_homeSet 27 = .ok (.iinc 3 1, 3) := by decide +kernel
theorem dX9_homeSet_30 : decode cX9_homeSet 30 = .ok (.goto (-26), 3) := by decide +kernel
theorem dX9_homeSet_33 : decode cX9_homeSet 33 = .ok (.iload_n 2, 1) := by decide +kernel
theorem dX9_homeSet_34 : decode cX9_homeSet 34 = .ok (.ireturn, 1) := by decide +kernel
theorem dX9_freeSet_0 : decode cX9_freeSet 0 = .ok (.aload_n 0, 1) := by decide +kernel
theorem dX9_freeSet_1 : decode cX9_freeSet 1 = .ok (.iload_n 1, 1) := by decide +kernel
theorem dX9_freeSet_2 : decode cX9_freeSet 2 = .ok (.invokevirtual 138, 3) := by decide +kernel
theorem dX9_freeSet_5 : decode cX9_freeSet 5 = .ok (.iload_n 3, 1) := by decide +kernel
theorem dX9_freeSet_6 : decode cX9_freeSet 6 = .ok (.iconst (-1), 1) := by decide +kernel
theorem dX9_freeSet_7 : decode cX9_freeSet 7 = .ok (.ixor, 1) := by decide +kernel
theorem dX9_freeSet_8 : decode cX9_freeSet 8 = .ok (.iand, 1) := by decide +kernel
theorem dX9_freeSet_9 : decode cX9_freeSet 9 = .ok (.istore 4, 2) := by decide +kernel
theorem dX9_freeSet_11 : decode cX9_freeSet 11 = .ok (.iconst 0, 1) := by decide +kernel
theorem dX9_freeSet_12 : decode cX9_freeSet 12 = .ok (.istore 5, 2) := by decide +kernel
theorem dX9_freeSet_14 : decode cX9_freeSet 14 = .ok (.iload 5, 2) := by decide +kernel
theorem dX9_freeSet_16 : decode cX9_freeSet 16 = .ok (.aload_n 0, 1) := by decide +kernel
theorem dX9_freeSet_17 : decode cX9_freeSet 17 = .ok (.getfield 83, 3) := by decide +kernel
theorem dX9_freeSet_20 : decode cX9_freeSet 20 = .ok (.if_icmp .ge 31, 3) := by decide +kernel
theorem dX9_freeSet_23 : decode cX9_freeSet 23 = .ok (.aload_n 0, 1) := by decide +kernel
theorem dX9_freeSet_24 : decode cX9_freeSet 24 = .ok (.iload 5, 2) := by decide +kernel
theorem dX9_freeSet_26 : decode cX9_freeSet 26 = .ok (.iload_n 2, 1) := by decide +kernel
theorem dX9_freeSet_27 : decode cX9_freeSet 27 = .ok (.invokevirtual 141, 3) := by decide +kernel
theorem dX9_freeSet_30 : decode cX9_freeSet 30 = .ok (.iconst 1, 1) := by decide +kernel
theorem dX9_freeSet_31 : decode cX9_freeSet 31 = .ok (.if_icmp .ne 14, 3) := by decide +kernel
theorem dX9_freeSet_34 : decode cX9_freeSet 34 = .ok (.iload 4, 2) := by decide +kernel
theorem dX9_freeSet_36 : decode cX9_freeSet 36 = .ok (.iconst 1, 1) := by decide +kernel
theorem dX9_freeSet_37 : decode cX9_freeSet 37 = .ok (.iload 5, 2) := by decide +kernel
theorem dX9_freeSet_39 : decode cX9_freeSet 39 = .ok (.ishl, 1) := by decide +kernel
theorem dX9_freeSet_40 : decode cX9_freeSet 40 = .ok (.iconst (-1), 1) := by decide +kernel
theorem dX9_freeSet_41 : decode cX9_freeSet 41 = .ok (.ixor, 1) := by decide +kernel
theorem dX9_freeSet_42 : decode cX9_freeSet 42 = .ok (.iand, 1) := by decide +kernel
theorem dX9_freeSet_43 : decode cX9_freeSet 43 = .ok (.istore 4, 2) := by decide +kernel
theorem dX9_freeSet_45 : decode cX9_freeSet 45 = .ok (.iinc 5 1, 3) := by decide +kernel
theorem dX9_freeSet_48 : decode cX9_freeSet 48 = .ok (.goto (-34), 3) := by decide +kernel
theorem dX9_freeSet_51 : decode cX9_freeSet 51 = .ok (.iload 4, 2) := by decide +kernel
theorem dX9_freeSet_53 : decode cX9_freeSet 53 = .ok (.ireturn, 1) := by decide +kernel
theorem dX9_choiceOf_0 : decode cX9_choiceOf 0 = .ok (.iload_n 2, 1) := by decide +kernel
theorem dX9_choiceOf_1 : decode cX9_choiceOf 1 = .ok (.iload_n 1, 1) := by decide +kernel
theorem dX9_choiceOf_2 : decode cX9_choiceOf 2 = .ok (.ishr, 1) := by decide +kernel
theorem dX9_choiceOf_3 : decode cX9_choiceOf 3 = .ok (.iconst 1, 1) := by decide +kernel
theorem dX9_choiceOf_4 : decode cX9_choiceOf 4 = .ok (.iand, 1) := by decide +kernel
theorem dX9_choiceOf_5 : decode cX9_choiceOf 5 = .ok (.ifCond .ne 6, 3) := by decide +kernel
theorem dX9_choiceOf_8 : decode cX9_choiceOf 8 = .ok (.bipush 6, 2) := by decide +kernel
theorem dX9_choiceOf_10 : decode cX9_choiceOf 10 = .ok (.ireturn, 1) := by decide +kernel
theorem dX9_choiceOf_11 : decode cX9_choiceOf 11 = .ok (.bipush 6, 2) := by decide +kernel
theorem dX9_choiceOf_13 : decode cX9_choiceOf 13 = .ok (.istore 4, 2) := by decide +kernel
theorem dX9_choiceOf_15 : decode cX9_choiceOf 15 = .ok (.aload_n 0, 1) := by decide +kernel
theorem dX9_choiceOf_16 : decode cX9_choiceOf 16 = .ok (.iload_n 1, 1) := by decide +kernel
theorem dX9_choiceOf_17 : decode cX9_choiceOf 17 = .ok (.iload_n 3, 1) := by decide +kernel
theorem dX9_choiceOf_18 : decode cX9_choiceOf 18 = .ok (.invokevirtual 141, 3) := by decide +kernel
theorem dX9_choiceOf_21 : decode cX9_choiceOf 21 = .ok (.iconst 2, 1) := by decide +kernel
theorem dX9_choiceOf_22 : decode cX9_choiceOf 22 = .ok (.if_icmp .ne 7, 3) := by decide +kernel
theorem dX9_choiceOf_25 : decode cX9_choiceOf 25 = .ok (.iconst 3, 1) := by decide +kernel
theorem dX9_choiceOf_26 : decode cX9_choiceOf 26 = .ok (.goto 4, 3) := by decide +kernel
theorem dX9_choiceOf_29 : decode cX9_choiceOf 29 = .ok (.iconst 0, 1) := by decide +kernel
theorem dX9_choiceOf_30 : decode cX9_choiceOf 30 = .ok (.istore 5, 2) := by decide +kernel
theorem dX9_choiceOf_32 : decode cX9_choiceOf 32 = .ok (.iconst 0, 1) := by decide +kernel
theorem dX9_choiceOf_33 : decode cX9_choiceOf 33 = .ok (.istore 6, 2) := by decide +kernel
theorem dX9_choiceOf_35 : decode cX9_choiceOf 35 = .ok (.iload 6, 2) := by decide +kernel
theorem dX9_choiceOf_37 : decode cX9_choiceOf 37 = .ok (.aload_n 0, 1) := by decide +kernel
theorem dX9_choiceOf_38 : decode cX9_choiceOf 38 = .ok (.getfield 83, 3) := by decide +kernel
theorem dX9_choiceOf_41 : decode cX9_choiceOf 41 = .ok (.if_icmp .ge 61, 3) := by decide +kernel
theorem dX9_choiceOf_44 : decode cX9_choiceOf 44 = .ok (.iload 6, 2) := by decide +kernel
theorem dX9_choiceOf_46 : decode cX9_choiceOf 46 = .ok (.iload_n 1, 1) := by decide +kernel
theorem dX9_choiceOf_47 : decode cX9_choiceOf 47 = .ok (.if_icmp .eq 16, 3) := by decide +kernel
theorem dX9_choiceOf_50 : decode cX9_choiceOf 50 = .ok (.iload_n 2, 1) := by decide +kernel
theorem dX9_choiceOf_51 : decode cX9_choiceOf 51 = .ok (.iload 6, 2) := by decide +kernel
theorem dX9_choiceOf_53 : decode cX9_choiceOf 53 = .ok (.ishr, 1) := by decide +kernel
theorem dX9_choiceOf_54 : decode cX9_choiceOf 54 = .ok (.iconst 1, 1) := by decide +kernel
theorem dX9_choiceOf_55 : decode cX9_choiceOf 55 = .ok (.iand, 1) := by decide +kernel
theorem dX9_choiceOf_56 : decode cX9_choiceOf 56 = .ok (.ifCond .eq 7, 3) := by decide +kernel
theorem dX9_choiceOf_59 : decode cX9_choiceOf 59 = .ok (.iconst 1, 1) := by decide +kernel
theorem dX9_choiceOf_60 : decode cX9_choiceOf 60 = .ok (.goto 4, 3) := by decide +kernel
theorem dX9_choiceOf_63 : decode cX9_choiceOf 63 = .ok (.iconst 0, 1) := by decide +kernel
theorem dX9_choiceOf_64 : decode cX9_choiceOf 64 = .ok (.istore 7, 2) := by decide +kernel
theorem dX9_choiceOf_66 : decode cX9_choiceOf 66 = .ok (.iload 7, 2) := by decide +kernel
theorem dX9_choiceOf_68 : decode cX9_choiceOf 68 = .ok (.ifCond .eq 28, 3) := by decide +kernel
theorem dX9_choiceOf_71 : decode cX9_choiceOf 71 = .ok (.aload_n 0, 1) := by decide +kernel
theorem dX9_choiceOf_72 : decode cX9_choiceOf 72 = .ok (.iload_n 1, 1) := by decide +kernel
theorem dX9_choiceOf_73 : decode cX9_choiceOf 73 = .ok (.iload 6, 2) := by decide +kernel
theorem dX9_choiceOf_75 : decode cX9_choiceOf 75 = .ok (.invokevirtual 132, 3) := by decide +kernel
theorem dX9_choiceOf_78 : decode cX9_choiceOf 78 = .ok (.iload 5, 2) := by decide +kernel
theorem dX9_choiceOf_80 : decode cX9_choiceOf 80 = .ok (.if_icmp .le 16, 3) := by decide +kernel
theorem dX9_choiceOf_83 : decode cX9_choiceOf 83 = .ok (.aload_n 0, 1) := by decide +kernel
theorem dX9_choiceOf_84 : decode cX9_choiceOf 84 = .ok (.iload_n 1, 1) := by decide +kernel
theorem dX9_choiceOf_85 : decode cX9_choiceOf 85 = .ok (.iload 6, 2) := by decide +kernel
theorem dX9_choiceOf_87 : decode cX9_choiceOf 87 = .ok (.invokevirtual 132, 3) := by decide +kernel
theorem dX9_choiceOf_90 : decode cX9_choiceOf 90 = .ok (.istore 5, 2) := by decide +kernel
theorem dX9_choiceOf_92 : decode cX9_choiceOf 92 = .ok (.iload 6, 2) := by decide +kernel
theorem dX9_choiceOf_94 : decode cX9_choiceOf 94 = .ok (.istore 4, 2) := by decide +kernel
theorem dX9_choiceOf_96 : decode cX9_choiceOf 96 = .ok (.iinc 6 1, 3) := by decide +kernel
theorem dX9_choiceOf_99 : decode cX9_choiceOf 99 = .ok (.goto (-64), 3) := by decide +kernel
theorem dX9_choiceOf_102 : decode cX9_choiceOf 102 = .ok (.iload 4, 2) := by decide +kernel
theorem dX9_choiceOf_104 : decode cX9_choiceOf 104 = .ok (.ireturn, 1) := by decide +kernel
theorem dX9_oneLess_0 : decode cX9_oneLess 0 = .ok (.iload_n 1, 1) := by decide +kernel
theorem dX9_oneLess_1 : decode cX9_oneLess 1 = .ok (.istore_n 2, 1) := by decide +kernel
theorem dX9_oneLess_2 : decode cX9_oneLess 2 = .ok (.iconst 0, 1) := by decide +kernel
theorem dX9_oneLess_3 : decode cX9_oneLess 3 = .ok (.istore_n 3, 1) := by decide +kernel
theorem dX9_oneLess_4 : decode cX9_oneLess 4 = .ok (.iload_n 3, 1) := by decide +kernel
theorem dX9_oneLess_5 : decode cX9_oneLess 5 = .ok (.aload_n 0, 1) := by decide +kernel
theorem dX9_oneLess_6 : decode cX9_oneLess 6 = .ok (.getfield 83, 3) := by decide +kernel
theorem dX9_oneLess_9 : decode cX9_oneLess 9 = .ok (.if_icmp .ge 26, 3) := by decide +kernel
theorem dX9_oneLess_12 : decode cX9_oneLess 12 = .ok (.aload_n 0, 1) := by decide +kernel
theorem dX9_oneLess_13 : decode cX9_oneLess 13 = .ok (.iload_n 1, 1) := by decide +kernel
theorem dX9_oneLess_14 : decode cX9_oneLess 14 = .ok (.iload_n 3, 1) := by decide +kernel
theorem dX9_oneLess_15 : decode cX9_oneLess 15 = .ok (.invokevirtual 101, 3) := by decide +kernel
theorem dX9_oneLess_18 : decode cX9_oneLess 18 = .ok (.ifCond .eq 11, 3) := by decide +kernel
theorem dX9_oneLess_21 : decode cX9_oneLess 21 = .ok (.iload_n 2, 1) := by decide +kernel
theorem dX9_oneLess_22 : decode cX9_oneLess 22 = .ok (.iconst 1, 1) := by decide +kernel
theorem dX9_oneLess_23 : decode cX9_oneLess 23 = .ok (.iconst 4, 1) := by decide +kernel
theorem dX9_oneLess_24 : decode cX9_oneLess 24 = .ok (.iload_n 3, 1) := by decide +kernel
theorem dX9_oneLess_25 : decode cX9_oneLess 25 = .ok (.imul, 1) := by decide +kernel
theorem dX9_oneLess_26 : decode cX9_oneLess 26 = .ok (.ishl, 1) := by decide +kernel
theorem dX9_oneLess_27 : decode cX9_oneLess 27 = .ok (.isub, 1) := by decide +kernel
theorem dX9_oneLess_28 : decode cX9_oneLess 28 = .ok (.istore_n 2, 1) := by decide +kernel
theorem dX9_oneLess_29 : decode cX9_oneLess 29 = .ok (.iinc 3 1, 3) := by decide +kernel
theorem dX9_oneLess_32 : decode cX9_oneLess 32 = .ok (.goto (-28), 3) := by decide +kernel
theorem dX9_oneLess_35 : decode cX9_oneLess 35 = .ok (.iload_n 2, 1) := by decide +kernel
theorem dX9_oneLess_36 : decode cX9_oneLess 36 = .ok (.ireturn, 1) := by decide +kernel
theorem dX9_after_0 : decode cX9_after 0 = .ok (.aload_n 0, 1) := by decide +kernel
theorem dX9_after_1 : decode cX9_after 1 = .ok (.iload_n 1, 1) := by decide +kernel
theorem dX9_after_2 : decode cX9_after 2 = .ok (.invokevirtual 144, 3) := by decide +kernel
theorem dX9_after_5 : decode cX9_after 5 = .ok (.istore 4, 2) := by decide +kernel
theorem dX9_after_7 : decode cX9_after 7 = .ok (.aload_n 0, 1) := by decide +kernel
theorem dX9_after_8 : decode cX9_after 8 = .ok (.iload 4, 2) := by decide +kernel
theorem dX9_after_10 : decode cX9_after 10 = .ok (.iload_n 2, 1) := by decide +kernel
theorem dX9_after_11 : decode cX9_after 11 = .ok (.iload_n 3, 1) := by decide +kernel
theorem dX9_after_12 : decode cX9_after 12 = .ok (.invokevirtual 147, 3) := by decide +kernel
theorem dX9_after_15 : decode cX9_after 15 = .ok (.istore 5, 2) := by decide +kernel
theorem dX9_after_17 : decode cX9_after 17 = .ok (.iconst 0, 1) := by decide +kernel
theorem dX9_after_18 : decode cX9_after 18 = .ok (.istore 6, 2) := by decide +kernel
theorem dX9_after_20 : decode cX9_after 20 = .ok (.iload 6, 2) := by decide +kernel
theorem dX9_after_22 : decode cX9_after 22 = .ok (.aload_n 0, 1) := by decide +kernel
theorem dX9_after_23 : decode cX9_after 23 = .ok (.getfield 83, 3) := by decide +kernel
theorem dX9_after_26 : decode cX9_after 26 = .ok (.if_icmp .ge 25, 3) := by decide +kernel
theorem dX9_after_29 : decode cX9_after 29 = .ok (.aload_n 0, 1) := by decide +kernel
theorem dX9_after_30 : decode cX9_after 30 = .ok (.getfield 52, 3) := by decide +kernel
theorem dX9_after_33 : decode cX9_after 33 = .ok (.iload 6, 2) := by decide +kernel
theorem dX9_after_35 : decode cX9_after 35 = .ok (.aload_n 0, 1) := by decide +kernel
theorem dX9_after_36 : decode cX9_after 36 = .ok (.iload 6, 2) := by decide +kernel
theorem dX9_after_38 : decode cX9_after 38 = .ok (.iload 5, 2) := by decide +kernel
theorem dX9_after_40 : decode cX9_after 40 = .ok (.iload_n 2, 1) := by decide +kernel
theorem dX9_after_41 : decode cX9_after 41 = .ok (.invokevirtual 151, 3) := by decide +kernel
theorem dX9_after_44 : decode cX9_after 44 = .ok (.iastore, 1) := by decide +kernel
theorem dX9_after_45 : decode cX9_after 45 = .ok (.iinc 6 1, 3) := by decide +kernel
theorem dX9_after_48 : decode cX9_after 48 = .ok (.goto (-28), 3) := by decide +kernel
theorem dX9_after_51 : decode cX9_after 51 = .ok (.iconst 0, 1) := by decide +kernel
theorem dX9_after_52 : decode cX9_after 52 = .ok (.istore 6, 2) := by decide +kernel
theorem dX9_after_54 : decode cX9_after 54 = .ok (.iload 6, 2) := by decide +kernel
theorem dX9_after_56 : decode cX9_after 56 = .ok (.aload_n 0, 1) := by decide +kernel
theorem dX9_after_57 : decode cX9_after 57 = .ok (.getfield 83, 3) := by decide +kernel
theorem dX9_after_60 : decode cX9_after 60 = .ok (.if_icmp .ge 90, 3) := by decide +kernel
theorem dX9_after_63 : decode cX9_after 63 = .ok (.aload_n 0, 1) := by decide +kernel
theorem dX9_after_64 : decode cX9_after 64 = .ok (.getfield 52, 3) := by decide +kernel
theorem dX9_after_67 : decode cX9_after 67 = .ok (.iload 6, 2) := by decide +kernel
theorem dX9_after_69 : decode cX9_after 69 = .ok (.iaload, 1) := by decide +kernel
theorem dX9_after_70 : decode cX9_after 70 = .ok (.istore 7, 2) := by decide +kernel
theorem dX9_after_72 : decode cX9_after 72 = .ok (.iload 7, 2) := by decide +kernel
