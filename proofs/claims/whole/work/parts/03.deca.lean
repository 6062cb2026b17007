theorem dX0_init_0 : decode cX0_init 0 = .ok (.aload_n 0, 1) := by decide +kernel
theorem dX0_init_1 : decode cX0_init 1 = .ok (.invokespecial 3, 3) := by decide +kernel
theorem dX0_init_4 : decode cX0_init 4 = .ok (.aload_n 0, 1) := by decide +kernel
theorem dX0_init_5 : decode cX0_init 5 = .ok (.new 9, 3) := by decide +kernel
theorem dX0_init_8 : decode cX0_init 8 = .ok (.dup, 1) := by decide +kernel
theorem dX0_init_9 : decode cX0_init 9 = .ok (.iload_n 1, 1) := by decide +kernel
theorem dX0_init_10 : decode cX0_init 10 = .ok (.invokespecial 11, 3) := by decide +kernel
theorem dX0_init_13 : decode cX0_init 13 = .ok (.putfield 14, 3) := by decide +kernel
theorem dX0_init_16 : decode cX0_init 16 = .ok (.aload_n 0, 1) := by decide +kernel
theorem dX0_init_17 : decode cX0_init 17 = .ok (.iload_n 2, 1) := by decide +kernel
theorem dX0_init_18 : decode cX0_init 18 = .ok (.putfield 20, 3) := by decide +kernel
theorem dX0_init_21 : decode cX0_init 21 = .ok (.aload_n 0, 1) := by decide +kernel
theorem dX0_init_22 : decode cX0_init 22 = .ok (.new 24, 3) := by decide +kernel
theorem dX0_init_25 : decode cX0_init 25 = .ok (.dup, 1) := by decide +kernel
theorem dX0_init_26 : decode cX0_init 26 = .ok (.invokespecial 26, 3) := by decide +kernel
theorem dX0_init_29 : decode cX0_init 29 = .ok (.putfield 27, 3) := by decide +kernel
theorem dX0_init_32 : decode cX0_init 32 = .ok (.return_, 1) := by decide +kernel
theorem dX0_startCycle_0 : decode cX0_startCycle 0 = .ok (.aload_n 0, 1) := by decide +kernel
theorem dX0_startCycle_1 : decode cX0_startCycle 1 = .ok (.iconst 1, 1) := by decide +kernel
theorem dX0_startCycle_2 : decode cX0_startCycle 2 = .ok (.putfield 31, 3) := by decide +kernel
theorem dX0_startCycle_5 : decode cX0_startCycle 5 = .ok (.aload_n 0, 1) := by decide +kernel
theorem dX0_startCycle_6 : decode cX0_startCycle 6 = .ok (.dup, 1) := by decide +kernel
theorem dX0_startCycle_7 : decode cX0_startCycle 7 = .ok (.getfield 34, 3) := by decide +kernel
theorem dX0_startCycle_10 : decode cX0_startCycle 10 = .ok (.iconst 1, 1) := by decide +kernel
theorem dX0_startCycle_11 : decode cX0_startCycle 11 = .ok (.iadd, 1) := by decide +kernel
theorem dX0_startCycle_12 : decode cX0_startCycle 12 = .ok (.putfield 34, 3) := by decide +kernel
theorem dX0_startCycle_15 : decode cX0_startCycle 15 = .ok (.aload_n 0, 1) := by decide +kernel
theorem dX0_startCycle_16 : decode cX0_startCycle 16 = .ok (.getfield 14, 3) := by decide +kernel
theorem dX0_startCycle_19 : decode cX0_startCycle 19 = .ok (.getfield 37, 3) := by decide +kernel
theorem dX0_startCycle_22 : decode cX0_startCycle 22 = .ok (.astore_n 1, 1) := by decide +kernel
theorem dX0_startCycle_23 : decode cX0_startCycle 23 = .ok (.aload_n 1, 1) := by decide +kernel
theorem dX0_startCycle_24 : decode cX0_startCycle 24 = .ok (.arraylength, 1) := by decide +kernel
theorem dX0_startCycle_25 : decode cX0_startCycle 25 = .ok (.istore_n 2, 1) := by decide +kernel
theorem dX0_startCycle_26 : decode cX0_startCycle 26 = .ok (.iconst 0, 1) := by decide +kernel
theorem dX0_startCycle_27 : decode cX0_startCycle 27 = .ok (.istore_n 3, 1) := by decide +kernel
theorem dX0_startCycle_28 : decode cX0_startCycle 28 = .ok (.iload_n 3, 1) := by decide +kernel
theorem dX0_startCycle_29 : decode cX0_startCycle 29 = .ok (.iload_n 2, 1) := by decide +kernel
theorem dX0_startCycle_30 : decode cX0_startCycle 30 = .ok (.if_icmp .ge 20, 3) := by decide +kernel
theorem dX0_startCycle_33 : decode cX0_startCycle 33 = .ok (.aload_n 1, 1) := by decide +kernel
theorem dX0_startCycle_34 : decode cX0_startCycle 34 = .ok (.iload_n 3, 1) := by decide +kernel
theorem dX0_startCycle_35 : decode cX0_startCycle 35 = .ok (.aaload, 1) := by decide +kernel
theorem dX0_startCycle_36 : decode cX0_startCycle 36 = .ok (.astore 4, 2) := by decide +kernel
theorem dX0_startCycle_38 : decode cX0_startCycle 38 = .ok (.aload_n 0, 1) := by decide +kernel
theorem dX0_startCycle_39 : decode cX0_startCycle 39 = .ok (.aload 4, 2) := by decide +kernel
theorem dX0_startCycle_41 : decode cX0_startCycle 41 = .ok (.invokevirtual 41, 3) := by decide +kernel
theorem dX0_startCycle_44 : decode cX0_startCycle 44 = .ok (.iinc 3 1, 3) := by decide +kernel
theorem dX0_startCycle_47 : decode cX0_startCycle 47 = .ok (.goto (-19), 3) := by decide +kernel
theorem dX0_startCycle_50 : decode cX0_startCycle 50 = .ok (.return_, 1) := by decide +kernel
theorem dX0_collectWhole_0 : decode cX0_collectWhole 0 = .ok (.aload_n 0, 1) := by decide +kernel
theorem dX0_collectWhole_1 : decode cX0_collectWhole 1 = .ok (.ldc 45, 2) := by decide +kernel
theorem dX0_collectWhole_3 : decode cX0_collectWhole 3 = .ok (.invokevirtual 46, 3) := by decide +kernel
theorem dX0_collectWhole_6 : decode cX0_collectWhole 6 = .ok (.aload_n 0, 1) := by decide +kernel
theorem dX0_collectWhole_7 : decode cX0_collectWhole 7 = .ok (.invokevirtual 49, 3) := by decide +kernel
theorem dX0_collectWhole_10 : decode cX0_collectWhole 10 = .ok (.aload_n 0, 1) := by decide +kernel
theorem dX0_collectWhole_11 : decode cX0_collectWhole 11 = .ok (.ldc 45, 2) := by decide +kernel
theorem dX0_collectWhole_13 : decode cX0_collectWhole 13 = .ok (.invokevirtual 46, 3) := by decide +kernel
theorem dX0_collectWhole_16 : decode cX0_collectWhole 16 = .ok (.return_, 1) := by decide +kernel
theorem dX0_runUnits_0 : decode cX0_runUnits 0 = .ok (.iconst 0, 1) := by decide +kernel
theorem dX0_runUnits_1 : decode cX0_runUnits 1 = .ok (.istore_n 2, 1) := by decide +kernel
theorem dX0_runUnits_2 : decode cX0_runUnits 2 = .ok (.iload_n 2, 1) := by decide +kernel
theorem dX0_runUnits_3 : decode cX0_runUnits 3 = .ok (.iload_n 1, 1) := by decide +kernel
theorem dX0_runUnits_4 : decode cX0_runUnits 4 = .ok (.if_icmp .ge 64, 3) := by decide +kernel
theorem dX0_runUnits_7 : decode cX0_runUnits 7 = .ok (.aload_n 0, 1) := by decide +kernel
theorem dX0_runUnits_8 : decode cX0_runUnits 8 = .ok (.getfield 31, 3) := by decide +kernel
theorem dX0_runUnits_11 : decode cX0_runUnits 11 = .ok (.ifCond .eq 57, 3) := by decide +kernel
theorem dX0_runUnits_14 : decode cX0_runUnits 14 = .ok (.aload_n 0, 1) := by decide +kernel
theorem dX0_runUnits_15 : decode cX0_runUnits 15 = .ok (.getfield 31, 3) := by decide +kernel
theorem dX0_runUnits_18 : decode cX0_runUnits 18 = .ok (.lookupswitch 40 #[(1, 26), (2, 33)], 26) := by decide +kernel
theorem dX0_runUnits_44 : decode cX0_runUnits 44 = .ok (.aload_n 0, 1) := by decide +kernel
theorem dX0_runUnits_45 : decode cX0_runUnits 45 = .ok (.invokevirtual 52, 3) := by decide +kernel
theorem dX0_runUnits_48 : decode cX0_runUnits 48 = .ok (.goto 14, 3) := by decide +kernel
theorem dX0_runUnits_51 : decode cX0_runUnits 51 = .ok (.aload_n 0, 1) := by decide +kernel
theorem dX0_runUnits_52 : decode cX0_runUnits 52 = .ok (.invokevirtual 55, 3) := by decide +kernel
theorem dX0_runUnits_55 : decode cX0_runUnits 55 = .ok (.goto 7, 3) := by decide +kernel
theorem dX0_runUnits_58 : decode cX0_runUnits 58 = .ok (.aload_n 0, 1) := by decide +kernel
theorem dX0_runUnits_59 : decode cX0_runUnits 59 = .ok (.invokevirtual 58, 3) := by decide +kernel
theorem dX0_runUnits_62 : decode cX0_runUnits 62 = .ok (.iinc 2 1, 3) := by decide +kernel
theorem dX0_runUnits_65 : decode cX0_runUnits 65 = .ok (.goto (-63), 3) := by decide +kernel
theorem dX0_runUnits_68 : decode cX0_runUnits 68 = .ok (.return_, 1) := by decide +kernel
theorem dX0_welcome_0 : decode cX0_welcome 0 = .ok (.aload_n 0, 1) := by decide +kernel
theorem dX0_welcome_1 : decode cX0_welcome 1 = .ok (.getfield 31, 3) := by decide +kernel
theorem dX0_welcome_4 : decode cX0_welcome 4 = .ok (.ifCond .eq 11, 3) := by decide +kernel
theorem dX0_welcome_7 : decode cX0_welcome 7 = .ok (.aload_n 1, 1) := by decide +kernel
theorem dX0_welcome_8 : decode cX0_welcome 8 = .ok (.aload_n 0, 1) := by decide +kernel
theorem dX0_welcome_9 : decode cX0_welcome 9 = .ok (.getfield 34, 3) := by decide +kernel
theorem dX0_welcome_12 : decode cX0_welcome 12 = .ok (.putfield 61, 3) := by decide +kernel
theorem dX0_welcome_15 : decode cX0_welcome 15 = .ok (.return_, 1) := by decide +kernel
theorem dX0_prepareWrite_0 : decode cX0_prepareWrite 0 = .ok (.aload_n 0, 1) := by decide +kernel
theorem dX0_prepareWrite_1 : decode cX0_prepareWrite 1 = .ok (.getfield 31, 3) := by decide +kernel
theorem dX0_prepareWrite_4 : decode cX0_prepareWrite 4 = .ok (.iconst 1, 1) := by decide +kernel
theorem dX0_prepareWrite_5 : decode cX0_prepareWrite 5 = .ok (.if_icmp .ne 11, 3) := by decide +kernel
theorem dX0_prepareWrite_8 : decode cX0_prepareWrite 8 = .ok (.aload_n 0, 1) := by decide +kernel
theorem dX0_prepareWrite_9 : decode cX0_prepareWrite 9 = .ok (.aload_n 2, 1) := by decide +kernel
theorem dX0_prepareWrite_10 : decode cX0_prepareWrite 10 = .ok (.invokevirtual 41, 3) := by decide +kernel
theorem dX0_prepareWrite_13 : decode cX0_prepareWrite 13 = .ok (.goto 24, 3) := by decide +kernel
theorem dX0_prepareWrite_16 : decode cX0_prepareWrite 16 = .ok (.aload_n 0, 1) := by decide +kernel
theorem dX0_prepareWrite_17 : decode cX0_prepareWrite 17 = .ok (.getfield 31, 3) := by decide +kernel
theorem dX0_prepareWrite_20 : decode cX0_prepareWrite 20 = .ok (.iconst 2, 1) := by decide +kernel
theorem dX0_prepareWrite_21 : decode cX0_prepareWrite 21 = .ok (.if_icmp .ne 16, 3) := by decide +kernel
theorem dX0_prepareWrite_24 : decode cX0_prepareWrite 24 = .ok (.aload_n 0, 1) := by decide +kernel
theorem dX0_prepareWrite_25 : decode cX0_prepareWrite 25 = .ok (.aload_n 1, 1) := by decide +kernel
theorem dX0_prepareWrite_26 : decode cX0_prepareWrite 26 = .ok (.invokevirtual 66, 3) := by decide +kernel
theorem dX0_prepareWrite_29 : decode cX0_prepareWrite 29 = .ok (.ifCond .eq 8, 3) := by decide +kernel
theorem dX0_prepareWrite_32 : decode cX0_prepareWrite 32 = .ok (.aload_n 0, 1) := by decide +kernel
theorem dX0_prepareWrite_33 : decode cX0_prepareWrite 33 = .ok (.aload_n 1, 1) := by decide +kernel
theorem dX0_prepareWrite_34 : decode cX0_prepareWrite 34 = .ok (.invokevirtual 70, 3) := by decide +kernel
theorem dX0_prepareWrite_37 : decode cX0_prepareWrite 37 = .ok (.return_, 1) := by decide +kernel
theorem dX0_see_0 : decode cX0_see 0 = .ok (.aload_n 1, 1) := by decide +kernel
theorem dX0_see_1 : decode cX0_see 1 = .ok (.ifnull 30, 3) := by decide +kernel
theorem dX0_see_4 : decode cX0_see 4 = .ok (.aload_n 1, 1) := by decide +kernel
theorem dX0_see_5 : decode cX0_see 5 = .ok (.getfield 61, 3) := by decide +kernel
theorem dX0_see_8 : decode cX0_see 8 = .ok (.aload_n 0, 1) := by decide +kernel
theorem dX0_see_9 : decode cX0_see 9 = .ok (.getfield 34, 3) := by decide +kernel
theorem dX0_see_12 : decode cX0_see 12 = .ok (.if_icmp .eq 19, 3) := by decide +kernel
theorem dX0_see_15 : decode cX0_see 15 = .ok (.aload_n 1, 1) := by decide +kernel
theorem dX0_see_16 : decode cX0_see 16 = .ok (.aload_n 0, 1) := by decide +kernel
theorem dX0_see_17 : decode cX0_see 17 = .ok (.getfield 34, 3) := by decide +kernel
theorem dX0_see_20 : decode cX0_see 20 = .ok (.putfield 61, 3) := by decide +kernel
theorem dX0_see_23 : decode cX0_see 23 = .ok (.aload_n 0, 1) := by decide +kernel
theorem dX0_see_24 : decode cX0_see 24 = .ok (.getfield 27, 3) := by decide +kernel
theorem dX0_see_27 : decode cX0_see 27 = .ok (.aload_n 1, 1) := by decide +kernel
theorem dX0_see_28 : decode cX0_see 28 = .ok (.invokevirtual 73, 3) := by decide +kernel
theorem dX0_see_31 : decode cX0_see 31 = .ok (.return_, 1) := by decide +kernel
theorem dX0_markNext_0 : decode cX0_markNext 0 = .ok (.aload_n 0, 1) := by decide +kernel
theorem dX0_markNext_1 : decode cX0_markNext 1 = .ok (.getfield 27, 3) := by decide +kernel
theorem dX0_markNext_4 : decode cX0_markNext 4 = .ok (.invokevirtual 76, 3) := by decide +kernel
theorem dX0_markNext_7 : decode cX0_markNext 7 = .ok (.astore_n 1, 1) := by decide +kernel
theorem dX0_markNext_8 : decode cX0_markNext 8 = .ok (.aload_n 1, 1) := by decide +kernel
theorem dX0_markNext_9 : decode cX0_markNext 9 = .ok (.ifnonnull 13, 3) := by decide +kernel
theorem dX0_markNext_12 : decode cX0_markNext 12 = .ok (.aload_n 0, 1) := by decide +kernel
theorem dX0_markNext_13 : decode cX0_markNext 13 = .ok (.invokevirtual 80, 3) := by decide +kernel
theorem dX0_markNext_16 : decode cX0_markNext 16 = .ok (.aload_n 0, 1) := by decide +kernel
theorem dX0_markNext_17 : decode cX0_markNext 17 = .ok (.iconst 2, 1) := by decide +kernel
theorem dX0_markNext_18 : decode cX0_markNext 18 = .ok (.putfield 31, 3) := by decide +kernel
theorem dX0_markNext_21 : decode cX0_markNext 21 = .ok (.return_, 1) := by decide +kernel
theorem dX0_markNext_22 : decode cX0_markNext 22 = .ok (.aload_n 1, 1) := by decide +kernel
theorem dX0_markNext_23 : decode cX0_markNext 23 = .ok (.getfield 83, 3) := by decide +kernel
theorem dX0_markNext_26 : decode cX0_markNext 26 = .ok (.astore_n 2, 1) := by decide +kernel
theorem dX0_markNext_27 : decode cX0_markNext 27 = .ok (.aload_n 2, 1) := by decide +kernel
theorem dX0_markNext_28 : decode cX0_markNext 28 = .ok (.arraylength, 1) := by decide +kernel
theorem dX0_markNext_29 : decode cX0_markNext 29 = .ok (.istore_n 3, 1) := by decide +kernel
theorem dX0_markNext_30 : decode cX0_markNext 30 = .ok (.iconst 0, 1) := by decide +kernel
theorem dX0_markNext_31 : decode cX0_markNext 31 = .ok (.istore 4, 2) := by decide +kernel
theorem dX0_markNext_33 : decode cX0_markNext 33 = .ok (.iload 4, 2) := by decide +kernel
theorem dX0_markNext_35 : decode cX0_markNext 35 = .ok (.iload_n 3, 1) := by decide +kernel
theorem dX0_markNext_36 : decode cX0_markNext 36 = .ok (.if_icmp .ge 21, 3) := by decide +kernel
theorem dX0_markNext_39 : decode cX0_markNext 39 = .ok (.aload_n 2, 1) := by decide +kernel
theorem dX0_markNext_40 : decode cX0_markNext 40 = .ok (.iload 4, 2) := by decide +kernel
theorem dX0_markNext_42 : decode cX0_markNext 42 = .ok (.aaload, 1) := by decide +kernel
theorem dX0_markNext_43 : decode cX0_markNext 43 = .ok (.astore 5, 2) := by decide +kernel
theorem dX0_markNext_45 : decode cX0_markNext 45 = .ok (.aload_n 0, 1) := by decide +kernel
theorem dX0_markNext_46 : decode cX0_markNext 46 = .ok (.aload 5, 2) := by decide +kernel
theorem dX0_markNext_48 : decode cX0_markNext 48 = .ok (.invokevirtual 41, 3) := by decide +kernel
theorem dX0_markNext_51 : decode cX0_markNext 51 = .ok (.iinc 4 1, 3) := by decide +kernel
theorem dX0_markNext_54 : decode cX0_markNext 54 = .ok (.goto (-21), 3) := by decide +kernel
theorem dX0_markNext_57 : decode cX0_markNext 57 = .ok (.return_, 1) := by decide +kernel
theorem dX0_chooseSet_0 : decode cX0_chooseSet 0 = .ok (.aload_n 0, 1) := by decide +kernel
theorem dX0_chooseSet_1 : decode cX0_chooseSet 1 = .ok (.getfield 14, 3) := by decide +kernel
theorem dX0_chooseSet_4 : decode cX0_chooseSet 4 = .ok (.getfield 86, 3) := by decide +kernel
theorem dX0_chooseSet_7 : decode cX0_chooseSet 7 = .ok (.astore_n 1, 1) := by decide +kernel
theorem dX0_chooseSet_8 : decode cX0_chooseSet 8 = .ok (.aload_n 1, 1) := by decide +kernel
theorem dX0_chooseSet_9 : decode cX0_chooseSet 9 = .ok (.arraylength, 1) := by decide +kernel
theorem dX0_chooseSet_10 : decode cX0_chooseSet 10 = .ok (.istore_n 2, 1) := by decide +kernel
theorem dX0_chooseSet_11 : decode cX0_chooseSet 11 = .ok (.iconst 0, 1) := by decide +kernel
theorem dX0_chooseSet_12 : decode cX0_chooseSet 12 = .ok (.istore_n 3, 1) := by decide +kernel
theorem dX0_chooseSet_13 : decode cX0_chooseSet 13 = .ok (.iload_n 3, 1) := by decide +kernel
theorem dX0_chooseSet_14 : decode cX0_chooseSet 14 = .ok (.iload_n 2, 1) := by decide +kernel
theorem dX0_chooseSet_15 : decode cX0_chooseSet 15 = .ok (.if_icmp .ge 50, 3) := by decide +kernel
theorem dX0_chooseSet_18 : decode cX0_chooseSet 18 = .ok (.aload_n 1, 1) := by decide +kernel
theorem dX0_chooseSet_19 : decode cX0_chooseSet 19 = .ok (.iload_n 3, 1) := by decide +kernel
theorem dX0_chooseSet_20 : decode cX0_chooseSet 20 = .ok (.aaload, 1) := by decide +kernel
theorem dX0_chooseSet_21 : decode cX0_chooseSet 21 = .ok (.astore 4, 2) := by decide +kernel
theorem dX0_chooseSet_23 : decode cX0_chooseSet 23 = .ok (.aload 4, 2) := by decide +kernel
theorem dX0_chooseSet_25 : decode cX0_chooseSet 25 = .ok (.getfield 90, 3) := by decide +kernel
theorem dX0_chooseSet_28 : decode cX0_chooseSet 28 = .ok (.iconst 3, 1) := by decide +kernel
theorem dX0_chooseSet_29 : decode cX0_chooseSet 29 = .ok (.if_icmp .ne 30, 3) := by decide +kernel
theorem dX0_chooseSet_32 : decode cX0_chooseSet 32 = .ok (.aload 4, 2) := by decide +kernel
theorem dX0_chooseSet_34 : decode cX0_chooseSet 34 = .ok (.getfield 95, 3) := by decide +kernel
theorem dX0_chooseSet_37 : decode cX0_chooseSet 37 = .ok (.aload 4, 2) := by decide +kernel
theorem dX0_chooseSet_39 : decode cX0_chooseSet 39 = .ok (.aload_n 0, 1) := by decide +kernel
theorem dX0_chooseSet_40 : decode cX0_chooseSet 40 = .ok (.getfield 34, 3) := by decide +kernel
theorem dX0_chooseSet_43 : decode cX0_chooseSet 43 = .ok (.invokevirtual 98, 3) := by decide +kernel
theorem dX0_chooseSet_46 : decode cX0_chooseSet 46 = .ok (.isub, 1) := by decide +kernel
theorem dX0_chooseSet_47 : decode cX0_chooseSet 47 = .ok (.aload_n 0, 1) := by decide +kernel
theorem dX0_chooseSet_48 : decode cX0_chooseSet 48 = .ok (.getfield 20, 3) := by decide +kernel
theorem dX0_chooseSet_51 : decode cX0_chooseSet 51 = .ok (.if_icmp .le 8, 3) := by decide +kernel
theorem dX0_chooseSet_54 : decode cX0_chooseSet 54 = .ok (.aload 4, 2) := by decide +kernel
theorem dX0_chooseSet_56 : decode cX0_chooseSet 56 = .ok (.invokevirtual 102, 3) := by decide +kernel
theorem dX0_chooseSet_59 : decode cX0_chooseSet 59 = .ok (.iinc 3 1, 3) := by decide +kernel
theorem dX0_chooseSet_62 : decode cX0_chooseSet 62 = .ok (.goto (-49), 3) := by decide +kernel
theorem dX0_chooseSet_65 : decode cX0_chooseSet 65 = .ok (.return_, 1) := by decide +kernel
theorem dX0_moveNext_0 : decode cX0_moveNext 0 = .ok (.aload_n 0, 1) := by decide +kernel
theorem dX0_moveNext_1 : decode cX0_moveNext 1 = .ok (.getfield 14, 3) := by decide +kernel
theorem dX0_moveNext_4 : decode cX0_moveNext 4 = .ok (.getfield 86, 3) := by decide +kernel
theorem dX0_moveNext_7 : decode cX0_moveNext 7 = .ok (.astore_n 1, 1) := by decide +kernel
theorem dX0_moveNext_8 : decode cX0_moveNext 8 = .ok (.aload_n 1, 1) := by decide +kernel
theorem dX0_moveNext_9 : decode cX0_moveNext 9 = .ok (.arraylength, 1) := by decide +kernel
theorem dX0_moveNext_10 : decode cX0_moveNext 10 = .ok (.istore_n 2, 1) := by decide +kernel
theorem dX0_moveNext_11 : decode cX0_moveNext 11 = .ok (.iconst 0, 1) := by decide +kernel
theorem dX0_moveNext_12 : decode cX0_moveNext 12 = .ok (.istore_n 3, 1) := by decide +kernel
theorem dX0_moveNext_13 : decode cX0_moveNext 13 = .ok (.iload_n 3, 1) := by decide +kernel
theorem dX0_moveNext_14 : decode cX0_moveNext 14 = .ok (.iload_n 2, 1) := by decide +kernel
theorem dX0_moveNext_15 : decode cX0_moveNext 15 = .ok (.if_icmp .ge 50, 3) := by decide +kernel
theorem dX0_moveNext_18 : decode cX0_moveNext 18 = .ok (.aload_n 1, 1) := by decide +kernel
theorem dX0_moveNext_19 : decode cX0_moveNext 19 = .ok (.iload_n 3, 1) := by decide +kernel
theorem dX0_moveNext_20 : decode cX0_moveNext 20 = .ok (.aaload, 1) := by decide +kernel
theorem dX0_moveNext_21 : decode cX0_moveNext 21 = .ok (.astore 4, 2) := by decide +kernel
theorem dX0_moveNext_23 : decode cX0_moveNext 23 = .ok (.aload 4, 2) := by decide +kernel
theorem dX0_moveNext_25 : decode cX0_moveNext 25 = .ok (.getfield 90, 3) := by decide +kernel
theorem dX0_moveNext_28 : decode cX0_moveNext 28 = .ok (.iconst 4, 1) := by decide +kernel
theorem dX0_moveNext_29 : decode cX0_moveNext 29 = .ok (.if_icmp .ne 15, 3) := by decide +kernel
theorem dX0_moveNext_32 : decode cX0_moveNext 32 = .ok (.aload 4, 2) := by decide +kernel
theorem dX0_moveNext_34 : decode cX0_moveNext 34 = .ok (.aload_n 0, 1) := by decide +kernel
theorem dX0_moveNext_35 : decode cX0_moveNext 35 = .ok (.getfield 34, 3) := by decide +kernel
theorem dX0_moveNext_38 : decode cX0_moveNext 38 = .ok (.invokevirtual 105, 3) := by decide +kernel
theorem dX0_moveNext_41 : decode cX0_moveNext 41 = .ok (.goto 4, 3) := by decide +kernel
theorem dX0_moveNext_44 : decode cX0_moveNext 44 = .ok (.aconst_null, 1) := by decide +kernel
theorem dX0_moveNext_45 : decode cX0_moveNext 45 = .ok (.astore 5, 2) := by decide +kernel
theorem dX0_moveNext_47 : decode cX0_moveNext 47 = .ok (.aload 5, 2) := by decide +kernel
theorem dX0_moveNext_49 : decode cX0_moveNext 49 = .ok (.ifnull 10, 3) := by decide +kernel
theorem dX0_moveNext_52 : decode cX0_moveNext 52 = .ok (.aload_n 0, 1) := by decide +kernel
theorem dX0_moveNext_53 : decode cX0_moveNext 53 = .ok (.aload 5, 2) := by decide +kernel
theorem dX0_moveNext_55 : decode cX0_moveNext 55 = .ok (.invokevirtual 70, 3) := by decide +kernel
theorem dX0_moveNext_58 : decode cX0_moveNext 58 = .ok (.return_, 1) := by decide +kernel
theorem dX0_moveNext_59 : decode cX0_moveNext 59 = .ok (.iinc 3 1, 3) := by decide +kernel
theorem dX0_moveNext_62 : decode cX0_moveNext 62 = .ok (.goto (-49), 3) := by decide +kernel
theorem dX0_moveNext_65 : decode cX0_moveNext 65 = .ok (.aload_n 0, 1) := by decide +kernel
theorem dX0_moveNext_66 : decode cX0_moveNext 66 = .ok (.iconst 3, 1) := by decide +kernel
theorem dX0_moveNext_67 : decode cX0_moveNext 67 = .ok (.putfield 31, 3) := by decide +kernel
theorem dX0_moveNext_70 : decode cX0_moveNext 70 = .ok (.aload_n 0, 1) := by decide +kernel
theorem dX0_moveNext_71 : decode cX0_moveNext 71 = .ok (.iconst 0, 1) := by decide +kernel
theorem dX0_moveNext_72 : decode cX0_moveNext 72 = .ok (.putfield 109, 3) := by decide +kernel
theorem dX0_moveNext_75 : decode cX0_moveNext 75 = .ok (.return_, 1) := by decide +kernel
theorem dX0_mayMove_0 : decode cX0_mayMove 0 = .ok (.aload_n 1, 1) := by decide +kernel
theorem dX0_mayMove_1 : decode cX0_mayMove 1 = .ok (.getfield 112, 3) := by decide +kernel
theorem dX0_mayMove_4 : decode cX0_mayMove 4 = .ok (.getfield 90, 3) := by decide +kernel
theorem dX0_mayMove_7 : decode cX0_mayMove 7 = .ok (.iconst 4, 1) := by decide +kernel
theorem dX0_mayMove_8 : decode cX0_mayMove 8 = .ok (.if_icmp .ne 18, 3) := by decide +kernel
theorem dX0_mayMove_11 : decode cX0_mayMove 11 = .ok (.aload_n 1, 1) := by decide +kernel
theorem dX0_mayMove_12 : decode cX0_mayMove 12 = .ok (.getfield 116, 3) := by decide +kernel
theorem dX0_mayMove_15 : decode cX0_mayMove 15 = .ok (.aload_n 0, 1) := by decide +kernel
theorem dX0_mayMove_16 : decode cX0_mayMove 16 = .ok (.getfield 34, 3) := by decide +kernel
theorem dX0_mayMove_19 : decode cX0_mayMove 19 = .ok (.if_icmp .eq 7, 3) := by decide +kernel
theorem dX0_mayMove_22 : decode cX0_mayMove 22 = .ok (.iconst 1, 1) := by decide +kernel
theorem dX0_mayMove_23 : decode cX0_mayMove 23 = .ok (.goto 4, 3) := by decide +kernel
theorem dX0_mayMove_26 : decode cX0_mayMove 26 = .ok (.iconst 0, 1) := by decide +kernel
theorem dX0_mayMove_27 : decode cX0_mayMove 27 = .ok (.ireturn, 1) := by decide +kernel
theorem dX0_moveOrFail_0 : decode cX0_moveOrFail 0 = .ok (.aload_n 1, 1) := by decide +kernel
theorem dX0_moveOrFail_1 : decode cX0_moveOrFail 1 = .ok (.getfield 112, 3) := by decide +kernel
theorem dX0_moveOrFail_4 : decode cX0_moveOrFail 4 = .ok (.astore_n 2, 1) := by decide +kernel
theorem dX0_moveOrFail_5 : decode cX0_moveOrFail 5 = .ok (.aload_n 0, 1) := by decide +kernel
theorem dX0_moveOrFail_6 : decode cX0_moveOrFail 6 = .ok (.getfield 14, 3) := by decide +kernel
theorem dX0_moveOrFail_9 : decode cX0_moveOrFail 9 = .ok (.aload_n 1, 1) := by decide +kernel
theorem dX0_moveOrFail_10 : decode cX0_moveOrFail 10 = .ok (.invokevirtual 119, 3) := by decide +kernel
theorem dX0_moveOrFail_13 : decode cX0_moveOrFail 13 = .ok (.invokevirtual 123, 3) := by decide +kernel
theorem dX0_moveOrFail_16 : decode cX0_moveOrFail 16 = .ok (.astore_n 3, 1) := by decide +kernel
theorem dX0_moveOrFail_17 : decode cX0_moveOrFail 17 = .ok (.aload_n 3, 1) := by decide +kernel
theorem dX0_moveOrFail_18 : decode cX0_moveOrFail 18 = .ok (.ifnonnull 27, 3) := by decide +kernel
theorem dX0_moveOrFail_21 : decode cX0_moveOrFail 21 = .ok (.aload_n 1, 1) := by decide +kernel
theorem dX0_moveOrFail_22 : decode cX0_moveOrFail 22 = .ok (.aload_n 0, 1) := by decide +kernel
theorem dX0_moveOrFail_23 : decode cX0_moveOrFail 23 = .ok (.getfield 34, 3) := by decide +kernel
theorem dX0_moveOrFail_26 : decode cX0_moveOrFail 26 = .ok (.putfield 116, 3) := by decide +kernel
theorem dX0_moveOrFail_29 : decode cX0_moveOrFail 29 = .ok (.aload_n 2, 1) := by decide +kernel
theorem dX0_moveOrFail_30 : decode cX0_moveOrFail 30 = .ok (.iconst 1, 1) := by decide +kernel
theorem dX0_moveOrFail_31 : decode cX0_moveOrFail 31 = .ok (.putfield 127, 3) := by decide +kernel
theorem dX0_moveOrFail_34 : decode cX0_moveOrFail 34 = .ok (.aload_n 0, 1) := by decide +kernel
theorem dX0_moveOrFail_35 : decode cX0_moveOrFail 35 = .ok (.dup, 1) := by decide +kernel
theorem dX0_moveOrFail_36 : decode cX0_moveOrFail 36 = .ok (.getfield 131, 3) := by decide +kernel
theorem dX0_moveOrFail_39 : decode cX0_moveOrFail 39 = .ok (.iconst 1, 1) := by decide +kernel
theorem dX0_moveOrFail_40 : decode cX0_moveOrFail 40 = .ok (.iadd, 1) := by decide +kernel
theorem dX0_moveOrFail_41 : decode cX0_moveOrFail 41 = .ok (.putfield 131, 3) := by decide +kernel
theorem dX0_moveOrFail_44 : decode cX0_moveOrFail 44 = .ok (.return_, 1) := by decide +kernel
theorem dX0_moveOrFail_45 : decode cX0_moveOrFail 45 = .ok (.aload_n 2, 1) := by decide +kernel
theorem dX0_moveOrFail_46 : decode cX0_moveOrFail 46 = .ok (.getfield 134, 3) := by decide +kernel
theorem dX0_moveOrFail_49 : decode cX0_moveOrFail 49 = .ok (.aload_n 1, 1) := by decide +kernel
theorem dX0_moveOrFail_50 : decode cX0_moveOrFail 50 = .ok (.getfield 137, 3) := by decide +kernel
theorem dX0_moveOrFail_53 : decode cX0_moveOrFail 53 = .ok (.aconst_null, 1) := by decide +kernel
theorem dX0_moveOrFail_54 : decode cX0_moveOrFail 54 = .ok (.aastore, 1) := by decide +kernel
theorem dX0_moveOrFail_55 : decode cX0_moveOrFail 55 = .ok (.aload_n 3, 1) := by decide +kernel
theorem dX0_moveOrFail_56 : decode cX0_moveOrFail 56 = .ok (.aload_n 1, 1) := by decide +kernel
theorem dX0_moveOrFail_57 : decode cX0_moveOrFail 57 = .ok (.invokevirtual 140, 3) := by decide +kernel
theorem dX0_moveOrFail_60 : decode cX0_moveOrFail 60 = .ok (.aload_n 0, 1) := by decide +kernel
theorem dX0_moveOrFail_61 : decode cX0_moveOrFail 61 = .ok (.dup, 1) := by decide +kernel
theorem dX0_moveOrFail_62 : decode cX0_moveOrFail 62 = .ok (.getfield 141, 3) := by decide +kernel
theorem dX0_moveOrFail_65 : decode cX0_moveOrFail 65 = .ok (.iconst 1, 1) := by decide +kernel
theorem dX0_moveOrFail_66 : decode cX0_moveOrFail 66 = .ok (.iadd, 1) := by decide +kernel
theorem dX0_moveOrFail_67 : decode cX0_moveOrFail 67 = .ok (.putfield 141, 3) := by decide +kernel
theorem dX0_moveOrFail_70 : decode cX0_moveOrFail 70 = .ok (.return_, 1) := by decide +kernel
theorem dX0_updateNext_0 : decode cX0_updateNext 0 = .ok (.aload_n 0, 1) := by decide +kernel
theorem dX0_updateNext_1 : decode cX0_updateNext 1 = .ok (.dup, 1) := by decide +kernel
theorem dX0_updateNext_2 : decode cX0_updateNext 2 = .ok (.getfield 109, 3) := by decide +kernel
theorem dX0_updateNext_5 : decode cX0_updateNext 5 = .ok (.iconst 1, 1) := by decide +kernel
theorem dX0_updateNext_6 : decode cX0_updateNext 6 = .ok (.iadd, 1) := by decide +kernel
theorem dX0_updateNext_7 : decode cX0_updateNext 7 = .ok (.putfield 109, 3) := by decide +kernel
theorem dX0_updateNext_10 : decode cX0_updateNext 10 = .ok (.aload_n 0, 1) := by decide +kernel
theorem dX0_updateNext_11 : decode cX0_updateNext 11 = .ok (.getfield 109, 3) := by decide +kernel
theorem dX0_updateNext_14 : decode cX0_updateNext 14 = .ok (.aload_n 0, 1) := by decide +kernel
theorem dX0_updateNext_15 : decode cX0_updateNext 15 = .ok (.getfield 14, 3) := by decide +kernel
theorem dX0_updateNext_18 : decode cX0_updateNext 18 = .ok (.getfield 86, 3) := by decide +kernel
theorem dX0_updateNext_21 : decode cX0_updateNext 21 = .ok (.arraylength, 1) := by decide +kernel
theorem dX0_updateNext_22 : decode cX0_updateNext 22 = .ok (.if_icmp .lt 7, 3) := by decide +kernel
theorem dX0_updateNext_25 : decode cX0_updateNext 25 = .ok (.aload_n 0, 1) := by decide +kernel
theorem dX0_updateNext_26 : decode cX0_updateNext 26 = .ok (.invokevirtual 144, 3) := by decide +kernel
theorem dX0_updateNext_29 : decode cX0_updateNext 29 = .ok (.return_, 1) := by decide +kernel
theorem dX0_endCycle_0 : decode cX0_endCycle 0 = .ok (.aload_n 0, 1) := by decide +kernel
theorem dX0_endCycle_1 : decode cX0_endCycle 1 = .ok (.getfield 14, 3) := by decide +kernel
theorem dX0_endCycle_4 : decode cX0_endCycle 4 = .ok (.getfield 86, 3) := by decide +kernel
theorem dX0_endCycle_7 : decode cX0_endCycle 7 = .ok (.astore_n 1, 1) := by decide +kernel
theorem dX0_endCycle_8 : decode cX0_endCycle 8 = .ok (.aload_n 1, 1) := by decide +kernel
theorem dX0_endCycle_9 : decode cX0_endCycle 9 = .ok (.arraylength, 1) := by decide +kernel
theorem dX0_endCycle_10 : decode cX0_endCycle 10 = .ok (.istore_n 2, 1) := by decide +kernel
theorem dX0_endCycle_11 : decode cX0_endCycle 11 = .ok (.iconst 0, 1) := by decide +kernel
theorem dX0_endCycle_12 : decode cX0_endCycle 12 = .ok (.istore_n 3, 1) := by decide +kernel
theorem dX0_endCycle_13 : decode cX0_endCycle 13 = .ok (.iload_n 3, 1) := by decide +kernel
theorem dX0_endCycle_14 : decode cX0_endCycle 14 = .ok (.iload_n 2, 1) := by decide +kernel
theorem dX0_endCycle_15 : decode cX0_endCycle 15 = .ok (.if_icmp .ge 28, 3) := by decide +kernel
theorem dX0_endCycle_18 : decode cX0_endCycle 18 = .ok (.aload_n 1, 1) := by decide +kernel
theorem dX0_endCycle_19 : decode cX0_endCycle 19 = .ok (.iload_n 3, 1) := by decide +kernel
theorem dX0_endCycle_20 : decode cX0_endCycle 20 = .ok (.aaload, 1) := by decide +kernel
theorem dX0_endCycle_21 : decode cX0_endCycle 21 = .ok (.astore 4, 2) := by decide +kernel
theorem dX0_endCycle_23 : decode cX0_endCycle 23 = .ok (.aload 4, 2) := by decide +kernel
theorem dX0_endCycle_25 : decode cX0_endCycle 25 = .ok (.getfield 90, 3) := by decide +kernel
theorem dX0_endCycle_28 : decode cX0_endCycle 28 = .ok (.iconst 4, 1) := by decide +kernel
theorem dX0_endCycle_29 : decode cX0_endCycle 29 = .ok (.if_icmp .ne 8, 3) := by decide +kernel
theorem dX0_endCycle_32 : decode cX0_endCycle 32 = .ok (.aload 4, 2) := by decide +kernel
theorem dX0_endCycle_34 : decode cX0_endCycle 34 = .ok (.invokevirtual 147, 3) := by decide +kernel
theorem dX0_endCycle_37 : decode cX0_endCycle 37 = .ok (.iinc 3 1, 3) := by decide +kernel
theorem dX0_endCycle_40 : decode cX0_endCycle 40 = .ok (.goto (-27), 3) := by decide +kernel
theorem dX0_endCycle_43 : decode cX0_endCycle 43 = .ok (.aload_n 0, 1) := by decide +kernel
theorem dX0_endCycle_44 : decode cX0_endCycle 44 = .ok (.getfield 14, 3) := by decide +kernel
theorem dX0_endCycle_47 : decode cX0_endCycle 47 = .ok (.invokevirtual 150, 3) := by decide +kernel
theorem dX0_endCycle_50 : decode cX0_endCycle 50 = .ok (.aload_n 0, 1) := by decide +kernel
theorem dX0_endCycle_51 : decode cX0_endCycle 51 = .ok (.iconst 0, 1) := by decide +kernel
theorem dX0_endCycle_52 : decode cX0_endCycle 52 = .ok (.putfield 31, 3) := by decide +kernel
theorem dX0_endCycle_55 : decode cX0_endCycle 55 = .ok (.return_, 1) := by decide +kernel
theorem dX1_init_0 : decode cX1_init 0 = .ok (.aload_n 0, 1) := by decide +kernel
theorem dX1_init_1 : decode cX1_init 1 = .ok (.invokespecial 3, 3) := by decide +kernel
theorem dX1_init_4 : decode cX1_init 4 = .ok (.aload_n 0, 1) := by decide +kernel
theorem dX1_init_5 : decode cX1_init 5 = .ok (.aload_n 1, 1) := by decide +kernel
theorem dX1_init_6 : decode cX1_init 6 = .ok (.putfield 9, 3) := by decide +kernel
theorem dX1_init_9 : decode cX1_init 9 = .ok (.aload_n 0, 1) := by decide +kernel
theorem dX1_init_10 : decode cX1_init 10 = .ok (.iload_n 3, 1) := by decide +kernel
theorem dX1_init_11 : decode cX1_init 11 = .ok (.putfield 15, 3) := by decide +kernel
theorem dX1_init_14 : decode cX1_init 14 = .ok (.aload_n 0, 1) := by decide +kernel
theorem dX1_init_15 : decode cX1_init 15 = .ok (.iload_n 2, 1) := by decide +kernel
theorem dX1_init_16 : decode cX1_init 16 = .ok (.anewarray 10, 3) := by decide +kernel
theorem dX1_init_19 : decode cX1_init 19 = .ok (.putfield 19, 3) := by decide +kernel
theorem dX1_init_22 : decode cX1_init 22 = .ok (.aload_n 0, 1) := by decide +kernel
theorem dX1_init_23 : decode cX1_init 23 = .ok (.iconst (-1), 1) := by decide +kernel
theorem dX1_init_24 : decode cX1_init 24 = .ok (.putfield 23, 3) := by decide +kernel
theorem dX1_init_27 : decode cX1_init 27 = .ok (.aload_n 0, 1) := by decide +kernel
theorem dX1_init_28 : decode cX1_init 28 = .ok (.iconst (-1), 1) := by decide +kernel
theorem dX1_init_29 : decode cX1_init 29 = .ok (.putfield 26, 3) := by decide +kernel
theorem dX1_init_32 : decode cX1_init 32 = .ok (.return_, 1) := by decide +kernel
theorem dX1_words_0 : decode cX1_words 0 = .ok (.aload_n 0, 1) := by decide +kernel
theorem dX1_words_1 : decode cX1_words 1 = .ok (.getfield 19, 3) := by decide +kernel
theorem dX1_words_4 : decode cX1_words 4 = .ok (.arraylength, 1) := by decide +kernel
theorem dX1_words_5 : decode cX1_words 5 = .ok (.iconst 2, 1) := by decide +kernel
theorem dX1_words_6 : decode cX1_words 6 = .ok (.iadd, 1) := by decide +kernel
theorem dX1_words_7 : decode cX1_words 7 = .ok (.ireturn, 1) := by decide +kernel
theorem dX2_init_0 : decode cX2_init 0 = .ok (.aload_n 0, 1) := by decide +kernel
theorem dX2_init_1 : decode cX2_init 1 = .ok (.invokespecial 3, 3) := by decide +kernel
theorem dX2_init_4 : decode cX2_init 4 = .ok (.aload_n 0, 1) := by decide +kernel
theorem dX2_init_5 : decode cX2_init 5 = .ok (.bipush 10, 2) := by decide +kernel
theorem dX2_init_7 : decode cX2_init 7 = .ok (.anewarray 9, 3) := by decide +kernel
theorem dX2_init_10 : decode cX2_init 10 = .ok (.putfield 11, 3) := by decide +kernel
theorem dX2_init_13 : decode cX2_init 13 = .ok (.aload_n 0, 1) := by decide +kernel
theorem dX2_init_14 : decode cX2_init 14 = .ok (.iload_n 1, 1) := by decide +kernel
theorem dX2_init_15 : decode cX2_init 15 = .ok (.anewarray 17, 3) := by decide +kernel
theorem dX2_init_18 : decode cX2_init 18 = .ok (.putfield 19, 3) := by decide +kernel
theorem dX2_init_21 : decode cX2_init 21 = .ok (.iconst 0, 1) := by decide +kernel
theorem dX2_init_22 : decode cX2_init 22 = .ok (.istore_n 2, 1) := by decide +kernel
theorem dX2_init_23 : decode cX2_init 23 = .ok (.iload_n 2, 1) := by decide +kernel
theorem dX2_init_24 : decode cX2_init 24 = .ok (.iload_n 1, 1) := by decide +kernel
theorem dX2_init_25 : decode cX2_init 25 = .ok (.if_icmp .ge 23, 3) := by decide +kernel
theorem dX2_init_28 : decode cX2_init 28 = .ok (.aload_n 0, 1) := by decide +kernel
theorem dX2_init_29 : decode cX2_init 29 = .ok (.getfield 19, 3) := by decide +kernel
theorem dX2_init_32 : decode cX2_init 32 = .ok (.iload_n 2, 1) := by decide +kernel
theorem dX2_init_33 : decode cX2_init 33 = .ok (.new 17, 3) := by decide +kernel
theorem dX2_init_36 : decode cX2_init 36 = .ok (.dup, 1) := by decide +kernel
theorem dX2_init_37 : decode cX2_init 37 = .ok (.iload_n 2, 1) := by decide +kernel
theorem dX2_init_38 : decode cX2_init 38 = .ok (.invokespecial 23, 3) := by decide +kernel
theorem dX2_init_41 : decode cX2_init 41 = .ok (.aastore, 1) := by decide +kernel
theorem dX2_init_42 : decode cX2_init 42 = .ok (.iinc 2 1, 3) := by decide +kernel
theorem dX2_init_45 : decode cX2_init 45 = .ok (.goto (-22), 3) := by decide +kernel
theorem dX2_init_48 : decode cX2_init 48 = .ok (.return_, 1) := by decide +kernel
theorem dX2_leastFree_0 : decode cX2_leastFree 0 = .ok (.aload_n 0, 1) := by decide +kernel
theorem dX2_leastFree_1 : decode cX2_leastFree 1 = .ok (.getfield 19, 3) := by decide +kernel
theorem dX2_leastFree_4 : decode cX2_leastFree 4 = .ok (.astore_n 1, 1) := by decide +kernel
theorem dX2_leastFree_5 : decode cX2_leastFree 5 = .ok (.aload_n 1, 1) := by decide +kernel
theorem dX2_leastFree_6 : decode cX2_leastFree 6 = .ok (.arraylength, 1) := by decide +kernel
theorem dX2_leastFree_7 : decode cX2_leastFree 7 = .ok (.istore_n 2, 1) := by decide +kernel
theorem dX2_leastFree_8 : decode cX2_leastFree 8 = .ok (.iconst 0, 1) := by decide +kernel
theorem dX2_leastFree_9 : decode cX2_leastFree 9 = .ok (.istore_n 3, 1) := by decide +kernel
theorem dX2_leastFree_10 : decode cX2_leastFree 10 = .ok (.iload_n 3, 1) := by decide +kernel
theorem dX2_leastFree_11 : decode cX2_leastFree 11 = .ok (.iload_n 2, 1) := by decide +kernel
theorem dX2_leastFree_12 : decode cX2_leastFree 12 = .ok (.if_icmp .ge 25, 3) := by decide +kernel
theorem dX2_leastFree_15 : decode cX2_leastFree 15 = .ok (.aload_n 1, 1) := by decide +kernel
theorem dX2_leastFree_16 : decode cX2_leastFree 16 = .ok (.iload_n 3, 1) := by decide +kernel
theorem dX2_leastFree_17 : decode cX2_leastFree 17 = .ok (.aaload, 1) := by decide +kernel
theorem dX2_leastFree_18 : decode cX2_leastFree 18 = .ok (.astore 4, 2) := by decide +kernel
theorem dX2_leastFree_20 : decode cX2_leastFree 20 = .ok (.aload 4, 2) := by decide +kernel
theorem dX2_leastFree_22 : decode cX2_leastFree 22 = .ok (.getfield 26, 3) := by decide +kernel
theorem dX2_leastFree_25 : decode cX2_leastFree 25 = .ok (.ifCond .ne 6, 3) := by decide +kernel
theorem dX2_leastFree_28 : decode cX2_leastFree 28 = .ok (.aload 4, 2) := by decide +kernel
theorem dX2_leastFree_30 : decode cX2_leastFree 30 = .ok (.areturn, 1) := by decide +kernel
theorem dX2_leastFree_31 : decode cX2_leastFree 31 = .ok (.iinc 3 1, 3) := by decide +kernel
theorem dX2_leastFree_34 : decode cX2_leastFree 34 = .ok (.goto (-24), 3) := by decide +kernel
theorem dX2_leastFree_37 : decode cX2_leastFree 37 = .ok (.aconst_null, 1) := by decide +kernel
theorem dX2_leastFree_38 : decode cX2_leastFree 38 = .ok (.areturn, 1) := by decide +kernel
theorem dX2_countFree_0 : decode cX2_countFree 0 = .ok (.iconst 0, 1) := by decide +kernel
theorem dX2_countFree_1 : decode cX2_countFree 1 = .ok (.istore_n 1, 1) := by decide +kernel
theorem dX2_countFree_2 : decode cX2_countFree 2 = .ok (.aload_n 0, 1) := by decide +kernel
theorem dX2_countFree_3 : decode cX2_countFree 3 = .ok (.getfield 19, 3) := by decide +kernel
theorem dX2_countFree_6 : decode cX2_countFree 6 = .ok (.astore_n 2, 1) := by decide +kernel
theorem dX2_countFree_7 : decode cX2_countFree 7 = .ok (.aload_n 2, 1) := by decide +kernel
theorem dX2_countFree_8 : decode cX2_countFree 8 = .ok (.arraylength, 1) := by decide +kernel
theorem dX2_countFree_9 : decode cX2_countFree 9 = .ok (.istore_n 3, 1) := by decide +kernel
theorem dX2_countFree_10 : decode cX2_countFree 10 = .ok (.iconst 0, 1) := by decide +kernel
theorem dX2_countFree_11 : decode cX2_countFree 11 = .ok (.istore 4, 2) := by decide +kernel
theorem dX2_countFree_13 : decode cX2_countFree 13 = .ok (.iload 4, 2) := by decide +kernel
theorem dX2_countFree_15 : decode cX2_countFree 15 = .ok (.iload_n 3, 1) := by decide +kernel
theorem dX2_countFree_16 : decode cX2_countFree 16 = .ok (.if_icmp .ge 26, 3) := by decide +kernel
theorem dX2_countFree_19 : decode cX2_countFree 19 = .ok (.aload_n 2, 1) := by decide +kernel
theorem dX2_countFree_20 : decode cX2_countFree 20 = .ok (.iload 4, 2) := by decide +kernel
theorem dX2_countFree_22 : decode cX2_countFree 22 = .ok (.aaload, 1) := by decide +kernel
theorem dX2_countFree_23 : decode cX2_countFree 23 = .ok (.astore 5, 2) := by decide +kernel
theorem dX2_countFree_25 : decode cX2_countFree 25 = .ok (.aload 5, 2) := by decide +kernel
theorem dX2_countFree_27 : decode cX2_countFree 27 = .ok (.getfield 26, 3) := by decide +kernel
theorem dX2_countFree_30 : decode cX2_countFree 30 = .ok (.ifCond .ne 6, 3) := by decide +kernel
theorem dX2_countFree_33 : decode cX2_countFree 33 = .ok (.iinc 1 1, 3) := by decide +kernel
theorem dX2_countFree_36 : decode cX2_countFree 36 = .ok (.iinc 4 1, 3) := by decide +kernel
theorem dX2_countFree_39 : decode cX2_countFree 39 = .ok (.goto (-26), 3) := by decide +kernel
theorem dX2_countFree_42 : decode cX2_countFree 42 = .ok (.iload_n 1, 1) := by decide +kernel
theorem dX2_countFree_43 : decode cX2_countFree 43 = .ok (.ireturn, 1) := by decide +kernel
theorem dX2_activeWithRoom_0 : decode cX2_activeWithRoom 0 = .ok (.aload_n 0, 1) := by decide +kernel
theorem dX2_activeWithRoom_1 : decode cX2_activeWithRoom 1 = .ok (.getfield 30, 3) := by decide +kernel
theorem dX2_activeWithRoom_4 : decode cX2_activeWithRoom 4 = .ok (.ifnull 27, 3) := by decide +kernel
theorem dX2_activeWithRoom_7 : decode cX2_activeWithRoom 7 = .ok (.aload_n 0, 1) := by decide +kernel
theorem dX2_activeWithRoom_8 : decode cX2_activeWithRoom 8 = .ok (.getfield 30, 3) := by decide +kernel
theorem dX2_activeWithRoom_11 : decode cX2_activeWithRoom 11 = .ok (.iload_n 1, 1) := by decide +kernel
theorem dX2_activeWithRoom_12 : decode cX2_activeWithRoom 12 = .ok (.invokevirtual 34, 3) := by decide +kernel
theorem dX2_activeWithRoom_15 : decode cX2_activeWithRoom 15 = .ok (.ifCond .ne 16, 3) := by decide +kernel
theorem dX2_activeWithRoom_18 : decode cX2_activeWithRoom 18 = .ok (.aload_n 0, 1) := by decide +kernel
theorem dX2_activeWithRoom_19 : decode cX2_activeWithRoom 19 = .ok (.getfield 30, 3) := by decide +kernel
theorem dX2_activeWithRoom_22 : decode cX2_activeWithRoom 22 = .ok (.iconst 3, 1) := by decide +kernel
theorem dX2_activeWithRoom_23 : decode cX2_activeWithRoom 23 = .ok (.putfield 26, 3) := by decide +kernel
theorem dX2_activeWithRoom_26 : decode cX2_activeWithRoom 26 = .ok (.aload_n 0, 1) := by decide +kernel
theorem dX2_activeWithRoom_27 : decode cX2_activeWithRoom 27 = .ok (.aconst_null, 1) := by decide +kernel
theorem dX2_activeWithRoom_28 : decode cX2_activeWithRoom 28 = .ok (.putfield 30, 3) := by decide +kernel
theorem dX2_activeWithRoom_31 : decode cX2_activeWithRoom 31 = .ok (.aload_n 0, 1) := by decide +kernel
theorem dX2_activeWithRoom_32 : decode cX2_activeWithRoom 32 = .ok (.getfield 30, 3) := by decide +kernel
theorem dX2_activeWithRoom_35 : decode cX2_activeWithRoom 35 = .ok (.ifnonnull 26, 3) := by decide +kernel
theorem dX2_activeWithRoom_38 : decode cX2_activeWithRoom 38 = .ok (.aload_n 0, 1) := by decide +kernel
theorem dX2_activeWithRoom_39 : decode cX2_activeWithRoom 39 = .ok (.aload_n 0, 1) := by decide +kernel
theorem dX2_activeWithRoom_40 : decode cX2_activeWithRoom 40 = .ok (.invokevirtual 38, 3) := by decide +kernel
theorem dX2_activeWithRoom_43 : decode cX2_activeWithRoom 43 = .ok (.putfield 30, 3) := by decide +kernel
theorem dX2_activeWithRoom_46 : decode cX2_activeWithRoom 46 = .ok (.aload_n 0, 1) := by decide +kernel
theorem dX2_activeWithRoom_47 : decode cX2_activeWithRoom 47 = .ok (.getfield 30, 3) := by decide +kernel
theorem dX2_activeWithRoom_50 : decode cX2_activeWithRoom 50 = .ok (.ifnull 11, 3) := by decide +kernel
theorem dX2_activeWithRoom_53 : decode cX2_activeWithRoom 53 = .ok (.aload_n 0, 1) := by decide +kernel
theorem dX2_activeWithRoom_54 : decode cX2_activeWithRoom 54 = .ok (.getfield 30, 3) := by decide +kernel
theorem dX2_activeWithRoom_57 : decode cX2_activeWithRoom 57 = .ok (.iconst 1, 1) := by decide +kernel
theorem dX2_activeWithRoom_58 : decode cX2_activeWithRoom 58 = .ok (.putfield 26, 3) := by decide +kernel
theorem dX2_activeWithRoom_61 : decode cX2_activeWithRoom 61 = .ok (.aload_n 0, 1) := by decide +kernel
theorem dX2_activeWithRoom_62 : decode cX2_activeWithRoom 62 = .ok (.getfield 30, 3) := by decide +kernel
theorem dX2_activeWithRoom_65 : decode cX2_activeWithRoom 65 = .ok (.areturn, 1) := by decide +kernel
theorem dX2_targetWithRoom_0 : decode cX2_targetWithRoom 0 = .ok (.aload_n 0, 1) := by decide +kernel
theorem dX2_targetWithRoom_1 : decode cX2_targetWithRoom 1 = .ok (.getfield 42, 3) := by decide +kernel
theorem dX2_targetWithRoom_4 : decode cX2_targetWithRoom 4 = .ok (.ifnull 19, 3) := by decide +kernel
theorem dX2_targetWithRoom_7 : decode cX2_targetWithRoom 7 = .ok (.aload_n 0, 1) := by decide +kernel
theorem dX2_targetWithRoom_8 : decode cX2_targetWithRoom 8 = .ok (.getfield 42, 3) := by decide +kernel
theorem dX2_targetWithRoom_11 : decode cX2_targetWithRoom 11 = .ok (.iload_n 1, 1) := by decide +kernel
theorem dX2_targetWithRoom_12 : decode cX2_targetWithRoom 12 = .ok (.invokevirtual 34, 3) := by decide +kernel
theorem dX2_targetWithRoom_15 : decode cX2_targetWithRoom 15 = .ok (.ifCond .eq 8, 3) := by decide +kernel
theorem dX2_targetWithRoom_18 : decode cX2_targetWithRoom 18 = .ok (.aload_n 0, 1) := by decide +kernel
theorem dX2_targetWithRoom_19 : decode cX2_targetWithRoom 19 = .ok (.getfield 42, 3) := by decide +kernel
theorem dX2_targetWithRoom_22 : decode cX2_targetWithRoom 22 = .ok (.areturn, 1) := by decide +kernel
theorem dX2_targetWithRoom_23 : decode cX2_targetWithRoom 23 = .ok (.aload_n 0, 1) := by decide +kernel
theorem dX2_targetWithRoom_24 : decode cX2_targetWithRoom 24 = .ok (.invokevirtual 38, 3) := by decide +kernel
theorem dX2_targetWithRoom_27 : decode cX2_targetWithRoom 27 = .ok (.astore_n 2, 1) := by decide +kernel
theorem dX2_targetWithRoom_28 : decode cX2_targetWithRoom 28 = .ok (.aload_n 2, 1) := by decide +kernel
theorem dX2_targetWithRoom_29 : decode cX2_targetWithRoom 29 = .ok (.ifnull 17, 3) := by decide +kernel
theorem dX2_targetWithRoom_32 : decode cX2_targetWithRoom 32 = .ok (.aload_n 0, 1) := by decide +kernel
theorem dX2_targetWithRoom_33 : decode cX2_targetWithRoom 33 = .ok (.invokevirtual 45, 3) := by decide +kernel
theorem dX2_targetWithRoom_36 : decode cX2_targetWithRoom 36 = .ok (.aload_n 2, 1) := by decide +kernel
theorem dX2_targetWithRoom_37 : decode cX2_targetWithRoom 37 = .ok (.iconst 2, 1) := by decide +kernel
theorem dX2_targetWithRoom_38 : decode cX2_targetWithRoom 38 = .ok (.putfield 26, 3) := by decide +kernel
theorem dX2_targetWithRoom_41 : decode cX2_targetWithRoom 41 = .ok (.aload_n 0, 1) := by decide +kernel
theorem dX2_targetWithRoom_42 : decode cX2_targetWithRoom 42 = .ok (.aload_n 2, 1) := by decide +kernel
theorem dX2_targetWithRoom_43 : decode cX2_targetWithRoom 43 = .ok (.putfield 42, 3) := by decide +kernel
theorem dX2_targetWithRoom_46 : decode cX2_targetWithRoom 46 = .ok (.aload_n 2, 1) := by decide +kernel
theorem dX2_targetWithRoom_47 : decode cX2_targetWithRoom 47 = .ok (.areturn, 1) := by decide +kernel
theorem dX2_closeTarget_0 : decode cX2_closeTarget 0 = .ok (.aload_n 0, 1) := by decide +kernel
theorem dX2_closeTarget_1 : decode cX2_closeTarget 1 = .ok (.getfield 42, 3) := by decide +kernel
theorem dX2_closeTarget_4 : decode cX2_closeTarget 4 = .ok (.ifnull 16, 3) := by decide +kernel
theorem dX2_closeTarget_7 : decode cX2_closeTarget 7 = .ok (.aload_n 0, 1) := by decide +kernel
theorem dX2_closeTarget_8 : decode cX2_closeTarget 8 = .ok (.getfield 42, 3) := by decide +kernel
theorem dX2_closeTarget_11 : decode cX2_closeTarget 11 = .ok (.iconst 3, 1) := by decide +kernel
theorem dX2_closeTarget_12 : decode cX2_closeTarget 12 = .ok (.putfield 26, 3) := by decide +kernel
theorem dX2_closeTarget_15 : decode cX2_closeTarget 15 = .ok (.aload_n 0, 1) := by decide +kernel
theorem dX2_closeTarget_16 : decode cX2_closeTarget 16 = .ok (.aconst_null, 1) := by decide +kernel
theorem dX2_closeTarget_17 : decode cX2_closeTarget 17 = .ok (.putfield 42, 3) := by decide +kernel
theorem dX2_closeTarget_20 : decode cX2_closeTarget 20 = .ok (.return_, 1) := by decide +kernel
theorem dX3_init_0 : decode cX3_init 0 = .ok (.aload_n 0, 1) := by decide +kernel
theorem dX3_init_1 : decode cX3_init 1 = .ok (.invokespecial 3, 3) := by decide +kernel
theorem dX3_init_4 : decode cX3_init 4 = .ok (.aload_n 0, 1) := by decide +kernel
theorem dX3_init_5 : decode cX3_init 5 = .ok (.iload_n 1, 1) := by decide +kernel
theorem dX3_init_6 : decode cX3_init 6 = .ok (.putfield 9, 3) := by decide +kernel
theorem dX3_init_9 : decode cX3_init 9 = .ok (.aload_n 0, 1) := by decide +kernel
theorem dX3_init_10 : decode cX3_init 10 = .ok (.sipush 128, 3) := by decide +kernel
theorem dX3_init_13 : decode cX3_init 13 = .ok (.anewarray 15, 3) := by decide +kernel
theorem dX3_init_16 : decode cX3_init 16 = .ok (.putfield 17, 3) := by decide +kernel
theorem dX3_init_19 : decode cX3_init 19 = .ok (.aload_n 0, 1) := by decide +kernel
theorem dX3_init_20 : decode cX3_init 20 = .ok (.iconst 0, 1) := by decide +kernel
theorem dX3_init_21 : decode cX3_init 21 = .ok (.putfield 21, 3) := by decide +kernel
theorem dX3_init_24 : decode cX3_init 24 = .ok (.return_, 1) := by decide +kernel
theorem dX3_hasRoom_0 : decode cX3_hasRoom 0 = .ok (.aload_n 0, 1) := by decide +kernel
theorem dX3_hasRoom_1 : decode cX3_hasRoom 1 = .ok (.getfield 24, 3) := by decide +kernel
theorem dX3_hasRoom_4 : decode cX3_hasRoom 4 = .ok (.iload_n 1, 1) := by decide +kernel
theorem dX3_hasRoom_5 : decode cX3_hasRoom 5 = .ok (.iadd, 1) := by decide +kernel
theorem dX3_hasRoom_6 : decode cX3_hasRoom 6 = .ok (.sipush 128, 3) := by decide +kernel
theorem dX3_hasRoom_9 : decode cX3_hasRoom 9 = .ok (.if_icmp .gt 7, 3) := by decide +kernel
theorem dX3_hasRoom_12 : decode cX3_hasRoom 12 = .ok (.iconst 1, 1) := by decide +kernel
theorem dX3_hasRoom_13 : decode cX3_hasRoom 13 = .ok (.goto 4, 3) := by decide +kernel
theorem dX3_hasRoom_16 : decode cX3_hasRoom 16 = .ok (.iconst 0, 1) := by decide +kernel
theorem dX3_hasRoom_17 : decode cX3_hasRoom 17 = .ok (.ireturn, 1) := by decide +kernel
theorem dX3_append_0 : decode cX3_append 0 = .ok (.aload_n 1, 1) := by decide +kernel
theorem dX3_append_1 : decode cX3_append 1 = .ok (.aload_n 0, 1) := by decide +kernel
theorem dX3_append_2 : decode cX3_append 2 = .ok (.putfield 27, 3) := by decide +kernel
theorem dX3_append_5 : decode cX3_append 5 = .ok (.aload_n 1, 1) := by decide +kernel
theorem dX3_append_6 : decode cX3_append 6 = .ok (.aload_n 0, 1) := by decide +kernel
theorem dX3_append_7 : decode cX3_append 7 = .ok (.getfield 24, 3) := by decide +kernel
theorem dX3_append_10 : decode cX3_append 10 = .ok (.putfield 31, 3) := by decide +kernel
theorem dX3_append_13 : decode cX3_append 13 = .ok (.aload_n 0, 1) := by decide +kernel
theorem dX3_append_14 : decode cX3_append 14 = .ok (.getfield 17, 3) := by decide +kernel
theorem dX3_append_17 : decode cX3_append 17 = .ok (.aload_n 0, 1) := by decide +kernel
theorem dX3_append_18 : decode cX3_append 18 = .ok (.getfield 24, 3) := by decide +kernel
theorem dX3_append_21 : decode cX3_append 21 = .ok (.aload_n 1, 1) := by decide +kernel
theorem dX3_append_22 : decode cX3_append 22 = .ok (.aastore, 1) := by decide +kernel
theorem dX3_append_23 : decode cX3_append 23 = .ok (.aload_n 0, 1) := by decide +kernel
theorem dX3_append_24 : decode cX3_append 24 = .ok (.dup, 1) := by decide +kernel
theorem dX3_append_25 : decode cX3_append 25 = .ok (.getfield 24, 3) := by decide +kernel
theorem dX3_append_28 : decode cX3_append 28 = .ok (.aload_n 1, 1) := by decide +kernel
theorem dX3_append_29 : decode cX3_append 29 = .ok (.invokevirtual 34, 3) := by decide +kernel
theorem dX3_append_32 : decode cX3_append 32 = .ok (.iadd, 1) := by decide +kernel
theorem dX3_append_33 : decode cX3_append 33 = .ok (.putfield 24, 3) := by decide +kernel
theorem dX3_append_36 : decode cX3_append 36 = .ok (.return_, 1) := by decide +kernel
theorem dX3_seenWords_0 : decode cX3_seenWords 0 = .ok (.iconst 0, 1) := by decide +kernel
theorem dX3_seenWords_1 : decode cX3_seenWords 1 = .ok (.istore_n 2, 1) := by decide +kernel
theorem dX3_seenWords_2 : decode cX3_seenWords 2 = .ok (.iconst 0, 1) := by decide +kernel
theorem dX3_seenWords_3 : decode cX3_seenWords 3 = .ok (.istore_n 3, 1) := by decide +kernel
theorem dX3_seenWords_4 : decode cX3_seenWords 4 = .ok (.iload_n 3, 1) := by decide +kernel
theorem dX3_seenWords_5 : decode cX3_seenWords 5 = .ok (.aload_n 0, 1) := by decide +kernel
theorem dX3_seenWords_6 : decode cX3_seenWords 6 = .ok (.getfield 24, 3) := by decide +kernel
theorem dX3_seenWords_9 : decode cX3_seenWords 9 = .ok (.if_icmp .ge 39, 3) := by decide +kernel
theorem dX3_seenWords_12 : decode cX3_seenWords 12 = .ok (.aload_n 0, 1) := by decide +kernel
theorem dX3_seenWords_13 : decode cX3_seenWords 13 = .ok (.getfield 17, 3) := by decide +kernel
theorem dX3_seenWords_16 : decode cX3_seenWords 16 = .ok (.iload_n 3, 1) := by decide +kernel
theorem dX3_seenWords_17 : decode cX3_seenWords 17 = .ok (.aaload, 1) := by decide +kernel
theorem dX3_seenWords_18 : decode cX3_seenWords 18 = .ok (.astore 4, 2) := by decide +kernel
theorem dX3_seenWords_20 : decode cX3_seenWords 20 = .ok (.aload 4, 2) := by decide +kernel
theorem dX3_seenWords_22 : decode cX3_seenWords 22 = .ok (.ifnull 20, 3) := by decide +kernel
theorem dX3_seenWords_25 : decode cX3_seenWords 25 = .ok (.aload 4, 2) := by decide +kernel
theorem dX3_seenWords_27 : decode cX3_seenWords 27 = .ok (.getfield 38, 3) := by decide +kernel
theorem dX3_seenWords_30 : decode cX3_seenWords 30 = .ok (.iload_n 1, 1) := by decide +kernel
theorem dX3_seenWords_31 : decode cX3_seenWords 31 = .ok (.if_icmp .ne 11, 3) := by decide +kernel
theorem dX3_seenWords_34 : decode cX3_seenWords 34 = .ok (.iload_n 2, 1) := by decide +kernel
theorem dX3_seenWords_35 : decode cX3_seenWords 35 = .ok (.aload 4, 2) := by decide +kernel
theorem dX3_seenWords_37 : decode cX3_seenWords 37 = .ok (.invokevirtual 34, 3) := by decide +kernel
theorem dX3_seenWords_40 : decode cX3_seenWords 40 = .ok (.iadd, 1) := by decide +kernel
theorem dX3_seenWords_41 : decode cX3_seenWords 41 = .ok (.istore_n 2, 1) := by decide +kernel
theorem dX3_seenWords_42 : decode cX3_seenWords 42 = .ok (.iinc 3 1, 3) := by decide +kernel
theorem dX3_seenWords_45 : decode cX3_seenWords 45 = .ok (.goto (-41), 3) := by decide +kernel
theorem dX3_seenWords_48 : decode cX3_seenWords 48 = .ok (.iload_n 2, 1) := by decide +kernel
theorem dX3_seenWords_49 : decode cX3_seenWords 49 = .ok (.ireturn, 1) := by decide +kernel
theorem dX3_enterSet_0 : decode cX3_enterSet 0 = .ok (.aload_n 0, 1) := by decide +kernel
theorem dX3_enterSet_1 : decode cX3_enterSet 1 = .ok (.iconst 4, 1) := by decide +kernel
theorem dX3_enterSet_2 : decode cX3_enterSet 2 = .ok (.putfield 21, 3) := by decide +kernel
theorem dX3_enterSet_5 : decode cX3_enterSet 5 = .ok (.aload_n 0, 1) := by decide +kernel
theorem dX3_enterSet_6 : decode cX3_enterSet 6 = .ok (.iconst 0, 1) := by decide +kernel
theorem dX3_enterSet_7 : decode cX3_enterSet 7 = .ok (.putfield 41, 3) := by decide +kernel
theorem dX3_enterSet_10 : decode cX3_enterSet 10 = .ok (.aload_n 0, 1) := by decide +kernel
theorem dX3_enterSet_11 : decode cX3_enterSet 11 = .ok (.iconst 0, 1) := by decide +kernel
theorem dX3_enterSet_12 : decode cX3_enterSet 12 = .ok (.putfield 44, 3) := by decide +kernel
theorem dX3_enterSet_15 : decode cX3_enterSet 15 = .ok (.return_, 1) := by decide +kernel
theorem dX3_nextToMove_0 : decode cX3_nextToMove 0 = .ok (.aload_n 0, 1) := by decide +kernel
theorem dX3_nextToMove_1 : decode cX3_nextToMove 1 = .ok (.getfield 41, 3) := by decide +kernel
theorem dX3_nextToMove_4 : decode cX3_nextToMove 4 = .ok (.aload_n 0, 1) := by decide +kernel
theorem dX3_nextToMove_5 : decode cX3_nextToMove 5 = .ok (.getfield 24, 3) := by decide +kernel
theorem dX3_nextToMove_8 : decode cX3_nextToMove 8 = .ok (.if_icmp .ge 48, 3) := by decide +kernel
theorem dX3_nextToMove_11 : decode cX3_nextToMove 11 = .ok (.aload_n 0, 1) := by decide +kernel
theorem dX3_nextToMove_12 : decode cX3_nextToMove 12 = .ok (.getfield 17, 3) := by decide +kernel
theorem dX3_nextToMove_15 : decode cX3_nextToMove 15 = .ok (.aload_n 0, 1) := by decide +kernel
theorem dX3_nextToMove_16 : decode cX3_nextToMove 16 = .ok (.getfield 41, 3) := by decide +kernel
theorem dX3_nextToMove_19 : decode cX3_nextToMove 19 = .ok (.aaload, 1) := by decide +kernel
theorem dX3_nextToMove_20 : decode cX3_nextToMove 20 = .ok (.astore_n 2, 1) := by decide +kernel
theorem dX3_nextToMove_21 : decode cX3_nextToMove 21 = .ok (.aload_n 2, 1) := by decide +kernel
theorem dX3_nextToMove_22 : decode cX3_nextToMove 22 = .ok (.ifnull 21, 3) := by decide +kernel
theorem dX3_nextToMove_25 : decode cX3_nextToMove 25 = .ok (.aload_n 2, 1) := by decide +kernel
theorem dX3_nextToMove_26 : decode cX3_nextToMove 26 = .ok (.getfield 38, 3) := by decide +kernel
theorem dX3_nextToMove_29 : decode cX3_nextToMove 29 = .ok (.iload_n 1, 1) := by decide +kernel
theorem dX3_nextToMove_30 : decode cX3_nextToMove 30 = .ok (.if_icmp .ne 13, 3) := by decide +kernel
theorem dX3_nextToMove_33 : decode cX3_nextToMove 33 = .ok (.aload_n 2, 1) := by decide +kernel
theorem dX3_nextToMove_34 : decode cX3_nextToMove 34 = .ok (.getfield 48, 3) := by decide +kernel
theorem dX3_nextToMove_37 : decode cX3_nextToMove 37 = .ok (.iload_n 1, 1) := by decide +kernel
theorem dX3_nextToMove_38 : decode cX3_nextToMove 38 = .ok (.if_icmp .eq 5, 3) := by decide +kernel
theorem dX3_nextToMove_41 : decode cX3_nextToMove 41 = .ok (.aload_n 2, 1) := by decide +kernel
theorem dX3_nextToMove_42 : decode cX3_nextToMove 42 = .ok (.areturn, 1) := by decide +kernel
theorem dX3_nextToMove_43 : decode cX3_nextToMove 43 = .ok (.aload_n 0, 1) := by decide +kernel
theorem dX3_nextToMove_44 : decode cX3_nextToMove 44 = .ok (.dup, 1) := by decide +kernel
theorem dX3_nextToMove_45 : decode cX3_nextToMove 45 = .ok (.getfield 41, 3) := by decide +kernel
theorem dX3_nextToMove_48 : decode cX3_nextToMove 48 = .ok (.iconst 1, 1) := by decide +kernel
theorem dX3_nextToMove_49 : decode cX3_nextToMove 49 = .ok (.iadd, 1) := by decide +kernel
theorem dX3_nextToMove_50 : decode cX3_nextToMove 50 = .ok (.putfield 41, 3) := by decide +kernel
theorem dX3_nextToMove_53 : decode cX3_nextToMove 53 = .ok (.goto (-53), 3) := by decide +kernel
theorem dX3_nextToMove_56 : decode cX3_nextToMove 56 = .ok (.aconst_null, 1) := by decide +kernel
theorem dX3_nextToMove_57 : decode cX3_nextToMove 57 = .ok (.areturn, 1) := by decide +kernel
theorem dX3_leaveSet_0 : decode cX3_leaveSet 0 = .ok (.aload_n 0, 1) := by decide +kernel
theorem dX3_leaveSet_1 : decode cX3_leaveSet 1 = .ok (.getfield 44, 3) := by decide +kernel
theorem dX3_leaveSet_4 : decode cX3_leaveSet 4 = .ok (.ifCond .eq 9, 3) := by decide +kernel
theorem dX3_leaveSet_7 : decode cX3_leaveSet 7 = .ok (.aload_n 0, 1) := by decide +kernel
theorem dX3_leaveSet_8 : decode cX3_leaveSet 8 = .ok (.iconst 3, 1) := by decide +kernel
theorem dX3_leaveSet_9 : decode cX3_leaveSet 9 = .ok (.putfield 21, 3) := by decide +kernel
theorem dX3_leaveSet_12 : decode cX3_leaveSet 12 = .ok (.return_, 1) := by decide +kernel
theorem dX3_leaveSet_13 : decode cX3_leaveSet 13 = .ok (.iconst 0, 1) := by decide +kernel
theorem dX3_leaveSet_14 : decode cX3_leaveSet 14 = .ok (.istore_n 1, 1) := by decide +kernel
theorem dX3_leaveSet_15 : decode cX3_leaveSet 15 = .ok (.iload_n 1, 1) := by decide +kernel
theorem dX3_leaveSet_16 : decode cX3_leaveSet 16 = .ok (.aload_n 0, 1) := by decide +kernel
theorem dX3_leaveSet_17 : decode cX3_leaveSet 17 = .ok (.getfield 24, 3) := by decide +kernel
theorem dX3_leaveSet_20 : decode cX3_leaveSet 20 = .ok (.if_icmp .ge 16, 3) := by decide +kernel
theorem dX3_leaveSet_23 : decode cX3_leaveSet 23 = .ok (.aload_n 0, 1) := by decide +kernel
theorem dX3_leaveSet_24 : decode cX3_leaveSet 24 = .ok (.getfield 17, 3) := by decide +kernel
theorem dX3_leaveSet_27 : decode cX3_leaveSet 27 = .ok (.iload_n 1, 1) := by decide +kernel
theorem dX3_leaveSet_28 : decode cX3_leaveSet 28 = .ok (.aconst_null, 1) := by decide +kernel
theorem dX3_leaveSet_29 : decode cX3_leaveSet 29 = .ok (.aastore, 1) := by decide +kernel
theorem dX3_leaveSet_30 : decode cX3_leaveSet 30 = .ok (.iinc 1 1, 3) := by decide +kernel
theorem dX3_leaveSet_33 : decode cX3_leaveSet 33 = .ok (.goto (-18), 3) := by decide +kernel
theorem dX3_leaveSet_36 : decode cX3_leaveSet 36 = .ok (.aload_n 0, 1) := by decide +kernel
theorem dX3_leaveSet_37 : decode cX3_leaveSet 37 = .ok (.iconst 0, 1) := by decide +kernel
theorem dX3_leaveSet_38 : decode cX3_leaveSet 38 = .ok (.putfield 21, 3) := by decide +kernel
theorem dX3_leaveSet_41 : decode cX3_leaveSet 41 = .ok (.aload_n 0, 1) := by decide +kernel
theorem dX3_leaveSet_42 : decode cX3_leaveSet 42 = .ok (.iconst 0, 1) := by decide +kernel
theorem dX3_leaveSet_43 : decode cX3_leaveSet 43 = .ok (.putfield 24, 3) := by decide +kernel
theorem dX3_leaveSet_46 : decode cX3_leaveSet 46 = .ok (.return_, 1) := by decide +kernel
theorem dX4_init_0 : decode cX4_init 0 = .ok (.aload_n 0, 1) := by decide +kernel
theorem dX4_init_1 : decode cX4_init 1 = .ok (.invokespecial 1, 3) := by decide +kernel
theorem dX4_init_4 : decode cX4_init 4 = .ok (.return_, 1) := by decide +kernel
theorem dX4_append_0 : decode cX4_append 0 = .ok (.aload_n 0, 1) := by decide +kernel
theorem dX4_append_1 : decode cX4_append 1 = .ok (.getfield 7, 3) := by decide +kernel
theorem dX4_append_4 : decode cX4_append 4 = .ok (.ifnonnull 11, 3) := by decide +kernel
theorem dX4_append_7 : decode cX4_append 7 = .ok (.aload_n 0, 1) := by decide +kernel
theorem dX4_append_8 : decode cX4_append 8 = .ok (.aload_n 1, 1) := by decide +kernel
theorem dX4_append_9 : decode cX4_append 9 = .ok (.putfield 13, 3) := by decide +kernel
theorem dX4_append_12 : decode cX4_append 12 = .ok (.goto 11, 3) := by decide +kernel
theorem dX4_append_15 : decode cX4_append 15 = .ok (.aload_n 0, 1) := by decide +kernel
theorem dX4_append_16 : decode cX4_append 16 = .ok (.getfield 7, 3) := by decide +kernel
theorem dX4_append_19 : decode cX4_append 19 = .ok (.aload_n 1, 1) := by decide +kernel
theorem dX4_append_20 : decode cX4_append 20 = .ok (.putfield 16, 3) := by decide +kernel
theorem dX4_append_23 : decode cX4_append 23 = .ok (.aload_n 0, 1) := by decide +kernel
theorem dX4_append_24 : decode cX4_append 24 = .ok (.aload_n 1, 1) := by decide +kernel
theorem dX4_append_25 : decode cX4_append 25 = .ok (.putfield 7, 3) := by decide +kernel
theorem dX4_append_28 : decode cX4_append 28 = .ok (.aload_n 0, 1) := by decide +kernel
theorem dX4_append_29 : decode cX4_append 29 = .ok (.dup, 1) := by decide +kernel
theorem dX4_append_30 : decode cX4_append 30 = .ok (.getfield 21, 3) := by decide +kernel
theorem dX4_append_33 : decode cX4_append 33 = .ok (.iconst 1, 1) := by decide +kernel
theorem dX4_append_34 : decode cX4_append 34 = .ok (.iadd, 1) := by decide +kernel
theorem dX4_append_35 : decode cX4_append 35 = .ok (.putfield 21, 3) := by decide +kernel
theorem dX4_append_38 : decode cX4_append 38 = .ok (.return_, 1) := by decide +kernel
theorem dX4_takeFirst_0 : decode cX4_takeFirst 0 = .ok (.aload_n 0, 1) := by decide +kernel
theorem dX4_takeFirst_1 : decode cX4_takeFirst 1 = .ok (.getfield 13, 3) := by decide +kernel
theorem dX4_takeFirst_4 : decode cX4_takeFirst 4 = .ok (.astore_n 1, 1) := by decide +kernel
theorem dX4_takeFirst_5 : decode cX4_takeFirst 5 = .ok (.aload_n 1, 1) := by decide +kernel
theorem dX4_takeFirst_6 : decode cX4_takeFirst 6 = .ok (.ifnonnull 5, 3) := by decide +kernel
theorem dX4_takeFirst_9 : decode cX4_takeFirst 9 = .ok (.aconst_null, 1) := by decide +kernel
theorem dX4_takeFirst_10 : decode cX4_takeFirst 10 = .ok (.areturn, 1) := by decide +kernel
theorem dX4_takeFirst_11 : decode cX4_takeFirst 11 = .ok (.aload_n 0, 1) := by decide +kernel
theorem dX4_takeFirst_12 : decode cX4_takeFirst 12 = .ok (.aload_n 1, 1) := by decide +kernel
theorem dX4_takeFirst_13 : decode cX4_takeFirst 13 = .ok (.getfield 16, 3) := by decide +kernel
theorem dX4_takeFirst_16 : decode cX4_takeFirst 16 = .ok (.putfield 13, 3) := by decide +kernel
theorem dX4_takeFirst_19 : decode cX4_takeFirst 19 = .ok (.aload_n 0, 1) := by decide +kernel
theorem dX4_takeFirst_20 : decode cX4_takeFirst 20 = .ok (.getfield 13, 3) := by decide +kernel
theorem dX4_takeFirst_23 : decode cX4_takeFirst 23 = .ok (.ifnonnull 8, 3) := by decide +kernel
theorem dX4_takeFirst_26 : decode cX4_takeFirst 26 = .ok (.aload_n 0, 1) := by decide +kernel
theorem dX4_takeFirst_27 : decode cX4_takeFirst 27 = .ok (.aconst_null, 1) := by decide +kernel
theorem dX4_takeFirst_28 : decode cX4_takeFirst 28 = .ok (.putfield 7, 3) := by decide +kernel
theorem dX4_takeFirst_31 : decode cX4_takeFirst 31 = .ok (.aload_n 1, 1) := by decide +kernel
theorem dX4_takeFirst_32 : decode cX4_takeFirst 32 = .ok (.aconst_null, 1) := by decide +kernel
theorem dX4_takeFirst_33 : decode cX4_takeFirst 33 = .ok (.putfield 16, 3) := by decide +kernel
theorem dX4_takeFirst_36 : decode cX4_takeFirst 36 = .ok (.aload_n 0, 1) := by decide +kernel
theorem dX4_takeFirst_37 : decode cX4_takeFirst 37 = .ok (.dup, 1) := by decide +kernel
theorem dX4_takeFirst_38 : decode cX4_takeFirst 38 = .ok (.getfield 21, 3) := by decide +kernel
theorem dX4_takeFirst_41 : decode cX4_takeFirst 41 = .ok (.iconst 1, 1) := by decide +kernel
theorem dX4_takeFirst_42 : decode cX4_takeFirst 42 = .ok (.isub, 1) := by decide +kernel
theorem dX4_takeFirst_43 : decode cX4_takeFirst 43 = .ok (.putfield 21, 3) := by decide +kernel
theorem dX4_takeFirst_46 : decode cX4_takeFirst 46 = .ok (.aload_n 1, 1) := by decide +kernel
theorem dX4_takeFirst_47 : decode cX4_takeFirst 47 = .ok (.areturn, 1) := by decide +kernel
theorem dX5_init_0 : decode cX5_init 0 = .ok (.aload_n 0, 1) := by decide +kernel
theorem dX5_init_1 : decode cX5_init 1 = .ok (.invokespecial 1, 3) := by decide +kernel
theorem dX5_init_4 : decode cX5_init 4 = .ok (.aload_n 0, 1) := by decide +kernel
theorem dX5_init_5 : decode cX5_init 5 = .ok (.new 7, 3) := by decide +kernel
theorem dX5_init_8 : decode cX5_init 8 = .ok (.dup, 1) := by decide +kernel
theorem dX5_init_9 : decode cX5_init 9 = .ok (.iload_n 1, 1) := by decide +kernel
theorem dX5_init_10 : decode cX5_init 10 = .ok (.iconst 3, 1) := by decide +kernel
theorem dX5_init_11 : decode cX5_init 11 = .ok (.bipush 16, 2) := by decide +kernel
theorem dX5_init_13 : decode cX5_init 13 = .ok (.invokestatic 11, 3) := by decide +kernel
theorem dX5_init_16 : decode cX5_init 16 = .ok (.iload_n 2, 1) := by decide +kernel
theorem dX5_init_17 : decode cX5_init 17 = .ok (.iconst 0, 1) := by decide +kernel
theorem dX5_init_18 : decode cX5_init 18 = .ok (.sipush 128, 3) := by decide +kernel
theorem dX5_init_21 : decode cX5_init 21 = .ok (.invokestatic 11, 3) := by decide +kernel
theorem dX5_init_24 : decode cX5_init 24 = .ok (.invokespecial 15, 3) := by decide +kernel
theorem dX5_init_27 : decode cX5_init 27 = .ok (.putfield 18, 3) := by decide +kernel
theorem dX5_init_30 : decode cX5_init 30 = .ok (.aload_n 0, 1) := by decide +kernel
theorem dX5_init_31 : decode cX5_init 31 = .ok (.aload_n 0, 1) := by decide +kernel
theorem dX5_init_32 : decode cX5_init 32 = .ok (.getfield 18, 3) := by decide +kernel
theorem dX5_init_35 : decode cX5_init 35 = .ok (.getfield 22, 3) := by decide +kernel
theorem dX5_init_38 : decode cX5_init 38 = .ok (.putfield 26, 3) := by decide +kernel
theorem dX5_init_41 : decode cX5_init 41 = .ok (.return_, 1) := by decide +kernel
theorem dX5_alloc_0 : decode cX5_alloc 0 = .ok (.iload_n 1, 1) := by decide +kernel
theorem dX5_alloc_1 : decode cX5_alloc 1 = .ok (.invokestatic 27, 3) := by decide +kernel
theorem dX5_alloc_4 : decode cX5_alloc 4 = .ok (.iload_n 2, 1) := by decide +kernel
theorem dX5_alloc_5 : decode cX5_alloc 5 = .ok (.ifCond .lt 9, 3) := by decide +kernel
theorem dX5_alloc_8 : decode cX5_alloc 8 = .ok (.iload_n 2, 1) := by decide +kernel
theorem dX5_alloc_9 : decode cX5_alloc 9 = .ok (.bipush 20, 2) := by decide +kernel
theorem dX5_alloc_11 : decode cX5_alloc 11 = .ok (.if_icmp .le 13, 3) := by decide +kernel
theorem dX5_alloc_14 : decode cX5_alloc 14 = .ok (.new 31, 3) := by decide +kernel
theorem dX5_alloc_17 : decode cX5_alloc 17 = .ok (.dup, 1) := by decide +kernel
theorem dX5_alloc_18 : decode cX5_alloc 18 = .ok (.ldc 33, 2) := by decide +kernel
theorem dX5_alloc_20 : decode cX5_alloc 20 = .ok (.invokespecial 35, 3) := by decide +kernel
theorem dX5_alloc_23 : decode cX5_alloc 23 = .ok (.athrow, 1) := by decide +kernel
theorem dX5_alloc_24 : decode cX5_alloc 24 = .ok (.iload_n 2, 1) := by decide +kernel
theorem dX5_alloc_25 : decode cX5_alloc 25 = .ok (.iconst 2, 1) := by decide +kernel
theorem dX5_alloc_26 : decode cX5_alloc 26 = .ok (.iadd, 1) := by decide +kernel
theorem dX5_alloc_27 : decode cX5_alloc 27 = .ok (.istore 4, 2) := by decide +kernel
theorem dX5_alloc_29 : decode cX5_alloc 29 = .ok (.aload_n 0, 1) := by decide +kernel
theorem dX5_alloc_30 : decode cX5_alloc 30 = .ok (.getfield 26, 3) := by decide +kernel
theorem dX5_alloc_33 : decode cX5_alloc 33 = .ok (.iload 4, 2) := by decide +kernel
theorem dX5_alloc_35 : decode cX5_alloc 35 = .ok (.invokevirtual 38, 3) := by decide +kernel
theorem dX5_alloc_38 : decode cX5_alloc 38 = .ok (.astore 5, 2) := by decide +kernel
theorem dX5_alloc_40 : decode cX5_alloc 40 = .ok (.aload 5, 2) := by decide +kernel
theorem dX5_alloc_42 : decode cX5_alloc 42 = .ok (.ifnonnull 21, 3) := by decide +kernel
theorem dX5_alloc_45 : decode cX5_alloc 45 = .ok (.aload_n 0, 1) := by decide +kernel
theorem dX5_alloc_46 : decode cX5_alloc 46 = .ok (.getfield 18, 3) := by decide +kernel
theorem dX5_alloc_49 : decode cX5_alloc 49 = .ok (.invokevirtual 44, 3) := by decide +kernel
theorem dX5_alloc_52 : decode cX5_alloc 52 = .ok (.aload_n 0, 1) := by decide +kernel
theorem dX5_alloc_53 : decode cX5_alloc 53 = .ok (.getfield 26, 3) := by decide +kernel
theorem dX5_alloc_56 : decode cX5_alloc 56 = .ok (.iload 4, 2) := by decide +kernel
theorem dX5_alloc_58 : decode cX5_alloc 58 = .ok (.invokevirtual 38, 3) := by decide +kernel
theorem dX5_alloc_61 : decode cX5_alloc 61 = .ok (.astore 5, 2) := by decide +kernel
theorem dX5_alloc_63 : decode cX5_alloc 63 = .ok (.aload 5, 2) := by decide +kernel
theorem dX5_alloc_65 : decode cX5_alloc 65 = .ok (.ifnonnull 5, 3) := by decide +kernel
theorem dX5_alloc_68 : decode cX5_alloc 68 = .ok (.iconst (-1), 1) := by decide +kernel
theorem dX5_alloc_69 : decode cX5_alloc 69 = .ok (.ireturn, 1) := by decide +kernel
theorem dX5_alloc_70 : decode cX5_alloc 70 = .ok (.new 47, 3) := by decide +kernel
theorem dX5_alloc_73 : decode cX5_alloc 73 = .ok (.dup, 1) := by decide +kernel
theorem dX5_alloc_74 : decode cX5_alloc 74 = .ok (.aload 5, 2) := by decide +kernel
theorem dX5_alloc_76 : decode cX5_alloc 76 = .ok (.iload_n 2, 1) := by decide +kernel
theorem dX5_alloc_77 : decode cX5_alloc 77 = .ok (.iload_n 3, 1) := by decide +kernel
theorem dX5_alloc_78 : decode cX5_alloc 78 = .ok (.invokespecial 49, 3) := by decide +kernel
theorem dX5_alloc_81 : decode cX5_alloc 81 = .ok (.astore 6, 2) := by decide +kernel
theorem dX5_alloc_83 : decode cX5_alloc 83 = .ok (.aload 5, 2) := by decide +kernel
theorem dX5_alloc_85 : decode cX5_alloc 85 = .ok (.aload 6, 2) := by decide +kernel
theorem dX5_alloc_87 : decode cX5_alloc 87 = .ok (.invokevirtual 52, 3) := by decide +kernel
theorem dX5_alloc_90 : decode cX5_alloc 90 = .ok (.aload_n 0, 1) := by decide +kernel
theorem dX5_alloc_91 : decode cX5_alloc 91 = .ok (.getfield 18, 3) := by decide +kernel
theorem dX5_alloc_94 : decode cX5_alloc 94 = .ok (.aload 6, 2) := by decide +kernel
theorem dX5_alloc_96 : decode cX5_alloc 96 = .ok (.invokevirtual 58, 3) := by decide +kernel
theorem dX5_alloc_99 : decode cX5_alloc 99 = .ok (.aload_n 0, 1) := by decide +kernel
theorem dX5_alloc_100 : decode cX5_alloc 100 = .ok (.getfield 26, 3) := by decide +kernel
theorem dX5_alloc_103 : decode cX5_alloc 103 = .ok (.getfield 61, 3) := by decide +kernel
theorem dX5_alloc_106 : decode cX5_alloc 106 = .ok (.iload_n 1, 1) := by decide +kernel
theorem dX5_alloc_107 : decode cX5_alloc 107 = .ok (.aload 6, 2) := by decide +kernel
theorem dX5_alloc_109 : decode cX5_alloc 109 = .ok (.aastore, 1) := by decide +kernel
theorem dX5_alloc_110 : decode cX5_alloc 110 = .ok (.aload 6, 2) := by decide +kernel
theorem dX5_alloc_112 : decode cX5_alloc 112 = .ok (.invokestatic 65, 3) := by decide +kernel
theorem dX5_alloc_115 : decode cX5_alloc 115 = .ok (.ireturn, 1) := by decide +kernel
theorem dX5_move_0 : decode cX5_move 0 = .ok (.iload_n 1, 1) := by decide +kernel
theorem dX5_move_1 : decode cX5_move 1 = .ok (.invokestatic 27, 3) := by decide +kernel
theorem dX5_move_4 : decode cX5_move 4 = .ok (.iload_n 2, 1) := by decide +kernel
theorem dX5_move_5 : decode cX5_move 5 = .ok (.invokestatic 27, 3) := by decide +kernel
theorem dX5_move_8 : decode cX5_move 8 = .ok (.aload_n 0, 1) := by decide +kernel
theorem dX5_move_9 : decode cX5_move 9 = .ok (.getfield 26, 3) := by decide +kernel
theorem dX5_move_12 : decode cX5_move 12 = .ok (.getfield 61, 3) := by decide +kernel
theorem dX5_move_15 : decode cX5_move 15 = .ok (.iload_n 1, 1) := by decide +kernel
theorem dX5_move_16 : decode cX5_move 16 = .ok (.aload_n 0, 1) := by decide +kernel
theorem dX5_move_17 : decode cX5_move 17 = .ok (.getfield 26, 3) := by decide +kernel
theorem dX5_move_20 : decode cX5_move 20 = .ok (.getfield 61, 3) := by decide +kernel
theorem dX5_move_23 : decode cX5_move 23 = .ok (.iload_n 2, 1) := by decide +kernel
theorem dX5_move_24 : decode cX5_move 24 = .ok (.aaload, 1) := by decide +kernel
theorem dX5_move_25 : decode cX5_move 25 = .ok (.aastore, 1) := by decide +kernel
theorem dX5_move_26 : decode cX5_move 26 = .ok (.return_, 1) := by decide +kernel
theorem dX5_drop_0 : decode cX5_drop 0 = .ok (.iload_n 1, 1) := by decide +kernel
theorem dX5_drop_1 : decode cX5_drop 1 = .ok (.invokestatic 27, 3) := by decide +kernel
theorem dX5_drop_4 : decode cX5_drop 4 = .ok (.aload_n 0, 1) := by decide +kernel
theorem dX5_drop_5 : decode cX5_drop 5 = .ok (.getfield 26, 3) := by decide +kernel
theorem dX5_drop_8 : decode cX5_drop 8 = .ok (.getfield 61, 3) := by decide +kernel
theorem dX5_drop_11 : decode cX5_drop 11 = .ok (.iload_n 1, 1) := by decide +kernel
theorem dX5_drop_12 : decode cX5_drop 12 = .ok (.aaload, 1) := by decide +kernel
theorem dX5_drop_13 : decode cX5_drop 13 = .ok (.ifnull 7, 3) := by decide +kernel
theorem dX5_drop_16 : decode cX5_drop 16 = .ok (.iconst 1, 1) := by decide +kernel
theorem dX5_drop_17 : decode cX5_drop 17 = .ok (.goto 4, 3) := by decide +kernel
theorem dX5_drop_20 : decode cX5_drop 20 = .ok (.iconst 0, 1) := by decide +kernel
theorem dX5_drop_21 : decode cX5_drop 21 = .ok (.istore_n 2, 1) := by decide +kernel
theorem dX5_drop_22 : decode cX5_drop 22 = .ok (.aload_n 0, 1) := by decide +kernel
theorem dX5_drop_23 : decode cX5_drop 23 = .ok (.getfield 26, 3) := by decide +kernel
theorem dX5_drop_26 : decode cX5_drop 26 = .ok (.getfield 61, 3) := by decide +kernel
theorem dX5_drop_29 : decode cX5_drop 29 = .ok (.iload_n 1, 1) := by decide +kernel
theorem dX5_drop_30 : decode cX5_drop 30 = .ok (.aconst_null, 1) := by decide +kernel
theorem dX5_drop_31 : decode cX5_drop 31 = .ok (.aastore, 1) := by decide +kernel
theorem dX5_drop_32 : decode cX5_drop 32 = .ok (.iload_n 2, 1) := by decide +kernel
theorem dX5_drop_33 : decode cX5_drop 33 = .ok (.ireturn, 1) := by decide +kernel
theorem dX5_read_0 : decode cX5_read 0 = .ok (.iload_n 1, 1) := by decide +kernel
theorem dX5_read_1 : decode cX5_read 1 = .ok (.invokestatic 27, 3) := by decide +kernel
theorem dX5_read_4 : decode cX5_read 4 = .ok (.aload_n 0, 1) := by decide +kernel
theorem dX5_read_5 : decode cX5_read 5 = .ok (.iload_n 2, 1) := by decide +kernel
theorem dX5_read_6 : decode cX5_read 6 = .ok (.invokevirtual 69, 3) := by decide +kernel
theorem dX5_read_9 : decode cX5_read 9 = .ok (.astore 4, 2) := by decide +kernel
theorem dX5_read_11 : decode cX5_read 11 = .ok (.aload 4, 2) := by decide +kernel
theorem dX5_read_13 : decode cX5_read 13 = .ok (.iload_n 3, 1) := by decide +kernel
theorem dX5_read_14 : decode cX5_read 14 = .ok (.invokestatic 73, 3) := by decide +kernel
theorem dX5_read_17 : decode cX5_read 17 = .ok (.aload 4, 2) := by decide +kernel
theorem dX5_read_19 : decode cX5_read 19 = .ok (.getfield 77, 3) := by decide +kernel
theorem dX5_read_22 : decode cX5_read 22 = .ok (.iload_n 3, 1) := by decide +kernel
theorem dX5_read_23 : decode cX5_read 23 = .ok (.aaload, 1) := by decide +kernel
theorem dX5_read_24 : decode cX5_read 24 = .ok (.astore 5, 2) := by decide +kernel
theorem dX5_read_26 : decode cX5_read 26 = .ok (.aload_n 0, 1) := by decide +kernel
theorem dX5_read_27 : decode cX5_read 27 = .ok (.getfield 26, 3) := by decide +kernel
theorem dX5_read_30 : decode cX5_read 30 = .ok (.getfield 61, 3) := by decide +kernel
theorem dX5_read_33 : decode cX5_read 33 = .ok (.iload_n 1, 1) := by decide +kernel
theorem dX5_read_34 : decode cX5_read 34 = .ok (.aload 5, 2) := by decide +kernel
theorem dX5_read_36 : decode cX5_read 36 = .ok (.aastore, 1) := by decide +kernel
theorem dX5_read_37 : decode cX5_read 37 = .ok (.aload 5, 2) := by decide +kernel
theorem dX5_read_39 : decode cX5_read 39 = .ok (.invokestatic 80, 3) := by decide +kernel
theorem dX5_read_42 : decode cX5_read 42 = .ok (.ireturn, 1) := by decide +kernel
theorem dX5_write_0 : decode cX5_write 0 = .ok (.iload_n 3, 1) := by decide +kernel
theorem dX5_write_1 : decode cX5_write 1 = .ok (.invokestatic 27, 3) := by decide +kernel
theorem dX5_write_4 : decode cX5_write 4 = .ok (.aload_n 0, 1) := by decide +kernel
theorem dX5_write_5 : decode cX5_write 5 = .ok (.iload_n 1, 1) := by decide +kernel
theorem dX5_write_6 : decode cX5_write 6 = .ok (.invokevirtual 69, 3) := by decide +kernel
theorem dX5_write_9 : decode cX5_write 9 = .ok (.astore 4, 2) := by decide +kernel
theorem dX5_write_11 : decode cX5_write 11 = .ok (.aload 4, 2) := by decide +kernel
theorem dX5_write_13 : decode cX5_write 13 = .ok (.iload_n 2, 1) := by decide +kernel
theorem dX5_write_14 : decode cX5_write 14 = .ok (.invokestatic 73, 3) := by decide +kernel
theorem dX5_write_17 : decode cX5_write 17 = .ok (.aload 4, 2) := by decide +kernel
theorem dX5_write_19 : decode cX5_write 19 = .ok (.getfield 77, 3) := by decide +kernel
theorem dX5_write_22 : decode cX5_write 22 = .ok (.iload_n 2, 1) := by decide +kernel
theorem dX5_write_23 : decode cX5_write 23 = .ok (.aaload, 1) := by decide +kernel
theorem dX5_write_24 : decode cX5_write 24 = .ok (.astore 5, 2) := by decide +kernel
theorem dX5_write_26 : decode cX5_write 26 = .ok (.aload_n 0, 1) := by decide +kernel
theorem dX5_write_27 : decode cX5_write 27 = .ok (.getfield 18, 3) := by decide +kernel
theorem dX5_write_30 : decode cX5_write 30 = .ok (.aload 4, 2) := by decide +kernel
theorem dX5_write_32 : decode cX5_write 32 = .ok (.aload 5, 2) := by decide +kernel
theorem dX5_write_34 : decode cX5_write 34 = .ok (.invokevirtual 83, 3) := by decide +kernel
theorem dX5_write_37 : decode cX5_write 37 = .ok (.aload 4, 2) := by decide +kernel
theorem dX5_write_39 : decode cX5_write 39 = .ok (.getfield 77, 3) := by decide +kernel
theorem dX5_write_42 : decode cX5_write 42 = .ok (.iload_n 2, 1) := by decide +kernel
theorem dX5_write_43 : decode cX5_write 43 = .ok (.aload_n 0, 1) := by decide +kernel
theorem dX5_write_44 : decode cX5_write 44 = .ok (.getfield 26, 3) := by decide +kernel
theorem dX5_write_47 : decode cX5_write 47 = .ok (.getfield 61, 3) := by decide +kernel
theorem dX5_write_50 : decode cX5_write 50 = .ok (.iload_n 3, 1) := by decide +kernel
theorem dX5_write_51 : decode cX5_write 51 = .ok (.aaload, 1) := by decide +kernel
theorem dX5_write_52 : decode cX5_write 52 = .ok (.aastore, 1) := by decide +kernel
theorem dX5_write_53 : decode cX5_write 53 = .ok (.aload 5, 2) := by decide +kernel
theorem dX5_write_55 : decode cX5_write 55 = .ok (.invokestatic 80, 3) := by decide +kernel
theorem dX5_write_58 : decode cX5_write 58 = .ok (.ireturn, 1) := by decide +kernel
theorem dX5_tag_0 : decode cX5_tag 0 = .ok (.aload_n 0, 1) := by decide +kernel
theorem dX5_tag_1 : decode cX5_tag 1 = .ok (.iload_n 1, 1) := by decide +kernel
theorem dX5_tag_2 : decode cX5_tag 2 = .ok (.invokevirtual 69, 3) := by decide +kernel
theorem dX5_tag_5 : decode cX5_tag 5 = .ok (.getfield 87, 3) := by decide +kernel
theorem dX5_tag_8 : decode cX5_tag 8 = .ok (.ireturn, 1) := by decide +kernel
theorem dX5_same_0 : decode cX5_same 0 = .ok (.iload_n 1, 1) := by decide +kernel
theorem dX5_same_1 : decode cX5_same 1 = .ok (.invokestatic 27, 3) := by decide +kernel
theorem dX5_same_4 : decode cX5_same 4 = .ok (.iload_n 2, 1) := by decide +kernel
theorem dX5_same_5 : decode cX5_same 5 = .ok (.invokestatic 27, 3) := by decide +kernel
theorem dX5_same_8 : decode cX5_same 8 = .ok (.aload_n 0, 1) := by decide +kernel
theorem dX5_same_9 : decode cX5_same 9 = .ok (.getfield 26, 3) := by decide +kernel
theorem dX5_same_12 : decode cX5_same 12 = .ok (.getfield 61, 3) := by decide +kernel
theorem dX5_same_15 : decode cX5_same 15 = .ok (.iload_n 1, 1) := by decide +kernel
theorem dX5_same_16 : decode cX5_same 16 = .ok (.aaload, 1) := by decide +kernel
theorem dX5_same_17 : decode cX5_same 17 = .ok (.aload_n 0, 1) := by decide +kernel
theorem dX5_same_18 : decode cX5_same 18 = .ok (.getfield 26, 3) := by decide +kernel
theorem dX5_same_21 : decode cX5_same 21 = .ok (.getfield 61, 3) := by decide +kernel
theorem dX5_same_24 : decode cX5_same 24 = .ok (.iload_n 2, 1) := by decide +kernel
theorem dX5_same_25 : decode cX5_same 25 = .ok (.aaload, 1) := by decide +kernel
theorem dX5_same_26 : decode cX5_same 26 = .ok (.if_acmp .ne 7, 3) := by decide +kernel
theorem dX5_same_29 : decode cX5_same 29 = .ok (.iconst 1, 1) := by decide +kernel
theorem dX5_same_30 : decode cX5_same 30 = .ok (.goto 4, 3) := by decide +kernel
theorem dX5_same_33 : decode cX5_same 33 = .ok (.iconst 0, 1) := by decide +kernel
theorem dX5_same_34 : decode cX5_same 34 = .ok (.ireturn, 1) := by decide +kernel
theorem dX5_where_0 : decode cX5_where 0 = .ok (.iload_n 1, 1) := by decide +kernel
theorem dX5_where_1 : decode cX5_where 1 = .ok (.invokestatic 27, 3) := by decide +kernel
theorem dX5_where_4 : decode cX5_where 4 = .ok (.aload_n 0, 1) := by decide +kernel
theorem dX5_where_5 : decode cX5_where 5 = .ok (.getfield 26, 3) := by decide +kernel
theorem dX5_where_8 : decode cX5_where 8 = .ok (.getfield 61, 3) := by decide +kernel
theorem dX5_where_11 : decode cX5_where 11 = .ok (.iload_n 1, 1) := by decide +kernel
theorem dX5_where_12 : decode cX5_where 12 = .ok (.aaload, 1) := by decide +kernel
theorem dX5_where_13 : decode cX5_where 13 = .ok (.invokestatic 65, 3) := by decide +kernel
theorem dX5_where_16 : decode cX5_where 16 = .ok (.ireturn, 1) := by decide +kernel
theorem dX5_begin_0 : decode cX5_begin 0 = .ok (.aload_n 0, 1) := by decide +kernel
theorem dX5_begin_1 : decode cX5_begin 1 = .ok (.getfield 18, 3) := by decide +kernel
theorem dX5_begin_4 : decode cX5_begin 4 = .ok (.getfield 91, 3) := by decide +kernel
theorem dX5_begin_7 : decode cX5_begin 7 = .ok (.ifCond .eq 5, 3) := by decide +kernel
theorem dX5_begin_10 : decode cX5_begin 10 = .ok (.iconst 0, 1) := by decide +kernel
theorem dX5_begin_11 : decode cX5_begin 11 = .ok (.ireturn, 1) := by decide +kernel
theorem dX5_begin_12 : decode cX5_begin 12 = .ok (.aload_n 0, 1) := by decide +kernel
theorem dX5_begin_13 : decode cX5_begin 13 = .ok (.getfield 18, 3) := by decide +kernel
theorem dX5_begin_16 : decode cX5_begin 16 = .ok (.invokevirtual 94, 3) := by decide +kernel
theorem dX5_begin_19 : decode cX5_begin 19 = .ok (.iconst 1, 1) := by decide +kernel
theorem dX5_begin_20 : decode cX5_begin 20 = .ok (.ireturn, 1) := by decide +kernel
theorem dX5_work_0 : decode cX5_work 0 = .ok (.iload_n 1, 1) := by decide +kernel
theorem dX5_work_1 : decode cX5_work 1 = .ok (.ifCond .lt 10, 3) := by decide +kernel
theorem dX5_work_4 : decode cX5_work 4 = .ok (.iload_n 1, 1) := by decide +kernel
theorem dX5_work_5 : decode cX5_work 5 = .ok (.sipush 10000, 3) := by decide +kernel
theorem dX5_work_8 : decode cX5_work 8 = .ok (.if_icmp .le 13, 3) := by decide +kernel
theorem dX5_work_11 : decode cX5_work 11 = .ok (.new 31, 3) := by decide +kernel
theorem dX5_work_14 : decode cX5_work 14 = .ok (.dup, 1) := by decide +kernel
theorem dX5_work_15 : decode cX5_work 15 = .ok (.ldc 97, 2) := by decide +kernel
theorem dX5_work_17 : decode cX5_work 17 = .ok (.invokespecial 35, 3) := by decide +kernel
theorem dX5_work_20 : decode cX5_work 20 = .ok (.athrow, 1) := by decide +kernel
theorem dX5_work_21 : decode cX5_work 21 = .ok (.aload_n 0, 1) := by decide +kernel
theorem dX5_work_22 : decode cX5_work 22 = .ok (.getfield 18, 3) := by decide +kernel
theorem dX5_work_25 : decode cX5_work 25 = .ok (.iload_n 1, 1) := by decide +kernel
theorem dX5_work_26 : decode cX5_work 26 = .ok (.invokevirtual 99, 3) := by decide +kernel
theorem dX5_work_29 : decode cX5_work 29 = .ok (.aload_n 0, 1) := by decide +kernel
theorem dX5_work_30 : decode cX5_work 30 = .ok (.getfield 18, 3) := by decide +kernel
theorem dX5_work_33 : decode cX5_work 33 = .ok (.getfield 91, 3) := by decide +kernel
theorem dX5_work_36 : decode cX5_work 36 = .ok (.ireturn, 1) := by decide +kernel
theorem dX5_collect_0 : decode cX5_collect 0 = .ok (.aload_n 0, 1) := by decide +kernel
theorem dX5_collect_1 : decode cX5_collect 1 = .ok (.getfield 18, 3) := by decide +kernel
theorem dX5_collect_4 : decode cX5_collect 4 = .ok (.invokevirtual 44, 3) := by decide +kernel
theorem dX5_collect_7 : decode cX5_collect 7 = .ok (.aload_n 0, 1) := by decide +kernel
theorem dX5_collect_8 : decode cX5_collect 8 = .ok (.getfield 26, 3) := by decide +kernel
theorem dX5_collect_11 : decode cX5_collect 11 = .ok (.invokevirtual 102, 3) := by decide +kernel
theorem dX5_collect_14 : decode cX5_collect 14 = .ok (.ireturn, 1) := by decide +kernel
theorem dX5_region_0 : decode cX5_region 0 = .ok (.iload_n 1, 1) := by decide +kernel
theorem dX5_region_1 : decode cX5_region 1 = .ok (.ifCond .lt 15, 3) := by decide +kernel
theorem dX5_region_4 : decode cX5_region 4 = .ok (.iload_n 1, 1) := by decide +kernel
theorem dX5_region_5 : decode cX5_region 5 = .ok (.aload_n 0, 1) := by decide +kernel
theorem dX5_region_6 : decode cX5_region 6 = .ok (.getfield 26, 3) := by decide +kernel
theorem dX5_region_9 : decode cX5_region 9 = .ok (.getfield 106, 3) := by decide +kernel
theorem dX5_region_12 : decode cX5_region 12 = .ok (.arraylength, 1) := by decide +kernel
theorem dX5_region_13 : decode cX5_region 13 = .ok (.if_icmp .lt 13, 3) := by decide +kernel
theorem dX5_region_16 : decode cX5_region 16 = .ok (.new 110, 3) := by decide +kernel
theorem dX5_region_19 : decode cX5_region 19 = .ok (.dup, 1) := by decide +kernel
theorem dX5_region_20 : decode cX5_region 20 = .ok (.ldc 112, 2) := by decide +kernel
theorem dX5_region_22 : decode cX5_region 22 = .ok (.invokespecial 114, 3) := by decide +kernel
theorem dX5_region_25 : decode cX5_region 25 = .ok (.athrow, 1) := by decide +kernel
theorem dX5_region_26 : decode cX5_region 26 = .ok (.aload_n 0, 1) := by decide +kernel
theorem dX5_region_27 : decode cX5_region 27 = .ok (.getfield 26, 3) := by decide +kernel
theorem dX5_region_30 : decode cX5_region 30 = .ok (.getfield 106, 3) := by decide +kernel
theorem dX5_region_33 : decode cX5_region 33 = .ok (.iload_n 1, 1) := by decide +kernel
theorem dX5_region_34 : decode cX5_region 34 = .ok (.aaload, 1) := by decide +kernel
theorem dX5_region_35 : decode cX5_region 35 = .ok (.astore_n 3, 1) := by decide +kernel
theorem dX5_region_36 : decode cX5_region 36 = .ok (.iload_n 2, 1) := by decide +kernel
theorem dX5_region_37 : decode cX5_region 37 = .ok (.tableswitch 49 0 2 #[27, 32, 37], 27) := by decide +kernel
theorem dX5_region_64 : decode cX5_region 64 = .ok (.aload_n 3, 1) := by decide +kernel
theorem dX5_region_65 : decode cX5_region 65 = .ok (.getfield 115, 3) := by decide +kernel
theorem dX5_region_68 : decode cX5_region 68 = .ok (.ireturn, 1) := by decide +kernel
theorem dX5_region_69 : decode cX5_region 69 = .ok (.aload_n 3, 1) := by decide +kernel
theorem dX5_region_70 : decode cX5_region 70 = .ok (.getfield 118, 3) := by decide +kernel
theorem dX5_region_73 : decode cX5_region 73 = .ok (.ireturn, 1) := by decide +kernel
theorem dX5_region_74 : decode cX5_region 74 = .ok (.aload_n 3, 1) := by decide +kernel
theorem dX5_region_75 : decode cX5_region 75 = .ok (.aload_n 0, 1) := by decide +kernel
theorem dX5_region_76 : decode cX5_region 76 = .ok (.getfield 18, 3) := by decide +kernel
theorem dX5_region_79 : decode cX5_region 79 = .ok (.getfield 121, 3) := by decide +kernel
theorem dX5_region_82 : decode cX5_region 82 = .ok (.invokevirtual 124, 3) := by decide +kernel
theorem dX5_region_85 : decode cX5_region 85 = .ok (.ireturn, 1) := by decide +kernel
theorem dX5_region_86 : decode cX5_region 86 = .ok (.iconst (-1), 1) := by decide +kernel
theorem dX5_region_87 : decode cX5_region 87 = .ok (.ireturn, 1) := by decide +kernel
theorem dX5_count_0 : decode cX5_count 0 = .ok (.iload_n 1, 1) := by decide +kernel
theorem dX5_count_1 : decode cX5_count 1 = .ok (.tableswitch 54 0 2 #[27, 35, 43], 27) := by decide +kernel
theorem dX5_count_28 : decode cX5_count 28 = .ok (.aload_n 0, 1) := by decide +kernel
theorem dX5_count_29 : decode cX5_count 29 = .ok (.getfield 18, 3) := by decide +kernel
theorem dX5_count_32 : decode cX5_count 32 = .ok (.getfield 128, 3) := by decide +kernel
theorem dX5_count_35 : decode cX5_count 35 = .ok (.ireturn, 1) := by decide +kernel
theorem dX5_count_36 : decode cX5_count 36 = .ok (.aload_n 0, 1) := by decide +kernel
theorem dX5_count_37 : decode cX5_count 37 = .ok (.getfield 18, 3) := by decide +kernel
theorem dX5_count_40 : decode cX5_count 40 = .ok (.getfield 131, 3) := by decide +kernel
theorem dX5_count_43 : decode cX5_count 43 = .ok (.ireturn, 1) := by decide +kernel
theorem dX5_count_44 : decode cX5_count 44 = .ok (.aload_n 0, 1) := by decide +kernel
theorem dX5_count_45 : decode cX5_count 45 = .ok (.getfield 18, 3) := by decide +kernel
theorem dX5_count_48 : decode cX5_count 48 = .ok (.getfield 134, 3) := by decide +kernel
theorem dX5_count_51 : decode cX5_count 51 = .ok (.getfield 138, 3) := by decide +kernel
theorem dX5_count_54 : decode cX5_count 54 = .ok (.ireturn, 1) := by decide +kernel
theorem dX5_count_55 : decode cX5_count 55 = .ok (.iconst (-1), 1) := by decide +kernel
theorem dX5_count_56 : decode cX5_count 56 = .ok (.ireturn, 1) := by decide +kernel
theorem dX5_within_0 : decode cX5_within 0 = .ok (.iload_n 1, 1) := by decide +kernel
theorem dX5_within_1 : decode cX5_within 1 = .ok (.iload_n 2, 1) := by decide +kernel
theorem dX5_within_2 : decode cX5_within 2 = .ok (.iload_n 0, 1) := by decide +kernel
theorem dX5_within_3 : decode cX5_within 3 = .ok (.invokestatic 143, 3) := by decide +kernel
theorem dX5_within_6 : decode cX5_within 6 = .ok (.invokestatic 149, 3) := by decide +kernel
theorem dX5_within_9 : decode cX5_within 9 = .ok (.ireturn, 1) := by decide +kernel
theorem dX5_checkRegister_0 : decode cX5_checkRegister 0 = .ok (.iload_n 0, 1) := by decide +kernel
theorem dX5_checkRegister_1 : decode cX5_checkRegister 1 = .ok (.ifCond .lt 9, 3) := by decide +kernel
theorem dX5_checkRegister_4 : decode cX5_checkRegister 4 = .ok (.iload_n 0, 1) := by decide +kernel
theorem dX5_checkRegister_5 : decode cX5_checkRegister 5 = .ok (.bipush 10, 2) := by decide +kernel
theorem dX5_checkRegister_7 : decode cX5_checkRegister 7 = .ok (.if_icmp .lt 13, 3) := by decide +kernel
theorem dX5_checkRegister_10 : decode cX5_checkRegister 10 = .ok (.new 110, 3) := by decide +kernel
theorem dX5_checkRegister_13 : decode cX5_checkRegister 13 = .ok (.dup, 1) := by decide +kernel
theorem dX5_checkRegister_14 : decode cX5_checkRegister 14 = .ok (.ldc 152, 2) := by decide +kernel
theorem dX5_checkRegister_16 : decode cX5_checkRegister 16 = .ok (.invokespecial 114, 3) := by decide +kernel
theorem dX5_checkRegister_19 : decode cX5_checkRegister 19 = .ok (.athrow, 1) := by decide +kernel
theorem dX5_checkRegister_20 : decode cX5_checkRegister 20 = .ok (.return_, 1) := by decide +kernel
theorem dX5_checkField_0 : decode cX5_checkField 0 = .ok (.iload_n 1, 1) := by decide +kernel
theorem dX5_checkField_1 : decode cX5_checkField 1 = .ok (.ifCond .lt 12, 3) := by decide +kernel
theorem dX5_checkField_4 : decode cX5_checkField 4 = .ok (.iload_n 1, 1) := by decide +kernel
theorem dX5_checkField_5 : decode cX5_checkField 5 = .ok (.aload_n 0, 1) := by decide +kernel
theorem dX5_checkField_6 : decode cX5_checkField 6 = .ok (.getfield 77, 3) := by decide +kernel
theorem dX5_checkField_9 : decode cX5_checkField 9 = .ok (.arraylength, 1) := by decide +kernel
theorem dX5_checkField_10 : decode cX5_checkField 10 = .ok (.if_icmp .lt 13, 3) := by decide +kernel
theorem dX5_checkField_13 : decode cX5_checkField 13 = .ok (.new 110, 3) := by decide +kernel
theorem dX5_checkField_16 : decode cX5_checkField 16 = .ok (.dup, 1) := by decide +kernel
theorem dX5_checkField_17 : decode cX5_checkField 17 = .ok (.ldc 154, 2) := by decide +kernel
theorem dX5_checkField_19 : decode cX5_checkField 19 = .ok (.invokespecial 114, 3) := by decide +kernel
theorem dX5_checkField_22 : decode cX5_checkField 22 = .ok (.athrow, 1) := by decide +kernel
theorem dX5_checkField_23 : decode cX5_checkField 23 = .ok (.return_, 1) := by decide +kernel
theorem dX5_objectIn_0 : decode cX5_objectIn 0 = .ok (.iload_n 1, 1) := by decide +kernel
theorem dX5_objectIn_1 : decode cX5_objectIn 1 = .ok (.invokestatic 27, 3) := by decide +kernel
theorem dX5_objectIn_4 : decode cX5_objectIn 4 = .ok (.aload_n 0, 1) := by decide +kernel
theorem dX5_objectIn_5 : decode cX5_objectIn 5 = .ok (.getfield 26, 3) := by decide +kernel
theorem dX5_objectIn_8 : decode cX5_objectIn 8 = .ok (.getfield 61, 3) := by decide +kernel
theorem dX5_objectIn_11 : decode cX5_objectIn 11 = .ok (.iload_n 1, 1) := by decide +kernel
theorem dX5_objectIn_12 : decode cX5_objectIn 12 = .ok (.aaload, 1) := by decide +kernel
theorem dX5_objectIn_13 : decode cX5_objectIn 13 = .ok (.astore_n 2, 1) := by decide +kernel
theorem dX5_objectIn_14 : decode cX5_objectIn 14 = .ok (.aload_n 2, 1) := by decide +kernel
theorem dX5_objectIn_15 : decode cX5_objectIn 15 = .ok (.ifnonnull 13, 3) := by decide +kernel
theorem dX5_objectIn_18 : decode cX5_objectIn 18 = .ok (.new 156, 3) := by decide +kernel
theorem dX5_objectIn_21 : decode cX5_objectIn 21 = .ok (.dup, 1) := by decide +kernel
theorem dX5_objectIn_22 : decode cX5_objectIn 22 = .ok (.ldc 158, 2) := by decide +kernel
theorem dX5_objectIn_24 : decode cX5_objectIn 24 = .ok (.invokespecial 160, 3) := by decide +kernel
theorem dX5_objectIn_27 : decode cX5_objectIn 27 = .ok (.athrow, 1) := by decide +kernel
theorem dX5_objectIn_28 : decode cX5_objectIn 28 = .ok (.aload_n 2, 1) := by decide +kernel
theorem dX5_objectIn_29 : decode cX5_objectIn 29 = .ok (.areturn, 1) := by decide +kernel
theorem dX5_tagOf_0 : decode cX5_tagOf 0 = .ok (.aload_n 0, 1) := by decide +kernel
theorem dX5_tagOf_1 : decode cX5_tagOf 1 = .ok (.ifnonnull 7, 3) := by decide +kernel
theorem dX5_tagOf_4 : decode cX5_tagOf 4 = .ok (.iconst 0, 1) := by decide +kernel
theorem dX5_tagOf_5 : decode cX5_tagOf 5 = .ok (.goto 7, 3) := by decide +kernel
theorem dX5_tagOf_8 : decode cX5_tagOf 8 = .ok (.aload_n 0, 1) := by decide +kernel
theorem dX5_tagOf_9 : decode cX5_tagOf 9 = .ok (.getfield 87, 3) := by decide +kernel
theorem dX5_tagOf_12 : decode cX5_tagOf 12 = .ok (.ireturn, 1) := by decide +kernel
theorem dX5_placeOf_0 : decode cX5_placeOf 0 = .ok (.aload_n 0, 1) := by decide +kernel
theorem dX5_placeOf_1 : decode cX5_placeOf 1 = .ok (.ifnonnull 7, 3) := by decide +kernel
theorem dX5_placeOf_4 : decode cX5_placeOf 4 = .ok (.iconst (-1), 1) := by decide +kernel
theorem dX5_placeOf_5 : decode cX5_placeOf 5 = .ok (.goto 19, 3) := by decide +kernel
theorem dX5_placeOf_8 : decode cX5_placeOf 8 = .ok (.sipush 128, 3) := by decide +kernel
theorem dX5_placeOf_11 : decode cX5_placeOf 11 = .ok (.aload_n 0, 1) := by decide +kernel
theorem dX5_placeOf_12 : decode cX5_placeOf 12 = .ok (.getfield 161, 3) := by decide +kernel
theorem dX5_placeOf_15 : decode cX5_placeOf 15 = .ok (.getfield 165, 3) := by decide +kernel
theorem dX5_placeOf_18 : decode cX5_placeOf 18 = .ok (.imul, 1) := by decide +kernel
theorem dX5_placeOf_19 : decode cX5_placeOf 19 = .ok (.aload_n 0, 1) := by decide +kernel
theorem dX5_placeOf_20 : decode cX5_placeOf 20 = .ok (.getfield 168, 3) := by decide +kernel
theorem dX5_placeOf_23 : decode cX5_placeOf 23 = .ok (.iadd, 1) := by decide +kernel
theorem dX5_placeOf_24 : decode cX5_placeOf 24 = .ok (.ireturn, 1) := by decide +kernel
theorem dJ9_max_7cf53_0 : decode cJ9_max_7cf53 0 = .ok (.iload_n 0, 1) := by decide +kernel
theorem dJ9_max_7cf53_1 : decode cJ9_max_7cf53 1 = .ok (.iload_n 1, 1) := by decide +kernel
theorem dJ9_max_7cf53_2 : decode cJ9_max_7cf53 2 = .ok (.if_icmp .lt 7, 3) := by decide +kernel
theorem dJ9_max_7cf53_5 : decode cJ9_max_7cf53 5 = .ok (.iload_n 0, 1) := by decide +kernel
theorem dJ9_max_7cf53_6 : decode cJ9_max_7cf53 6 = .ok (.goto 4, 3) := by decide +kernel
theorem dJ9_max_7cf53_9 : decode cJ9_max_7cf53 9 = .ok (.iload_n 1, 1) := by decide +kernel
theorem dJ9_max_7cf53_10 : decode cJ9_max_7cf53 10 = .ok (.ireturn, 1) := by decide +kernel
theorem dJ9_min_7cf53_0 : decode cJ9_min_7cf53 0 = .ok (.iload_n 0, 1) := by decide +kernel
theorem dJ9_min_7cf53_1 : decode cJ9_min_7cf53 1 = .ok (.iload_n 1, 1) := by decide +kernel
theorem dJ9_min_7cf53_2 : decode cJ9_min_7cf53 2 = .ok (.if_icmp .gt 7, 3) := by decide +kernel
theorem dJ9_min_7cf53_5 : decode cJ9_min_7cf53 5 = .ok (.iload_n 0, 1) := by decide +kernel
theorem dJ9_min_7cf53_6 : decode cJ9_min_7cf53 6 = .ok (.goto 4, 3) := by decide +kernel
theorem dJ9_min_7cf53_9 : decode cJ9_min_7cf53 9 = .ok (.iload_n 1, 1) := by decide +kernel
theorem dJ9_min_7cf53_10 : decode cJ9_min_7cf53 10 = .ok (.ireturn, 1) := by decide +kernel
theorem dL_cell_0 : decode cL_cell 0 = .ok (.iload_n 1, 1) := by decide +kernel
theorem dL_cell_1 : decode cL_cell 1 = .ok (.aload_n 0, 1) := by decide +kernel
theorem dL_cell_2 : decode cL_cell 2 = .ok (.arraylength, 1) := by decide +kernel
theorem dL_cell_3 : decode cL_cell 3 = .ok (.if_icmp .ge 9, 3) := by decide +kernel
theorem dL_cell_6 : decode cL_cell 6 = .ok (.aload_n 0, 1) := by decide +kernel
theorem dL_cell_7 : decode cL_cell 7 = .ok (.iload_n 1, 1) := by decide +kernel
theorem dL_cell_8 : decode cL_cell 8 = .ok (.iaload, 1) := by decide +kernel
theorem dL_cell_9 : decode cL_cell 9 = .ok (.goto 4, 3) := by decide +kernel
theorem dL_cell_12 : decode cL_cell 12 = .ok (.iconst 0, 1) := by decide +kernel
theorem dL_cell_13 : decode cL_cell 13 = .ok (.ireturn, 1) := by decide +kernel
theorem dL_alloc_0 : decode cL_alloc 0 = .ok (.aload 4, 2) := by decide +kernel
theorem dL_alloc_2 : decode cL_alloc 2 = .ok (.iconst 0, 1) := by decide +kernel
theorem dL_alloc_3 : decode cL_alloc 3 = .ok (.aload_n 0, 1) := by decide +kernel
theorem dL_alloc_4 : decode cL_alloc 4 = .ok (.iload_n 1, 1) := by decide +kernel
theorem dL_alloc_5 : decode cL_alloc 5 = .ok (.iload_n 2, 1) := by decide +kernel
theorem dL_alloc_6 : decode cL_alloc 6 = .ok (.iload_n 3, 1) := by decide +kernel
theorem dL_alloc_7 : decode cL_alloc 7 = .ok (.invokevirtual 7, 3) := by decide +kernel
theorem dL_alloc_10 : decode cL_alloc 10 = .ok (.i2l, 1) := by decide +kernel
theorem dL_alloc_11 : decode cL_alloc 11 = .ok (.lastore, 1) := by decide +kernel
theorem dL_alloc_12 : decode cL_alloc 12 = .ok (.goto 11, 3) := by decide +kernel
theorem dL_alloc_15 : decode cL_alloc 15 = .ok (.astore 5, 2) := by decide +kernel
theorem dL_alloc_17 : decode cL_alloc 17 = .ok (.iconst 1, 1) := by decide +kernel
theorem dL_alloc_18 : decode cL_alloc 18 = .ok (.ireturn, 1) := by decide +kernel
theorem dL_alloc_19 : decode cL_alloc 19 = .ok (.astore 5, 2) := by decide +kernel
theorem dL_alloc_21 : decode cL_alloc 21 = .ok (.iconst 2, 1) := by decide +kernel
theorem dL_alloc_22 : decode cL_alloc 22 = .ok (.ireturn, 1) := by decide +kernel
theorem dL_alloc_23 : decode cL_alloc 23 = .ok (.iconst 0, 1) := by decide +kernel
theorem dL_alloc_24 : decode cL_alloc 24 = .ok (.ireturn, 1) := by decide +kernel
theorem dL_move_0 : decode cL_move 0 = .ok (.aload_n 0, 1) := by decide +kernel
theorem dL_move_1 : decode cL_move 1 = .ok (.iload_n 1, 1) := by decide +kernel
theorem dL_move_2 : decode cL_move 2 = .ok (.iload_n 2, 1) := by decide +kernel
theorem dL_move_3 : decode cL_move 3 = .ok (.invokevirtual 17, 3) := by decide +kernel
theorem dL_move_6 : decode cL_move 6 = .ok (.goto 6, 3) := by decide +kernel
theorem dL_move_9 : decode cL_move 9 = .ok (.astore_n 3, 1) := by decide +kernel
theorem dL_move_10 : decode cL_move 10 = .ok (.iconst 1, 1) := by decide +kernel
theorem dL_move_11 : decode cL_move 11 = .ok (.ireturn, 1) := by decide +kernel
theorem dL_move_12 : decode cL_move 12 = .ok (.iconst 0, 1) := by decide +kernel
theorem dL_move_13 : decode cL_move 13 = .ok (.ireturn, 1) := by decide +kernel
theorem dL_drop_0 : decode cL_drop 0 = .ok (.aload_n 2, 1) := by decide +kernel
theorem dL_drop_1 : decode cL_drop 1 = .ok (.iconst 0, 1) := by decide +kernel
theorem dL_drop_2 : decode cL_drop 2 = .ok (.aload_n 0, 1) := by decide +kernel
theorem dL_drop_3 : decode cL_drop 3 = .ok (.iload_n 1, 1) := by decide +kernel
theorem dL_drop_4 : decode cL_drop 4 = .ok (.invokevirtual 21, 3) := by decide +kernel
theorem dL_drop_7 : decode cL_drop 7 = .ok (.ifCond .eq 7, 3) := by decide +kernel
theorem dL_drop_10 : decode cL_drop 10 = .ok (.lconst 1, 1) := by decide +kernel
theorem dL_drop_11 : decode cL_drop 11 = .ok (.goto 4, 3) := by decide +kernel
theorem dL_drop_14 : decode cL_drop 14 = .ok (.lconst 0, 1) := by decide +kernel
theorem dL_drop_15 : decode cL_drop 15 = .ok (.lastore, 1) := by decide +kernel
theorem dL_drop_16 : decode cL_drop 16 = .ok (.goto 6, 3) := by decide +kernel
theorem dL_drop_19 : decode cL_drop 19 = .ok (.astore_n 3, 1) := by decide +kernel
theorem dL_drop_20 : decode cL_drop 20 = .ok (.iconst 1, 1) := by decide +kernel
theorem dL_drop_21 : decode cL_drop 21 = .ok (.ireturn, 1) := by decide +kernel
theorem dL_drop_22 : decode cL_drop 22 = .ok (.iconst 0, 1) := by decide +kernel
theorem dL_drop_23 : decode cL_drop 23 = .ok (.ireturn, 1) := by decide +kernel
theorem dL_read_0 : decode cL_read 0 = .ok (.aload 4, 2) := by decide +kernel
theorem dL_read_2 : decode cL_read 2 = .ok (.iconst 0, 1) := by decide +kernel
theorem dL_read_3 : decode cL_read 3 = .ok (.aload_n 0, 1) := by decide +kernel
theorem dL_read_4 : decode cL_read 4 = .ok (.iload_n 1, 1) := by decide +kernel
theorem dL_read_5 : decode cL_read 5 = .ok (.iload_n 2, 1) := by decide +kernel
theorem dL_read_6 : decode cL_read 6 = .ok (.iload_n 3, 1) := by decide +kernel
theorem dL_read_7 : decode cL_read 7 = .ok (.invokevirtual 25, 3) := by decide +kernel
theorem dL_read_10 : decode cL_read 10 = .ok (.i2l, 1) := by decide +kernel
theorem dL_read_11 : decode cL_read 11 = .ok (.lastore, 1) := by decide +kernel
theorem dL_read_12 : decode cL_read 12 = .ok (.goto 11, 3) := by decide +kernel
theorem dL_read_15 : decode cL_read 15 = .ok (.astore 5, 2) := by decide +kernel
theorem dL_read_17 : decode cL_read 17 = .ok (.iconst 1, 1) := by decide +kernel
theorem dL_read_18 : decode cL_read 18 = .ok (.ireturn, 1) := by decide +kernel
theorem dL_read_19 : decode cL_read 19 = .ok (.astore 5, 2) := by decide +kernel
theorem dL_read_21 : decode cL_read 21 = .ok (.iconst 2, 1) := by decide +kernel
theorem dL_read_22 : decode cL_read 22 = .ok (.ireturn, 1) := by decide +kernel
theorem dL_read_23 : decode cL_read 23 = .ok (.iconst 0, 1) := by decide +kernel
theorem dL_read_24 : decode cL_read 24 = .ok (.ireturn, 1) := by decide +kernel
theorem dL_write_0 : decode cL_write 0 = .ok (.aload 4, 2) := by decide +kernel
theorem dL_write_2 : decode cL_write 2 = .ok (.iconst 0, 1) := by decide +kernel
theorem dL_write_3 : decode cL_write 3 = .ok (.aload_n 0, 1) := by decide +kernel
theorem dL_write_4 : decode cL_write 4 = .ok (.iload_n 1, 1) := by decide +kernel
theorem dL_write_5 : decode cL_write 5 = .ok (.iload_n 2, 1) := by decide +kernel
theorem dL_write_6 : decode cL_write 6 = .ok (.iload_n 3, 1) := by decide +kernel
theorem dL_write_7 : decode cL_write 7 = .ok (.invokevirtual 30, 3) := by decide +kernel
theorem dL_write_10 : decode cL_write 10 = .ok (.i2l, 1) := by decide +kernel
theorem dL_write_11 : decode cL_write 11 = .ok (.lastore, 1) := by decide +kernel
theorem dL_write_12 : decode cL_write 12 = .ok (.goto 11, 3) := by decide +kernel
theorem dL_write_15 : decode cL_write 15 = .ok (.astore 5, 2) := by decide +kernel
theorem dL_write_17 : decode cL_write 17 = .ok (.iconst 1, 1) := by decide +kernel
theorem dL_write_18 : decode cL_write 18 = .ok (.ireturn, 1) := by decide +kernel
theorem dL_write_19 : decode cL_write 19 = .ok (.astore 5, 2) := by decide +kernel
theorem dL_write_21 : decode cL_write 21 = .ok (.iconst 2, 1) := by decide +kernel
theorem dL_write_22 : decode cL_write 22 = .ok (.ireturn, 1) := by decide +kernel
theorem dL_write_23 : decode cL_write 23 = .ok (.iconst 0, 1) := by decide +kernel
theorem dL_write_24 : decode cL_write 24 = .ok (.ireturn, 1) := by decide +kernel
theorem dL_tag_0 : decode cL_tag 0 = .ok (.aload_n 2, 1) := by decide +kernel
theorem dL_tag_1 : decode cL_tag 1 = .ok (.iconst 0, 1) := by decide +kernel
theorem dL_tag_2 : decode cL_tag 2 = .ok (.aload_n 0, 1) := by decide +kernel
theorem dL_tag_3 : decode cL_tag 3 = .ok (.iload_n 1, 1) := by decide +kernel
theorem dL_tag_4 : decode cL_tag 4 = .ok (.invokevirtual 33, 3) := by decide +kernel
theorem dL_tag_7 : decode cL_tag 7 = .ok (.i2l, 1) := by decide +kernel
theorem dL_tag_8 : decode cL_tag 8 = .ok (.lastore, 1) := by decide +kernel
theorem dL_tag_9 : decode cL_tag 9 = .ok (.goto 9, 3) := by decide +kernel
theorem dL_tag_12 : decode cL_tag 12 = .ok (.astore_n 3, 1) := by decide +kernel
theorem dL_tag_13 : decode cL_tag 13 = .ok (.iconst 1, 1) := by decide +kernel
theorem dL_tag_14 : decode cL_tag 14 = .ok (.ireturn, 1) := by decide +kernel
theorem dL_tag_15 : decode cL_tag 15 = .ok (.astore_n 3, 1) := by decide +kernel
theorem dL_tag_16 : decode cL_tag 16 = .ok (.iconst 2, 1) := by decide +kernel
theorem dL_tag_17 : decode cL_tag 17 = .ok (.ireturn, 1) := by decide +kernel
theorem dL_tag_18 : decode cL_tag 18 = .ok (.iconst 0, 1) := by decide +kernel
theorem dL_tag_19 : decode cL_tag 19 = .ok (.ireturn, 1) := by decide +kernel
theorem dL_same_0 : decode cL_same 0 = .ok (.aload_n 3, 1) := by decide +kernel
theorem dL_same_1 : decode cL_same 1 = .ok (.iconst 0, 1) := by decide +kernel
theorem dL_same_2 : decode cL_same 2 = .ok (.aload_n 0, 1) := by decide +kernel
theorem dL_same_3 : decode cL_same 3 = .ok (.iload_n 1, 1) := by decide +kernel
theorem dL_same_4 : decode cL_same 4 = .ok (.iload_n 2, 1) := by decide +kernel
theorem dL_same_5 : decode cL_same 5 = .ok (.invokevirtual 37, 3) := by decide +kernel
theorem dL_same_8 : decode cL_same 8 = .ok (.ifCond .eq 7, 3) := by decide +kernel
theorem dL_same_11 : decode cL_same 11 = .ok (.lconst 1, 1) := by decide +kernel
theorem dL_same_12 : decode cL_same 12 = .ok (.goto 4, 3) := by decide +kernel
theorem dL_same_15 : decode cL_same 15 = .ok (.lconst 0, 1) := by decide +kernel
theorem dL_same_16 : decode cL_same 16 = .ok (.lastore, 1) := by decide +kernel
theorem dL_same_17 : decode cL_same 17 = .ok (.goto 7, 3) := by decide +kernel
theorem dL_same_20 : decode cL_same 20 = .ok (.astore 4, 2) := by decide +kernel
theorem dL_same_22 : decode cL_same 22 = .ok (.iconst 1, 1) := by decide +kernel
theorem dL_same_23 : decode cL_same 23 = .ok (.ireturn, 1) := by decide +kernel
theorem dL_same_24 : decode cL_same 24 = .ok (.iconst 0, 1) := by decide +kernel
theorem dL_same_25 : decode cL_same 25 = .ok (.ireturn, 1) := by decide +kernel
theorem dL_where_0 : decode cL_where 0 = .ok (.aload_n 2, 1) := by decide +kernel
theorem dL_where_1 : decode cL_where 1 = .ok (.iconst 0, 1) := by decide +kernel
theorem dL_where_2 : decode cL_where 2 = .ok (.aload_n 0, 1) := by decide +kernel
theorem dL_where_3 : decode cL_where 3 = .ok (.iload_n 1, 1) := by decide +kernel
theorem dL_where_4 : decode cL_where 4 = .ok (.invokevirtual 41, 3) := by decide +kernel
theorem dL_where_7 : decode cL_where 7 = .ok (.i2l, 1) := by decide +kernel
theorem dL_where_8 : decode cL_where 8 = .ok (.lastore, 1) := by decide +kernel
theorem dL_where_9 : decode cL_where 9 = .ok (.goto 6, 3) := by decide +kernel
theorem dL_where_12 : decode cL_where 12 = .ok (.astore_n 3, 1) := by decide +kernel
theorem dL_where_13 : decode cL_where 13 = .ok (.iconst 1, 1) := by decide +kernel
theorem dL_where_14 : decode cL_where 14 = .ok (.ireturn, 1) := by decide +kernel
theorem dL_where_15 : decode cL_where 15 = .ok (.iconst 0, 1) := by decide +kernel
theorem dL_where_16 : decode cL_where 16 = .ok (.ireturn, 1) := by decide +kernel
theorem dL_work_0 : decode cL_work 0 = .ok (.aload_n 2, 1) := by decide +kernel
theorem dL_work_1 : decode cL_work 1 = .ok (.iconst 0, 1) := by decide +kernel
theorem dL_work_2 : decode cL_work 2 = .ok (.aload_n 0, 1) := by decide +kernel
theorem dL_work_3 : decode cL_work 3 = .ok (.iload_n 1, 1) := by decide +kernel
theorem dL_work_4 : decode cL_work 4 = .ok (.invokevirtual 44, 3) := by decide +kernel
theorem dL_work_7 : decode cL_work 7 = .ok (.i2l, 1) := by decide +kernel
theorem dL_work_8 : decode cL_work 8 = .ok (.lastore, 1) := by decide +kernel
theorem dL_work_9 : decode cL_work 9 = .ok (.goto 6, 3) := by decide +kernel
theorem dL_work_12 : decode cL_work 12 = .ok (.astore_n 3, 1) := by decide +kernel
theorem dL_work_13 : decode cL_work 13 = .ok (.iconst 1, 1) := by decide +kernel
theorem dL_work_14 : decode cL_work 14 = .ok (.ireturn, 1) := by decide +kernel
theorem dL_work_15 : decode cL_work 15 = .ok (.iconst 0, 1) := by decide +kernel
theorem dL_work_16 : decode cL_work 16 = .ok (.ireturn, 1) := by decide +kernel
theorem dL_region_0 : decode cL_region 0 = .ok (.aload_n 3, 1) := by decide +kernel
theorem dL_region_1 : decode cL_region 1 = .ok (.iconst 0, 1) := by decide +kernel
theorem dL_region_2 : decode cL_region 2 = .ok (.aload_n 0, 1) := by decide +kernel
theorem dL_region_3 : decode cL_region 3 = .ok (.iload_n 1, 1) := by decide +kernel
theorem dL_region_4 : decode cL_region 4 = .ok (.iload_n 2, 1) := by decide +kernel
theorem dL_region_5 : decode cL_region 5 = .ok (.invokevirtual 47, 3) := by decide +kernel
theorem dL_region_8 : decode cL_region 8 = .ok (.i2l, 1) := by decide +kernel
theorem dL_region_9 : decode cL_region 9 = .ok (.lastore, 1) := by decide +kernel
theorem dL_region_10 : decode cL_region 10 = .ok (.goto 7, 3) := by decide +kernel
theorem dL_region_13 : decode cL_region 13 = .ok (.astore 4, 2) := by decide +kernel
theorem dL_region_15 : decode cL_region 15 = .ok (.iconst 1, 1) := by decide +kernel
theorem dL_region_16 : decode cL_region 16 = .ok (.ireturn, 1) := by decide +kernel
theorem dL_region_17 : decode cL_region 17 = .ok (.iconst 0, 1) := by decide +kernel
theorem dL_region_18 : decode cL_region 18 = .ok (.ireturn, 1) := by decide +kernel
