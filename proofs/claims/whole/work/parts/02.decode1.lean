theorem dX0_init_0 : decode cX0_init 0 = .ok (.aload_n 0, 1) := by decide +kernel
theorem dX0_init_1 : decode cX0_init 1 = .ok (.invokespecial 3, 3) := by decide +kernel
theorem dX0_init_4 : decode cX0_init 4 = .ok (.aload_n 0, 1) := by decide +kernel
theorem dX0_init_5 : decode cX0_init 5 = .ok (.new 9, 3) := by decide +kernel
theorem dX0_init_8 : decode cX0_init 8 = .ok (.dup, 1) := by decide +kernel
theorem dX0_init_9 : decode cX0_init 9 = .ok (.invokespecial 11, 3) := by decide +kernel
theorem dX0_init_12 : decode cX0_init 12 = .ok (.putfield 12, 3) := by decide +kernel
theorem dX0_init_15 : decode cX0_init 15 = .ok (.aload_n 0, 1) := by decide +kernel
theorem dX0_init_16 : decode cX0_init 16 = .ok (.new 9, 3) := by decide +kernel
theorem dX0_init_19 : decode cX0_init 19 = .ok (.dup, 1) := by decide +kernel
theorem dX0_init_20 : decode cX0_init 20 = .ok (.invokespecial 11, 3) := by decide +kernel
theorem dX0_init_23 : decode cX0_init 23 = .ok (.putfield 18, 3) := by decide +kernel
theorem dX0_init_26 : decode cX0_init 26 = .ok (.aload_n 0, 1) := by decide +kernel
theorem dX0_init_27 : decode cX0_init 27 = .ok (.bipush 80, 2) := by decide +kernel
theorem dX0_init_29 : decode cX0_init 29 = .ok (.newarray .int, 2) := by decide +kernel
theorem dX0_init_31 : decode cX0_init 31 = .ok (.putfield 21, 3) := by decide +kernel
theorem dX0_init_34 : decode cX0_init 34 = .ok (.aload_n 0, 1) := by decide +kernel
theorem dX0_init_35 : decode cX0_init 35 = .ok (.sipush 640, 3) := by decide +kernel
theorem dX0_init_38 : decode cX0_init 38 = .ok (.newarray .int, 2) := by decide +kernel
theorem dX0_init_40 : decode cX0_init 40 = .ok (.putfield 25, 3) := by decide +kernel
theorem dX0_init_43 : decode cX0_init 43 = .ok (.aload_n 0, 1) := by decide +kernel
theorem dX0_init_44 : decode cX0_init 44 = .ok (.bipush 9, 2) := by decide +kernel
theorem dX0_init_46 : decode cX0_init 46 = .ok (.newarray .long, 2) := by decide +kernel
theorem dX0_init_48 : decode cX0_init 48 = .ok (.putfield 28, 3) := by decide +kernel
theorem dX0_init_51 : decode cX0_init 51 = .ok (.aload_n 0, 1) := by decide +kernel
theorem dX0_init_52 : decode cX0_init 52 = .ok (.aload_n 1, 1) := by decide +kernel
theorem dX0_init_53 : decode cX0_init 53 = .ok (.putfield 32, 3) := by decide +kernel
theorem dX0_init_56 : decode cX0_init 56 = .ok (.aload_n 0, 1) := by decide +kernel
theorem dX0_init_57 : decode cX0_init 57 = .ok (.aload_n 2, 1) := by decide +kernel
theorem dX0_init_58 : decode cX0_init 58 = .ok (.putfield 36, 3) := by decide +kernel
theorem dX0_init_61 : decode cX0_init 61 = .ok (.aload_n 0, 1) := by decide +kernel
theorem dX0_init_62 : decode cX0_init 62 = .ok (.aload_n 3, 1) := by decide +kernel
theorem dX0_init_63 : decode cX0_init 63 = .ok (.putfield 40, 3) := by decide +kernel
theorem dX0_init_66 : decode cX0_init 66 = .ok (.return_, 1) := by decide +kernel
theorem dX0_maybe_0 : decode cX0_maybe 0 = .ok (.aload_n 0, 1) := by decide +kernel
theorem dX0_maybe_1 : decode cX0_maybe 1 = .ok (.getfield 12, 3) := by decide +kernel
theorem dX0_maybe_4 : decode cX0_maybe 4 = .ok (.iload_n 1, 1) := by decide +kernel
theorem dX0_maybe_5 : decode cX0_maybe 5 = .ok (.iload_n 2, 1) := by decide +kernel
theorem dX0_maybe_6 : decode cX0_maybe 6 = .ok (.invokevirtual 44, 3) := by decide +kernel
theorem dX0_maybe_9 : decode cX0_maybe 9 = .ok (.ireturn, 1) := by decide +kernel
theorem dX0_surely_0 : decode cX0_surely 0 = .ok (.aload_n 0, 1) := by decide +kernel
theorem dX0_surely_1 : decode cX0_surely 1 = .ok (.getfield 18, 3) := by decide +kernel
theorem dX0_surely_4 : decode cX0_surely 4 = .ok (.iload_n 1, 1) := by decide +kernel
theorem dX0_surely_5 : decode cX0_surely 5 = .ok (.iload_n 2, 1) := by decide +kernel
theorem dX0_surely_6 : decode cX0_surely 6 = .ok (.invokevirtual 44, 3) := by decide +kernel
theorem dX0_surely_9 : decode cX0_surely 9 = .ok (.ireturn, 1) := by decide +kernel
theorem dX0_cost_0 : decode cX0_cost 0 = .ok (.aload_n 0, 1) := by decide +kernel
theorem dX0_cost_1 : decode cX0_cost 1 = .ok (.getfield 21, 3) := by decide +kernel
theorem dX0_cost_4 : decode cX0_cost 4 = .ok (.iload_n 1, 1) := by decide +kernel
theorem dX0_cost_5 : decode cX0_cost 5 = .ok (.iaload, 1) := by decide +kernel
theorem dX0_cost_6 : decode cX0_cost 6 = .ok (.ireturn, 1) := by decide +kernel
theorem dX0_placeInOrder_0 : decode cX0_placeInOrder 0 = .ok (.aload_n 0, 1) := by decide +kernel
theorem dX0_placeInOrder_1 : decode cX0_placeInOrder 1 = .ok (.getfield 25, 3) := by decide +kernel
theorem dX0_placeInOrder_4 : decode cX0_placeInOrder 4 = .ok (.iload_n 1, 1) := by decide +kernel
theorem dX0_placeInOrder_5 : decode cX0_placeInOrder 5 = .ok (.bipush 8, 2) := by decide +kernel
theorem dX0_placeInOrder_7 : decode cX0_placeInOrder 7 = .ok (.imul, 1) := by decide +kernel
theorem dX0_placeInOrder_8 : decode cX0_placeInOrder 8 = .ok (.iload_n 2, 1) := by decide +kernel
theorem dX0_placeInOrder_9 : decode cX0_placeInOrder 9 = .ok (.iadd, 1) := by decide +kernel
theorem dX0_placeInOrder_10 : decode cX0_placeInOrder 10 = .ok (.iaload, 1) := by decide +kernel
theorem dX0_placeInOrder_11 : decode cX0_placeInOrder 11 = .ok (.ireturn, 1) := by decide +kernel
theorem dX0_forgetFrom_0 : decode cX0_forgetFrom 0 = .ok (.aload_n 0, 1) := by decide +kernel
theorem dX0_forgetFrom_1 : decode cX0_forgetFrom 1 = .ok (.aload_n 0, 1) := by decide +kernel
theorem dX0_forgetFrom_2 : decode cX0_forgetFrom 2 = .ok (.getfield 48, 3) := by decide +kernel
theorem dX0_forgetFrom_5 : decode cX0_forgetFrom 5 = .ok (.iload_n 1, 1) := by decide +kernel
theorem dX0_forgetFrom_6 : decode cX0_forgetFrom 6 = .ok (.invokestatic 52, 3) := by decide +kernel
theorem dX0_forgetFrom_9 : decode cX0_forgetFrom 9 = .ok (.putfield 48, 3) := by decide +kernel
theorem dX0_forgetFrom_12 : decode cX0_forgetFrom 12 = .ok (.return_, 1) := by decide +kernel
theorem dX0_prepare_0 : decode cX0_prepare 0 = .ok (.aload_n 0, 1) := by decide +kernel
theorem dX0_prepare_1 : decode cX0_prepare 1 = .ok (.getfield 48, 3) := by decide +kernel
theorem dX0_prepare_4 : decode cX0_prepare 4 = .ok (.istore_n 2, 1) := by decide +kernel
theorem dX0_prepare_5 : decode cX0_prepare 5 = .ok (.iload_n 2, 1) := by decide +kernel
theorem dX0_prepare_6 : decode cX0_prepare 6 = .ok (.iload_n 1, 1) := by decide +kernel
theorem dX0_prepare_7 : decode cX0_prepare 7 = .ok (.if_icmp .gt 58, 3) := by decide +kernel
theorem dX0_prepare_10 : decode cX0_prepare 10 = .ok (.aload_n 0, 1) := by decide +kernel
theorem dX0_prepare_11 : decode cX0_prepare 11 = .ok (.getfield 12, 3) := by decide +kernel
theorem dX0_prepare_14 : decode cX0_prepare 14 = .ok (.iload_n 2, 1) := by decide +kernel
theorem dX0_prepare_15 : decode cX0_prepare 15 = .ok (.invokevirtual 58, 3) := by decide +kernel
theorem dX0_prepare_18 : decode cX0_prepare 18 = .ok (.aload_n 0, 1) := by decide +kernel
theorem dX0_prepare_19 : decode cX0_prepare 19 = .ok (.getfield 18, 3) := by decide +kernel
theorem dX0_prepare_22 : decode cX0_prepare 22 = .ok (.iload_n 2, 1) := by decide +kernel
theorem dX0_prepare_23 : decode cX0_prepare 23 = .ok (.invokevirtual 58, 3) := by decide +kernel
theorem dX0_prepare_26 : decode cX0_prepare 26 = .ok (.aload_n 0, 1) := by decide +kernel
theorem dX0_prepare_27 : decode cX0_prepare 27 = .ok (.iload_n 2, 1) := by decide +kernel
theorem dX0_prepare_28 : decode cX0_prepare 28 = .ok (.invokevirtual 62, 3) := by decide +kernel
theorem dX0_prepare_31 : decode cX0_prepare 31 = .ok (.aload_n 0, 1) := by decide +kernel
theorem dX0_prepare_32 : decode cX0_prepare 32 = .ok (.getfield 21, 3) := by decide +kernel
theorem dX0_prepare_35 : decode cX0_prepare 35 = .ok (.iload_n 2, 1) := by decide +kernel
theorem dX0_prepare_36 : decode cX0_prepare 36 = .ok (.aload_n 0, 1) := by decide +kernel
theorem dX0_prepare_37 : decode cX0_prepare 37 = .ok (.iload_n 2, 1) := by decide +kernel
theorem dX0_prepare_38 : decode cX0_prepare 38 = .ok (.invokevirtual 65, 3) := by decide +kernel
theorem dX0_prepare_41 : decode cX0_prepare 41 = .ok (.iastore, 1) := by decide +kernel
theorem dX0_prepare_42 : decode cX0_prepare 42 = .ok (.aload_n 0, 1) := by decide +kernel
theorem dX0_prepare_43 : decode cX0_prepare 43 = .ok (.getfield 36, 3) := by decide +kernel
theorem dX0_prepare_46 : decode cX0_prepare 46 = .ok (.iload_n 2, 1) := by decide +kernel
theorem dX0_prepare_47 : decode cX0_prepare 47 = .ok (.invokevirtual 69, 3) := by decide +kernel
theorem dX0_prepare_50 : decode cX0_prepare 50 = .ok (.iconst 2, 1) := by decide +kernel
theorem dX0_prepare_51 : decode cX0_prepare 51 = .ok (.if_icmp .ne 8, 3) := by decide +kernel
theorem dX0_prepare_54 : decode cX0_prepare 54 = .ok (.aload_n 0, 1) := by decide +kernel
theorem dX0_prepare_55 : decode cX0_prepare 55 = .ok (.iload_n 2, 1) := by decide +kernel
theorem dX0_prepare_56 : decode cX0_prepare 56 = .ok (.invokevirtual 74, 3) := by decide +kernel
theorem dX0_prepare_59 : decode cX0_prepare 59 = .ok (.iinc 2 1, 3) := by decide +kernel
theorem dX0_prepare_62 : decode cX0_prepare 62 = .ok (.goto (-57), 3) := by decide +kernel
theorem dX0_prepare_65 : decode cX0_prepare 65 = .ok (.aload_n 0, 1) := by decide +kernel
theorem dX0_prepare_66 : decode cX0_prepare 66 = .ok (.aload_n 0, 1) := by decide +kernel
theorem dX0_prepare_67 : decode cX0_prepare 67 = .ok (.getfield 48, 3) := by decide +kernel
theorem dX0_prepare_70 : decode cX0_prepare 70 = .ok (.iload_n 1, 1) := by decide +kernel
theorem dX0_prepare_71 : decode cX0_prepare 71 = .ok (.iconst 1, 1) := by decide +kernel
theorem dX0_prepare_72 : decode cX0_prepare 72 = .ok (.iadd, 1) := by decide +kernel
theorem dX0_prepare_73 : decode cX0_prepare 73 = .ok (.invokestatic 77, 3) := by decide +kernel
theorem dX0_prepare_76 : decode cX0_prepare 76 = .ok (.putfield 48, 3) := by decide +kernel
theorem dX0_prepare_79 : decode cX0_prepare 79 = .ok (.return_, 1) := by decide +kernel
theorem dX0_fillRows_0 : decode cX0_fillRows 0 = .ok (.aload_n 0, 1) := by decide +kernel
theorem dX0_fillRows_1 : decode cX0_fillRows 1 = .ok (.getfield 36, 3) := by decide +kernel
theorem dX0_fillRows_4 : decode cX0_fillRows 4 = .ok (.iload_n 1, 1) := by decide +kernel
theorem dX0_fillRows_5 : decode cX0_fillRows 5 = .ok (.invokevirtual 69, 3) := by decide +kernel
theorem dX0_fillRows_8 : decode cX0_fillRows 8 = .ok (.tableswitch 108 0 6 #[44, 52, 60, 100, 100, 76, 68], 44) := by decide +kernel
theorem dX0_fillRows_52 : decode cX0_fillRows 52 = .ok (.aload_n 0, 1) := by decide +kernel
theorem dX0_fillRows_53 : decode cX0_fillRows 53 = .ok (.iload_n 1, 1) := by decide +kernel
theorem dX0_fillRows_54 : decode cX0_fillRows 54 = .ok (.invokevirtual 80, 3) := by decide +kernel
theorem dX0_fillRows_57 : decode cX0_fillRows 57 = .ok (.goto 59, 3) := by decide +kernel
theorem dX0_fillRows_60 : decode cX0_fillRows 60 = .ok (.aload_n 0, 1) := by decide +kernel
theorem dX0_fillRows_61 : decode cX0_fillRows 61 = .ok (.iload_n 1, 1) := by decide +kernel
theorem dX0_fillRows_62 : decode cX0_fillRows 62 = .ok (.invokevirtual 83, 3) := by decide +kernel
theorem dX0_fillRows_65 : decode cX0_fillRows 65 = .ok (.goto 51, 3) := by decide +kernel
theorem dX0_fillRows_68 : decode cX0_fillRows 68 = .ok (.aload_n 0, 1) := by decide +kernel
theorem dX0_fillRows_69 : decode cX0_fillRows 69 = .ok (.iload_n 1, 1) := by decide +kernel
theorem dX0_fillRows_70 : decode cX0_fillRows 70 = .ok (.invokevirtual 86, 3) := by decide +kernel
theorem dX0_fillRows_73 : decode cX0_fillRows 73 = .ok (.goto 43, 3) := by decide +kernel
theorem dX0_fillRows_76 : decode cX0_fillRows 76 = .ok (.aload_n 0, 1) := by decide +kernel
theorem dX0_fillRows_77 : decode cX0_fillRows 77 = .ok (.iload_n 1, 1) := by decide +kernel
theorem dX0_fillRows_78 : decode cX0_fillRows 78 = .ok (.invokevirtual 89, 3) := by decide +kernel
theorem dX0_fillRows_81 : decode cX0_fillRows 81 = .ok (.goto 35, 3) := by decide +kernel
theorem dX0_fillRows_84 : decode cX0_fillRows 84 = .ok (.aload_n 0, 1) := by decide +kernel
theorem dX0_fillRows_85 : decode cX0_fillRows 85 = .ok (.getfield 12, 3) := by decide +kernel
theorem dX0_fillRows_88 : decode cX0_fillRows 88 = .ok (.iload_n 1, 1) := by decide +kernel
theorem dX0_fillRows_89 : decode cX0_fillRows 89 = .ok (.aload_n 0, 1) := by decide +kernel
theorem dX0_fillRows_90 : decode cX0_fillRows 90 = .ok (.getfield 12, 3) := by decide +kernel
theorem dX0_fillRows_93 : decode cX0_fillRows 93 = .ok (.aload_n 0, 1) := by decide +kernel
theorem dX0_fillRows_94 : decode cX0_fillRows 94 = .ok (.getfield 36, 3) := by decide +kernel
theorem dX0_fillRows_97 : decode cX0_fillRows 97 = .ok (.iload_n 1, 1) := by decide +kernel
theorem dX0_fillRows_98 : decode cX0_fillRows 98 = .ok (.iconst 0, 1) := by decide +kernel
theorem dX0_fillRows_99 : decode cX0_fillRows 99 = .ok (.invokevirtual 92, 3) := by decide +kernel
theorem dX0_fillRows_102 : decode cX0_fillRows 102 = .ok (.invokevirtual 95, 3) := by decide +kernel
theorem dX0_fillRows_105 : decode cX0_fillRows 105 = .ok (.goto 11, 3) := by decide +kernel
theorem dX0_fillRows_108 : decode cX0_fillRows 108 = .ok (.aload_n 0, 1) := by decide +kernel
theorem dX0_fillRows_109 : decode cX0_fillRows 109 = .ok (.iload_n 1, 1) := by decide +kernel
theorem dX0_fillRows_110 : decode cX0_fillRows 110 = .ok (.invokevirtual 99, 3) := by decide +kernel
theorem dX0_fillRows_113 : decode cX0_fillRows 113 = .ok (.goto 3, 3) := by decide +kernel
theorem dX0_fillRows_116 : decode cX0_fillRows 116 = .ok (.return_, 1) := by decide +kernel
theorem dX0_fillByList_0 : decode cX0_fillByList 0 = .ok (.aload_n 0, 1) := by decide +kernel
theorem dX0_fillByList_1 : decode cX0_fillByList 1 = .ok (.getfield 36, 3) := by decide +kernel
theorem dX0_fillByList_4 : decode cX0_fillByList 4 = .ok (.iload_n 1, 1) := by decide +kernel
theorem dX0_fillByList_5 : decode cX0_fillByList 5 = .ok (.invokevirtual 102, 3) := by decide +kernel
theorem dX0_fillByList_8 : decode cX0_fillByList 8 = .ok (.istore_n 2, 1) := by decide +kernel
theorem dX0_fillByList_9 : decode cX0_fillByList 9 = .ok (.iconst 0, 1) := by decide +kernel
theorem dX0_fillByList_10 : decode cX0_fillByList 10 = .ok (.istore_n 3, 1) := by decide +kernel
theorem dX0_fillByList_11 : decode cX0_fillByList 11 = .ok (.iload_n 3, 1) := by decide +kernel
theorem dX0_fillByList_12 : decode cX0_fillByList 12 = .ok (.aload_n 0, 1) := by decide +kernel
theorem dX0_fillByList_13 : decode cX0_fillByList 13 = .ok (.getfield 32, 3) := by decide +kernel
theorem dX0_fillByList_16 : decode cX0_fillByList 16 = .ok (.iload_n 2, 1) := by decide +kernel
theorem dX0_fillByList_17 : decode cX0_fillByList 17 = .ok (.invokevirtual 105, 3) := by decide +kernel
theorem dX0_fillByList_20 : decode cX0_fillByList 20 = .ok (.if_icmp .ge 23, 3) := by decide +kernel
theorem dX0_fillByList_23 : decode cX0_fillByList 23 = .ok (.aload_n 0, 1) := by decide +kernel
theorem dX0_fillByList_24 : decode cX0_fillByList 24 = .ok (.iload_n 1, 1) := by decide +kernel
theorem dX0_fillByList_25 : decode cX0_fillByList 25 = .ok (.aload_n 0, 1) := by decide +kernel
theorem dX0_fillByList_26 : decode cX0_fillByList 26 = .ok (.getfield 32, 3) := by decide +kernel
theorem dX0_fillByList_29 : decode cX0_fillByList 29 = .ok (.iload_n 2, 1) := by decide +kernel
theorem dX0_fillByList_30 : decode cX0_fillByList 30 = .ok (.iload_n 3, 1) := by decide +kernel
theorem dX0_fillByList_31 : decode cX0_fillByList 31 = .ok (.invokevirtual 110, 3) := by decide +kernel
theorem dX0_fillByList_34 : decode cX0_fillByList 34 = .ok (.invokevirtual 113, 3) := by decide +kernel
theorem dX0_fillByList_37 : decode cX0_fillByList 37 = .ok (.iinc 3 1, 3) := by decide +kernel
theorem dX0_fillByList_40 : decode cX0_fillByList 40 = .ok (.goto (-29), 3) := by decide +kernel
theorem dX0_fillByList_43 : decode cX0_fillByList 43 = .ok (.return_, 1) := by decide +kernel
theorem dX0_fillByRange_0 : decode cX0_fillByRange 0 = .ok (.aload_n 0, 1) := by decide +kernel
theorem dX0_fillByRange_1 : decode cX0_fillByRange 1 = .ok (.getfield 36, 3) := by decide +kernel
theorem dX0_fillByRange_4 : decode cX0_fillByRange 4 = .ok (.iload_n 1, 1) := by decide +kernel
theorem dX0_fillByRange_5 : decode cX0_fillByRange 5 = .ok (.invokevirtual 102, 3) := by decide +kernel
theorem dX0_fillByRange_8 : decode cX0_fillByRange 8 = .ok (.istore_n 2, 1) := by decide +kernel
theorem dX0_fillByRange_9 : decode cX0_fillByRange 9 = .ok (.iload_n 2, 1) := by decide +kernel
theorem dX0_fillByRange_10 : decode cX0_fillByRange 10 = .ok (.aload_n 0, 1) := by decide +kernel
theorem dX0_fillByRange_11 : decode cX0_fillByRange 11 = .ok (.getfield 36, 3) := by decide +kernel
theorem dX0_fillByRange_14 : decode cX0_fillByRange 14 = .ok (.iload_n 1, 1) := by decide +kernel
theorem dX0_fillByRange_15 : decode cX0_fillByRange 15 = .ok (.invokevirtual 117, 3) := by decide +kernel
theorem dX0_fillByRange_18 : decode cX0_fillByRange 18 = .ok (.if_icmp .gt 15, 3) := by decide +kernel
theorem dX0_fillByRange_21 : decode cX0_fillByRange 21 = .ok (.aload_n 0, 1) := by decide +kernel
theorem dX0_fillByRange_22 : decode cX0_fillByRange 22 = .ok (.iload_n 1, 1) := by decide +kernel
theorem dX0_fillByRange_23 : decode cX0_fillByRange 23 = .ok (.iload_n 2, 1) := by decide +kernel
theorem dX0_fillByRange_24 : decode cX0_fillByRange 24 = .ok (.invokevirtual 113, 3) := by decide +kernel
theorem dX0_fillByRange_27 : decode cX0_fillByRange 27 = .ok (.iinc 2 1, 3) := by decide +kernel
theorem dX0_fillByRange_30 : decode cX0_fillByRange 30 = .ok (.goto (-21), 3) := by decide +kernel
theorem dX0_fillByRange_33 : decode cX0_fillByRange 33 = .ok (.return_, 1) := by decide +kernel
theorem dX0_addToBoth_0 : decode cX0_addToBoth 0 = .ok (.aload_n 0, 1) := by decide +kernel
theorem dX0_addToBoth_1 : decode cX0_addToBoth 1 = .ok (.getfield 12, 3) := by decide +kernel
theorem dX0_addToBoth_4 : decode cX0_addToBoth 4 = .ok (.iload_n 1, 1) := by decide +kernel
theorem dX0_addToBoth_5 : decode cX0_addToBoth 5 = .ok (.iload_n 2, 1) := by decide +kernel
theorem dX0_addToBoth_6 : decode cX0_addToBoth 6 = .ok (.invokevirtual 120, 3) := by decide +kernel
theorem dX0_addToBoth_9 : decode cX0_addToBoth 9 = .ok (.aload_n 0, 1) := by decide +kernel
theorem dX0_addToBoth_10 : decode cX0_addToBoth 10 = .ok (.getfield 18, 3) := by decide +kernel
theorem dX0_addToBoth_13 : decode cX0_addToBoth 13 = .ok (.iload_n 1, 1) := by decide +kernel
theorem dX0_addToBoth_14 : decode cX0_addToBoth 14 = .ok (.iload_n 2, 1) := by decide +kernel
theorem dX0_addToBoth_15 : decode cX0_addToBoth 15 = .ok (.invokevirtual 120, 3) := by decide +kernel
theorem dX0_addToBoth_18 : decode cX0_addToBoth 18 = .ok (.return_, 1) := by decide +kernel
theorem dX0_fillByKept_0 : decode cX0_fillByKept 0 = .ok (.aload_n 0, 1) := by decide +kernel
theorem dX0_fillByKept_1 : decode cX0_fillByKept 1 = .ok (.getfield 40, 3) := by decide +kernel
theorem dX0_fillByKept_4 : decode cX0_fillByKept 4 = .ok (.iload_n 1, 1) := by decide +kernel
theorem dX0_fillByKept_5 : decode cX0_fillByKept 5 = .ok (.invokevirtual 123, 3) := by decide +kernel
theorem dX0_fillByKept_8 : decode cX0_fillByKept 8 = .ok (.ifCond .eq 38, 3) := by decide +kernel
theorem dX0_fillByKept_11 : decode cX0_fillByKept 11 = .ok (.aload_n 0, 1) := by decide +kernel
theorem dX0_fillByKept_12 : decode cX0_fillByKept 12 = .ok (.getfield 12, 3) := by decide +kernel
theorem dX0_fillByKept_15 : decode cX0_fillByKept 15 = .ok (.iload_n 1, 1) := by decide +kernel
theorem dX0_fillByKept_16 : decode cX0_fillByKept 16 = .ok (.aload_n 0, 1) := by decide +kernel
theorem dX0_fillByKept_17 : decode cX0_fillByKept 17 = .ok (.getfield 40, 3) := by decide +kernel
theorem dX0_fillByKept_20 : decode cX0_fillByKept 20 = .ok (.invokevirtual 129, 3) := by decide +kernel
theorem dX0_fillByKept_23 : decode cX0_fillByKept 23 = .ok (.iload_n 1, 1) := by decide +kernel
theorem dX0_fillByKept_24 : decode cX0_fillByKept 24 = .ok (.invokevirtual 95, 3) := by decide +kernel
theorem dX0_fillByKept_27 : decode cX0_fillByKept 27 = .ok (.aload_n 0, 1) := by decide +kernel
theorem dX0_fillByKept_28 : decode cX0_fillByKept 28 = .ok (.getfield 18, 3) := by decide +kernel
theorem dX0_fillByKept_31 : decode cX0_fillByKept 31 = .ok (.iload_n 1, 1) := by decide +kernel
theorem dX0_fillByKept_32 : decode cX0_fillByKept 32 = .ok (.aload_n 0, 1) := by decide +kernel
theorem dX0_fillByKept_33 : decode cX0_fillByKept 33 = .ok (.getfield 40, 3) := by decide +kernel
theorem dX0_fillByKept_36 : decode cX0_fillByKept 36 = .ok (.invokevirtual 129, 3) := by decide +kernel
theorem dX0_fillByKept_39 : decode cX0_fillByKept 39 = .ok (.iload_n 1, 1) := by decide +kernel
theorem dX0_fillByKept_40 : decode cX0_fillByKept 40 = .ok (.invokevirtual 95, 3) := by decide +kernel
theorem dX0_fillByKept_43 : decode cX0_fillByKept 43 = .ok (.goto 8, 3) := by decide +kernel
theorem dX0_fillByKept_46 : decode cX0_fillByKept 46 = .ok (.aload_n 0, 1) := by decide +kernel
theorem dX0_fillByKept_47 : decode cX0_fillByKept 47 = .ok (.iload_n 1, 1) := by decide +kernel
theorem dX0_fillByKept_48 : decode cX0_fillByKept 48 = .ok (.invokevirtual 99, 3) := by decide +kernel
theorem dX0_fillByKept_51 : decode cX0_fillByKept 51 = .ok (.return_, 1) := by decide +kernel
theorem dX0_joinParts_0 : decode cX0_joinParts 0 = .ok (.iconst 0, 1) := by decide +kernel
theorem dX0_joinParts_1 : decode cX0_joinParts 1 = .ok (.istore_n 2, 1) := by decide +kernel
theorem dX0_joinParts_2 : decode cX0_joinParts 2 = .ok (.iload_n 2, 1) := by decide +kernel
theorem dX0_joinParts_3 : decode cX0_joinParts 3 = .ok (.aload_n 0, 1) := by decide +kernel
theorem dX0_joinParts_4 : decode cX0_joinParts 4 = .ok (.getfield 36, 3) := by decide +kernel
theorem dX0_joinParts_7 : decode cX0_joinParts 7 = .ok (.iload_n 1, 1) := by decide +kernel
theorem dX0_joinParts_8 : decode cX0_joinParts 8 = .ok (.invokevirtual 133, 3) := by decide +kernel
theorem dX0_joinParts_11 : decode cX0_joinParts 11 = .ok (.if_icmp .ge 51, 3) := by decide +kernel
theorem dX0_joinParts_14 : decode cX0_joinParts 14 = .ok (.aload_n 0, 1) := by decide +kernel
theorem dX0_joinParts_15 : decode cX0_joinParts 15 = .ok (.getfield 12, 3) := by decide +kernel
theorem dX0_joinParts_18 : decode cX0_joinParts 18 = .ok (.iload_n 1, 1) := by decide +kernel
theorem dX0_joinParts_19 : decode cX0_joinParts 19 = .ok (.aload_n 0, 1) := by decide +kernel
theorem dX0_joinParts_20 : decode cX0_joinParts 20 = .ok (.getfield 12, 3) := by decide +kernel
theorem dX0_joinParts_23 : decode cX0_joinParts 23 = .ok (.aload_n 0, 1) := by decide +kernel
theorem dX0_joinParts_24 : decode cX0_joinParts 24 = .ok (.getfield 36, 3) := by decide +kernel
theorem dX0_joinParts_27 : decode cX0_joinParts 27 = .ok (.iload_n 1, 1) := by decide +kernel
theorem dX0_joinParts_28 : decode cX0_joinParts 28 = .ok (.iload_n 2, 1) := by decide +kernel
theorem dX0_joinParts_29 : decode cX0_joinParts 29 = .ok (.invokevirtual 92, 3) := by decide +kernel
theorem dX0_joinParts_32 : decode cX0_joinParts 32 = .ok (.invokevirtual 95, 3) := by decide +kernel
theorem dX0_joinParts_35 : decode cX0_joinParts 35 = .ok (.aload_n 0, 1) := by decide +kernel
theorem dX0_joinParts_36 : decode cX0_joinParts 36 = .ok (.getfield 18, 3) := by decide +kernel
theorem dX0_joinParts_39 : decode cX0_joinParts 39 = .ok (.iload_n 1, 1) := by decide +kernel
theorem dX0_joinParts_40 : decode cX0_joinParts 40 = .ok (.aload_n 0, 1) := by decide +kernel
theorem dX0_joinParts_41 : decode cX0_joinParts 41 = .ok (.getfield 18, 3) := by decide +kernel
theorem dX0_joinParts_44 : decode cX0_joinParts 44 = .ok (.aload_n 0, 1) := by decide +kernel
theorem dX0_joinParts_45 : decode cX0_joinParts 45 = .ok (.getfield 36, 3) := by decide +kernel
theorem dX0_joinParts_48 : decode cX0_joinParts 48 = .ok (.iload_n 1, 1) := by decide +kernel
theorem dX0_joinParts_49 : decode cX0_joinParts 49 = .ok (.iload_n 2, 1) := by decide +kernel
theorem dX0_joinParts_50 : decode cX0_joinParts 50 = .ok (.invokevirtual 92, 3) := by decide +kernel
theorem dX0_joinParts_53 : decode cX0_joinParts 53 = .ok (.invokevirtual 95, 3) := by decide +kernel
theorem dX0_joinParts_56 : decode cX0_joinParts 56 = .ok (.iinc 2 1, 3) := by decide +kernel
theorem dX0_joinParts_59 : decode cX0_joinParts 59 = .ok (.goto (-57), 3) := by decide +kernel
theorem dX0_joinParts_62 : decode cX0_joinParts 62 = .ok (.return_, 1) := by decide +kernel
theorem dX0_fillByBool_0 : decode cX0_fillByBool 0 = .ok (.aload_n 0, 1) := by decide +kernel
theorem dX0_fillByBool_1 : decode cX0_fillByBool 1 = .ok (.getfield 36, 3) := by decide +kernel
theorem dX0_fillByBool_4 : decode cX0_fillByBool 4 = .ok (.iload_n 1, 1) := by decide +kernel
theorem dX0_fillByBool_5 : decode cX0_fillByBool 5 = .ok (.invokevirtual 134, 3) := by decide +kernel
theorem dX0_fillByBool_8 : decode cX0_fillByBool 8 = .ok (.istore_n 2, 1) := by decide +kernel
theorem dX0_fillByBool_9 : decode cX0_fillByBool 9 = .ok (.iconst 0, 1) := by decide +kernel
theorem dX0_fillByBool_10 : decode cX0_fillByBool 10 = .ok (.istore_n 3, 1) := by decide +kernel
theorem dX0_fillByBool_11 : decode cX0_fillByBool 11 = .ok (.iload_n 3, 1) := by decide +kernel
theorem dX0_fillByBool_12 : decode cX0_fillByBool 12 = .ok (.bipush 8, 2) := by decide +kernel
theorem dX0_fillByBool_14 : decode cX0_fillByBool 14 = .ok (.if_icmp .ge 57, 3) := by decide +kernel
theorem dX0_fillByBool_17 : decode cX0_fillByBool 17 = .ok (.aload_n 0, 1) := by decide +kernel
theorem dX0_fillByBool_18 : decode cX0_fillByBool 18 = .ok (.getfield 12, 3) := by decide +kernel
theorem dX0_fillByBool_21 : decode cX0_fillByBool 21 = .ok (.iload_n 1, 1) := by decide +kernel
theorem dX0_fillByBool_22 : decode cX0_fillByBool 22 = .ok (.iload_n 3, 1) := by decide +kernel
theorem dX0_fillByBool_23 : decode cX0_fillByBool 23 = .ok (.aload_n 0, 1) := by decide +kernel
theorem dX0_fillByBool_24 : decode cX0_fillByBool 24 = .ok (.iload_n 1, 1) := by decide +kernel
theorem dX0_fillByBool_25 : decode cX0_fillByBool 25 = .ok (.iload_n 3, 1) := by decide +kernel
theorem dX0_fillByBool_26 : decode cX0_fillByBool 26 = .ok (.iload_n 2, 1) := by decide +kernel
theorem dX0_fillByBool_27 : decode cX0_fillByBool 27 = .ok (.aload_n 0, 1) := by decide +kernel
theorem dX0_fillByBool_28 : decode cX0_fillByBool 28 = .ok (.getfield 12, 3) := by decide +kernel
theorem dX0_fillByBool_31 : decode cX0_fillByBool 31 = .ok (.aload_n 0, 1) := by decide +kernel
theorem dX0_fillByBool_32 : decode cX0_fillByBool 32 = .ok (.getfield 18, 3) := by decide +kernel
theorem dX0_fillByBool_35 : decode cX0_fillByBool 35 = .ok (.invokevirtual 137, 3) := by decide +kernel
theorem dX0_fillByBool_38 : decode cX0_fillByBool 38 = .ok (.invokevirtual 141, 3) := by decide +kernel
theorem dX0_fillByBool_41 : decode cX0_fillByBool 41 = .ok (.aload_n 0, 1) := by decide +kernel
theorem dX0_fillByBool_42 : decode cX0_fillByBool 42 = .ok (.getfield 18, 3) := by decide +kernel
theorem dX0_fillByBool_45 : decode cX0_fillByBool 45 = .ok (.iload_n 1, 1) := by decide +kernel
theorem dX0_fillByBool_46 : decode cX0_fillByBool 46 = .ok (.iload_n 3, 1) := by decide +kernel
theorem dX0_fillByBool_47 : decode cX0_fillByBool 47 = .ok (.aload_n 0, 1) := by decide +kernel
theorem dX0_fillByBool_48 : decode cX0_fillByBool 48 = .ok (.iload_n 1, 1) := by decide +kernel
theorem dX0_fillByBool_49 : decode cX0_fillByBool 49 = .ok (.iload_n 3, 1) := by decide +kernel
theorem dX0_fillByBool_50 : decode cX0_fillByBool 50 = .ok (.iload_n 2, 1) := by decide +kernel
theorem dX0_fillByBool_51 : decode cX0_fillByBool 51 = .ok (.aload_n 0, 1) := by decide +kernel
theorem dX0_fillByBool_52 : decode cX0_fillByBool 52 = .ok (.getfield 18, 3) := by decide +kernel
theorem dX0_fillByBool_55 : decode cX0_fillByBool 55 = .ok (.aload_n 0, 1) := by decide +kernel
theorem dX0_fillByBool_56 : decode cX0_fillByBool 56 = .ok (.getfield 12, 3) := by decide +kernel
theorem dX0_fillByBool_59 : decode cX0_fillByBool 59 = .ok (.invokevirtual 137, 3) := by decide +kernel
theorem dX0_fillByBool_62 : decode cX0_fillByBool 62 = .ok (.invokevirtual 141, 3) := by decide +kernel
theorem dX0_fillByBool_65 : decode cX0_fillByBool 65 = .ok (.iinc 3 1, 3) := by decide +kernel
theorem dX0_fillByBool_68 : decode cX0_fillByBool 68 = .ok (.goto (-57), 3) := by decide +kernel
theorem dX0_fillByBool_71 : decode cX0_fillByBool 71 = .ok (.return_, 1) := by decide +kernel
theorem dX0_boolWord_0 : decode cX0_boolWord 0 = .ok (.ldc2_w 145, 3) := by decide +kernel
theorem dX0_boolWord_3 : decode cX0_boolWord 3 = .ok (.lstore 6, 2) := by decide +kernel
theorem dX0_boolWord_5 : decode cX0_boolWord 5 = .ok (.aload_n 0, 1) := by decide +kernel
theorem dX0_boolWord_6 : decode cX0_boolWord 6 = .ok (.getfield 28, 3) := by decide +kernel
theorem dX0_boolWord_9 : decode cX0_boolWord 9 = .ok (.lconst 0, 1) := by decide +kernel
theorem dX0_boolWord_10 : decode cX0_boolWord 10 = .ok (.invokestatic 147, 3) := by decide +kernel
theorem dX0_boolWord_13 : decode cX0_boolWord 13 = .ok (.aload_n 0, 1) := by decide +kernel
theorem dX0_boolWord_14 : decode cX0_boolWord 14 = .ok (.getfield 28, 3) := by decide +kernel
theorem dX0_boolWord_17 : decode cX0_boolWord 17 = .ok (.iconst 0, 1) := by decide +kernel
theorem dX0_boolWord_18 : decode cX0_boolWord 18 = .ok (.ldc2_w 145, 3) := by decide +kernel
theorem dX0_boolWord_21 : decode cX0_boolWord 21 = .ok (.lastore, 1) := by decide +kernel
theorem dX0_boolWord_22 : decode cX0_boolWord 22 = .ok (.iconst 0, 1) := by decide +kernel
theorem dX0_boolWord_23 : decode cX0_boolWord 23 = .ok (.istore 8, 2) := by decide +kernel
theorem dX0_boolWord_25 : decode cX0_boolWord 25 = .ok (.iload 8, 2) := by decide +kernel
theorem dX0_boolWord_27 : decode cX0_boolWord 27 = .ok (.aload_n 0, 1) := by decide +kernel
theorem dX0_boolWord_28 : decode cX0_boolWord 28 = .ok (.getfield 36, 3) := by decide +kernel
theorem dX0_boolWord_31 : decode cX0_boolWord 31 = .ok (.iload_n 1, 1) := by decide +kernel
theorem dX0_boolWord_32 : decode cX0_boolWord 32 = .ok (.invokevirtual 133, 3) := by decide +kernel
theorem dX0_boolWord_35 : decode cX0_boolWord 35 = .ok (.if_icmp .ge 94, 3) := by decide +kernel
theorem dX0_boolWord_38 : decode cX0_boolWord 38 = .ok (.aload_n 0, 1) := by decide +kernel
theorem dX0_boolWord_39 : decode cX0_boolWord 39 = .ok (.getfield 36, 3) := by decide +kernel
theorem dX0_boolWord_42 : decode cX0_boolWord 42 = .ok (.iload_n 1, 1) := by decide +kernel
theorem dX0_boolWord_43 : decode cX0_boolWord 43 = .ok (.iload 8, 2) := by decide +kernel
theorem dX0_boolWord_45 : decode cX0_boolWord 45 = .ok (.invokevirtual 92, 3) := by decide +kernel
theorem dX0_boolWord_48 : decode cX0_boolWord 48 = .ok (.istore 9, 2) := by decide +kernel
theorem dX0_boolWord_50 : decode cX0_boolWord 50 = .ok (.aload_n 0, 1) := by decide +kernel
theorem dX0_boolWord_51 : decode cX0_boolWord 51 = .ok (.getfield 36, 3) := by decide +kernel
theorem dX0_boolWord_54 : decode cX0_boolWord 54 = .ok (.iload_n 1, 1) := by decide +kernel
theorem dX0_boolWord_55 : decode cX0_boolWord 55 = .ok (.iload 8, 2) := by decide +kernel
theorem dX0_boolWord_57 : decode cX0_boolWord 57 = .ok (.invokevirtual 153, 3) := by decide +kernel
theorem dX0_boolWord_60 : decode cX0_boolWord 60 = .ok (.istore 10, 2) := by decide +kernel
theorem dX0_boolWord_62 : decode cX0_boolWord 62 = .ok (.iload 10, 2) := by decide +kernel
theorem dX0_boolWord_64 : decode cX0_boolWord 64 = .ok (.iconst 2, 1) := by decide +kernel
theorem dX0_boolWord_65 : decode cX0_boolWord 65 = .ok (.if_icmp .ne 23, 3) := by decide +kernel
theorem dX0_boolWord_68 : decode cX0_boolWord 68 = .ok (.lload 6, 2) := by decide +kernel
theorem dX0_boolWord_70 : decode cX0_boolWord 70 = .ok (.aload 5, 2) := by decide +kernel
theorem dX0_boolWord_72 : decode cX0_boolWord 72 = .ok (.iload 9, 2) := by decide +kernel
theorem dX0_boolWord_74 : decode cX0_boolWord 74 = .ok (.iload_n 2, 1) := by decide +kernel
theorem dX0_boolWord_75 : decode cX0_boolWord 75 = .ok (.invokevirtual 156, 3) := by decide +kernel
theorem dX0_boolWord_78 : decode cX0_boolWord 78 = .ok (.ldc2_w 145, 3) := by decide +kernel
theorem dX0_boolWord_81 : decode cX0_boolWord 81 = .ok (.lxor, 1) := by decide +kernel
theorem dX0_boolWord_82 : decode cX0_boolWord 82 = .ok (.land, 1) := by decide +kernel
theorem dX0_boolWord_83 : decode cX0_boolWord 83 = .ok (.lstore 6, 2) := by decide +kernel
theorem dX0_boolWord_85 : decode cX0_boolWord 85 = .ok (.goto 38, 3) := by decide +kernel
theorem dX0_boolWord_88 : decode cX0_boolWord 88 = .ok (.iload 10, 2) := by decide +kernel
theorem dX0_boolWord_90 : decode cX0_boolWord 90 = .ok (.iconst 3, 1) := by decide +kernel
theorem dX0_boolWord_91 : decode cX0_boolWord 91 = .ok (.if_icmp .ne 19, 3) := by decide +kernel
theorem dX0_boolWord_94 : decode cX0_boolWord 94 = .ok (.aload_n 0, 1) := by decide +kernel
theorem dX0_boolWord_95 : decode cX0_boolWord 95 = .ok (.aload 4, 2) := by decide +kernel
theorem dX0_boolWord_97 : decode cX0_boolWord 97 = .ok (.iload 9, 2) := by decide +kernel
theorem dX0_boolWord_99 : decode cX0_boolWord 99 = .ok (.iload_n 2, 1) := by decide +kernel
theorem dX0_boolWord_100 : decode cX0_boolWord 100 = .ok (.invokevirtual 156, 3) := by decide +kernel
theorem dX0_boolWord_103 : decode cX0_boolWord 103 = .ok (.iload_n 3, 1) := by decide +kernel
theorem dX0_boolWord_104 : decode cX0_boolWord 104 = .ok (.invokevirtual 160, 3) := by decide +kernel
theorem dX0_boolWord_107 : decode cX0_boolWord 107 = .ok (.goto 16, 3) := by decide +kernel
theorem dX0_boolWord_110 : decode cX0_boolWord 110 = .ok (.lload 6, 2) := by decide +kernel
theorem dX0_boolWord_112 : decode cX0_boolWord 112 = .ok (.aload 4, 2) := by decide +kernel
theorem dX0_boolWord_114 : decode cX0_boolWord 114 = .ok (.iload 9, 2) := by decide +kernel
theorem dX0_boolWord_116 : decode cX0_boolWord 116 = .ok (.iload_n 2, 1) := by decide +kernel
theorem dX0_boolWord_117 : decode cX0_boolWord 117 = .ok (.invokevirtual 156, 3) := by decide +kernel
theorem dX0_boolWord_120 : decode cX0_boolWord 120 = .ok (.land, 1) := by decide +kernel
theorem dX0_boolWord_121 : decode cX0_boolWord 121 = .ok (.lstore 6, 2) := by decide +kernel
theorem dX0_boolWord_123 : decode cX0_boolWord 123 = .ok (.iinc 8 1, 3) := by decide +kernel
theorem dX0_boolWord_126 : decode cX0_boolWord 126 = .ok (.goto (-101), 3) := by decide +kernel
theorem dX0_boolWord_129 : decode cX0_boolWord 129 = .ok (.lload 6, 2) := by decide +kernel
theorem dX0_boolWord_131 : decode cX0_boolWord 131 = .ok (.aload_n 0, 1) := by decide +kernel
theorem dX0_boolWord_132 : decode cX0_boolWord 132 = .ok (.getfield 28, 3) := by decide +kernel
theorem dX0_boolWord_135 : decode cX0_boolWord 135 = .ok (.iload_n 3, 1) := by decide +kernel
theorem dX0_boolWord_136 : decode cX0_boolWord 136 = .ok (.laload, 1) := by decide +kernel
theorem dX0_boolWord_137 : decode cX0_boolWord 137 = .ok (.land, 1) := by decide +kernel
theorem dX0_boolWord_138 : decode cX0_boolWord 138 = .ok (.lreturn, 1) := by decide +kernel
theorem dX0_countIn_0 : decode cX0_countIn 0 = .ok (.iload_n 3, 1) := by decide +kernel
theorem dX0_countIn_1 : decode cX0_countIn 1 = .ok (.istore 4, 2) := by decide +kernel
theorem dX0_countIn_3 : decode cX0_countIn 3 = .ok (.iload 4, 2) := by decide +kernel
theorem dX0_countIn_5 : decode cX0_countIn 5 = .ok (.ifCond .le 30, 3) := by decide +kernel
theorem dX0_countIn_8 : decode cX0_countIn 8 = .ok (.aload_n 0, 1) := by decide +kernel
theorem dX0_countIn_9 : decode cX0_countIn 9 = .ok (.getfield 28, 3) := by decide +kernel
theorem dX0_countIn_12 : decode cX0_countIn 12 = .ok (.iload 4, 2) := by decide +kernel
theorem dX0_countIn_14 : decode cX0_countIn 14 = .ok (.dup2, 1) := by decide +kernel
theorem dX0_countIn_15 : decode cX0_countIn 15 = .ok (.laload, 1) := by decide +kernel
theorem dX0_countIn_16 : decode cX0_countIn 16 = .ok (.aload_n 0, 1) := by decide +kernel
theorem dX0_countIn_17 : decode cX0_countIn 17 = .ok (.getfield 28, 3) := by decide +kernel
theorem dX0_countIn_20 : decode cX0_countIn 20 = .ok (.iload 4, 2) := by decide +kernel
theorem dX0_countIn_22 : decode cX0_countIn 22 = .ok (.iconst 1, 1) := by decide +kernel
theorem dX0_countIn_23 : decode cX0_countIn 23 = .ok (.isub, 1) := by decide +kernel
theorem dX0_countIn_24 : decode cX0_countIn 24 = .ok (.laload, 1) := by decide +kernel
theorem dX0_countIn_25 : decode cX0_countIn 25 = .ok (.lload_n 1, 1) := by decide +kernel
theorem dX0_countIn_26 : decode cX0_countIn 26 = .ok (.land, 1) := by decide +kernel
theorem dX0_countIn_27 : decode cX0_countIn 27 = .ok (.lor, 1) := by decide +kernel
theorem dX0_countIn_28 : decode cX0_countIn 28 = .ok (.lastore, 1) := by decide +kernel
theorem dX0_countIn_29 : decode cX0_countIn 29 = .ok (.iinc 4 (-1), 3) := by decide +kernel
theorem dX0_countIn_32 : decode cX0_countIn 32 = .ok (.goto (-29), 3) := by decide +kernel
theorem dX0_countIn_35 : decode cX0_countIn 35 = .ok (.return_, 1) := by decide +kernel
theorem dX0_costOf_0 : decode cX0_costOf 0 = .ok (.aload_n 0, 1) := by decide +kernel
theorem dX0_costOf_1 : decode cX0_costOf 1 = .ok (.getfield 36, 3) := by decide +kernel
theorem dX0_costOf_4 : decode cX0_costOf 4 = .ok (.iload_n 1, 1) := by decide +kernel
theorem dX0_costOf_5 : decode cX0_costOf 5 = .ok (.invokevirtual 69, 3) := by decide +kernel
theorem dX0_costOf_8 : decode cX0_costOf 8 = .ok (.tableswitch 144 0 6 #[44, 60, 80, 86, 129, 129, 92], 44) := by decide +kernel
theorem dX0_costOf_52 : decode cX0_costOf 52 = .ok (.aload_n 0, 1) := by decide +kernel
theorem dX0_costOf_53 : decode cX0_costOf 53 = .ok (.getfield 32, 3) := by decide +kernel
theorem dX0_costOf_56 : decode cX0_costOf 56 = .ok (.aload_n 0, 1) := by decide +kernel
theorem dX0_costOf_57 : decode cX0_costOf 57 = .ok (.getfield 36, 3) := by decide +kernel
theorem dX0_costOf_60 : decode cX0_costOf 60 = .ok (.iload_n 1, 1) := by decide +kernel
theorem dX0_costOf_61 : decode cX0_costOf 61 = .ok (.invokevirtual 102, 3) := by decide +kernel
theorem dX0_costOf_64 : decode cX0_costOf 64 = .ok (.invokevirtual 105, 3) := by decide +kernel
theorem dX0_costOf_67 : decode cX0_costOf 67 = .ok (.ireturn, 1) := by decide +kernel
theorem dX0_costOf_68 : decode cX0_costOf 68 = .ok (.aload_n 0, 1) := by decide +kernel
theorem dX0_costOf_69 : decode cX0_costOf 69 = .ok (.getfield 36, 3) := by decide +kernel
theorem dX0_costOf_72 : decode cX0_costOf 72 = .ok (.iload_n 1, 1) := by decide +kernel
theorem dX0_costOf_73 : decode cX0_costOf 73 = .ok (.invokevirtual 117, 3) := by decide +kernel
theorem dX0_costOf_76 : decode cX0_costOf 76 = .ok (.aload_n 0, 1) := by decide +kernel
theorem dX0_costOf_77 : decode cX0_costOf 77 = .ok (.getfield 36, 3) := by decide +kernel
theorem dX0_costOf_80 : decode cX0_costOf 80 = .ok (.iload_n 1, 1) := by decide +kernel
theorem dX0_costOf_81 : decode cX0_costOf 81 = .ok (.invokevirtual 102, 3) := by decide +kernel
theorem dX0_costOf_84 : decode cX0_costOf 84 = .ok (.isub, 1) := by decide +kernel
theorem dX0_costOf_85 : decode cX0_costOf 85 = .ok (.iconst 1, 1) := by decide +kernel
theorem dX0_costOf_86 : decode cX0_costOf 86 = .ok (.iadd, 1) := by decide +kernel
theorem dX0_costOf_87 : decode cX0_costOf 87 = .ok (.ireturn, 1) := by decide +kernel
theorem dX0_costOf_88 : decode cX0_costOf 88 = .ok (.aload_n 0, 1) := by decide +kernel
theorem dX0_costOf_89 : decode cX0_costOf 89 = .ok (.iload_n 1, 1) := by decide +kernel
theorem dX0_costOf_90 : decode cX0_costOf 90 = .ok (.invokevirtual 164, 3) := by decide +kernel
theorem dX0_costOf_93 : decode cX0_costOf 93 = .ok (.ireturn, 1) := by decide +kernel
theorem dX0_costOf_94 : decode cX0_costOf 94 = .ok (.aload_n 0, 1) := by decide +kernel
theorem dX0_costOf_95 : decode cX0_costOf 95 = .ok (.iload_n 1, 1) := by decide +kernel
theorem dX0_costOf_96 : decode cX0_costOf 96 = .ok (.invokevirtual 167, 3) := by decide +kernel
theorem dX0_costOf_99 : decode cX0_costOf 99 = .ok (.ireturn, 1) := by decide +kernel
theorem dX0_costOf_100 : decode cX0_costOf 100 = .ok (.aload_n 0, 1) := by decide +kernel
theorem dX0_costOf_101 : decode cX0_costOf 101 = .ok (.getfield 40, 3) := by decide +kernel
theorem dX0_costOf_104 : decode cX0_costOf 104 = .ok (.iload_n 1, 1) := by decide +kernel
theorem dX0_costOf_105 : decode cX0_costOf 105 = .ok (.invokevirtual 123, 3) := by decide +kernel
theorem dX0_costOf_108 : decode cX0_costOf 108 = .ok (.ifCond .eq 14, 3) := by decide +kernel
theorem dX0_costOf_111 : decode cX0_costOf 111 = .ok (.aload_n 0, 1) := by decide +kernel
theorem dX0_costOf_112 : decode cX0_costOf 112 = .ok (.getfield 40, 3) := by decide +kernel
theorem dX0_costOf_115 : decode cX0_costOf 115 = .ok (.iload_n 1, 1) := by decide +kernel
theorem dX0_costOf_116 : decode cX0_costOf 116 = .ok (.invokevirtual 170, 3) := by decide +kernel
theorem dX0_costOf_119 : decode cX0_costOf 119 = .ok (.goto 17, 3) := by decide +kernel
theorem dX0_costOf_122 : decode cX0_costOf 122 = .ok (.aload_n 0, 1) := by decide +kernel
theorem dX0_costOf_123 : decode cX0_costOf 123 = .ok (.getfield 21, 3) := by decide +kernel
theorem dX0_costOf_126 : decode cX0_costOf 126 = .ok (.aload_n 0, 1) := by decide +kernel
theorem dX0_costOf_127 : decode cX0_costOf 127 = .ok (.getfield 36, 3) := by decide +kernel
theorem dX0_costOf_130 : decode cX0_costOf 130 = .ok (.iload_n 1, 1) := by decide +kernel
theorem dX0_costOf_131 : decode cX0_costOf 131 = .ok (.iconst 0, 1) := by decide +kernel
theorem dX0_costOf_132 : decode cX0_costOf 132 = .ok (.invokevirtual 92, 3) := by decide +kernel
theorem dX0_costOf_135 : decode cX0_costOf 135 = .ok (.iaload, 1) := by decide +kernel
theorem dX0_costOf_136 : decode cX0_costOf 136 = .ok (.ireturn, 1) := by decide +kernel
theorem dX0_costOf_137 : decode cX0_costOf 137 = .ok (.aload_n 0, 1) := by decide +kernel
theorem dX0_costOf_138 : decode cX0_costOf 138 = .ok (.getfield 21, 3) := by decide +kernel
theorem dX0_costOf_141 : decode cX0_costOf 141 = .ok (.aload_n 0, 1) := by decide +kernel
theorem dX0_costOf_142 : decode cX0_costOf 142 = .ok (.getfield 36, 3) := by decide +kernel
theorem dX0_costOf_145 : decode cX0_costOf 145 = .ok (.iload_n 1, 1) := by decide +kernel
theorem dX0_costOf_146 : decode cX0_costOf 146 = .ok (.iconst 0, 1) := by decide +kernel
theorem dX0_costOf_147 : decode cX0_costOf 147 = .ok (.invokevirtual 92, 3) := by decide +kernel
theorem dX0_costOf_150 : decode cX0_costOf 150 = .ok (.iaload, 1) := by decide +kernel
theorem dX0_costOf_151 : decode cX0_costOf 151 = .ok (.ireturn, 1) := by decide +kernel
theorem dX0_costOf_152 : decode cX0_costOf 152 = .ok (.iconst 0, 1) := by decide +kernel
theorem dX0_costOf_153 : decode cX0_costOf 153 = .ok (.ireturn, 1) := by decide +kernel
theorem dX0_costOfBool_0 : decode cX0_costOfBool 0 = .ok (.iconst (-1), 1) := by decide +kernel
theorem dX0_costOfBool_1 : decode cX0_costOfBool 1 = .ok (.istore_n 2, 1) := by decide +kernel
theorem dX0_costOfBool_2 : decode cX0_costOfBool 2 = .ok (.iconst 0, 1) := by decide +kernel
theorem dX0_costOfBool_3 : decode cX0_costOfBool 3 = .ok (.istore_n 3, 1) := by decide +kernel
theorem dX0_costOfBool_4 : decode cX0_costOfBool 4 = .ok (.iload_n 3, 1) := by decide +kernel
theorem dX0_costOfBool_5 : decode cX0_costOfBool 5 = .ok (.aload_n 0, 1) := by decide +kernel
theorem dX0_costOfBool_6 : decode cX0_costOfBool 6 = .ok (.getfield 36, 3) := by decide +kernel
theorem dX0_costOfBool_9 : decode cX0_costOfBool 9 = .ok (.iload_n 1, 1) := by decide +kernel
theorem dX0_costOfBool_10 : decode cX0_costOfBool 10 = .ok (.invokevirtual 133, 3) := by decide +kernel
theorem dX0_costOfBool_13 : decode cX0_costOfBool 13 = .ok (.if_icmp .ge 54, 3) := by decide +kernel
theorem dX0_costOfBool_16 : decode cX0_costOfBool 16 = .ok (.aload_n 0, 1) := by decide +kernel
theorem dX0_costOfBool_17 : decode cX0_costOfBool 17 = .ok (.getfield 21, 3) := by decide +kernel
theorem dX0_costOfBool_20 : decode cX0_costOfBool 20 = .ok (.aload_n 0, 1) := by decide +kernel
theorem dX0_costOfBool_21 : decode cX0_costOfBool 21 = .ok (.getfield 36, 3) := by decide +kernel
theorem dX0_costOfBool_24 : decode cX0_costOfBool 24 = .ok (.iload_n 1, 1) := by decide +kernel
theorem dX0_costOfBool_25 : decode cX0_costOfBool 25 = .ok (.iload_n 3, 1) := by decide +kernel
theorem dX0_costOfBool_26 : decode cX0_costOfBool 26 = .ok (.invokevirtual 92, 3) := by decide +kernel
theorem dX0_costOfBool_29 : decode cX0_costOfBool 29 = .ok (.iaload, 1) := by decide +kernel
theorem dX0_costOfBool_30 : decode cX0_costOfBool 30 = .ok (.istore 4, 2) := by decide +kernel
theorem dX0_costOfBool_32 : decode cX0_costOfBool 32 = .ok (.aload_n 0, 1) := by decide +kernel
theorem dX0_costOfBool_33 : decode cX0_costOfBool 33 = .ok (.getfield 36, 3) := by decide +kernel
theorem dX0_costOfBool_36 : decode cX0_costOfBool 36 = .ok (.iload_n 1, 1) := by decide +kernel
theorem dX0_costOfBool_37 : decode cX0_costOfBool 37 = .ok (.iload_n 3, 1) := by decide +kernel
theorem dX0_costOfBool_38 : decode cX0_costOfBool 38 = .ok (.invokevirtual 153, 3) := by decide +kernel
theorem dX0_costOfBool_41 : decode cX0_costOfBool 41 = .ok (.invokestatic 171, 3) := by decide +kernel
theorem dX0_costOfBool_44 : decode cX0_costOfBool 44 = .ok (.ifCond .eq 17, 3) := by decide +kernel
theorem dX0_costOfBool_47 : decode cX0_costOfBool 47 = .ok (.iload_n 2, 1) := by decide +kernel
theorem dX0_costOfBool_48 : decode cX0_costOfBool 48 = .ok (.iconst (-1), 1) := by decide +kernel
theorem dX0_costOfBool_49 : decode cX0_costOfBool 49 = .ok (.if_icmp .eq 9, 3) := by decide +kernel
theorem dX0_costOfBool_52 : decode cX0_costOfBool 52 = .ok (.iload 4, 2) := by decide +kernel
theorem dX0_costOfBool_54 : decode cX0_costOfBool 54 = .ok (.iload_n 2, 1) := by decide +kernel
theorem dX0_costOfBool_55 : decode cX0_costOfBool 55 = .ok (.if_icmp .ge 6, 3) := by decide +kernel
theorem dX0_costOfBool_58 : decode cX0_costOfBool 58 = .ok (.iload 4, 2) := by decide +kernel
theorem dX0_costOfBool_60 : decode cX0_costOfBool 60 = .ok (.istore_n 2, 1) := by decide +kernel
theorem dX0_costOfBool_61 : decode cX0_costOfBool 61 = .ok (.iinc 3 1, 3) := by decide +kernel
theorem dX0_costOfBool_64 : decode cX0_costOfBool 64 = .ok (.goto (-60), 3) := by decide +kernel
theorem dX0_costOfBool_67 : decode cX0_costOfBool 67 = .ok (.iload_n 2, 1) := by decide +kernel
theorem dX0_costOfBool_68 : decode cX0_costOfBool 68 = .ok (.iconst (-1), 1) := by decide +kernel
theorem dX0_costOfBool_69 : decode cX0_costOfBool 69 = .ok (.if_icmp .ne 11, 3) := by decide +kernel
theorem dX0_costOfBool_72 : decode cX0_costOfBool 72 = .ok (.aload_n 0, 1) := by decide +kernel
theorem dX0_costOfBool_73 : decode cX0_costOfBool 73 = .ok (.iload_n 1, 1) := by decide +kernel
theorem dX0_costOfBool_74 : decode cX0_costOfBool 74 = .ok (.invokevirtual 167, 3) := by decide +kernel
theorem dX0_costOfBool_77 : decode cX0_costOfBool 77 = .ok (.goto 4, 3) := by decide +kernel
theorem dX0_costOfBool_80 : decode cX0_costOfBool 80 = .ok (.iload_n 2, 1) := by decide +kernel
theorem dX0_costOfBool_81 : decode cX0_costOfBool 81 = .ok (.ireturn, 1) := by decide +kernel
theorem dX0_costOfShoulds_0 : decode cX0_costOfShoulds 0 = .ok (.iconst 0, 1) := by decide +kernel
theorem dX0_costOfShoulds_1 : decode cX0_costOfShoulds 1 = .ok (.istore_n 2, 1) := by decide +kernel
theorem dX0_costOfShoulds_2 : decode cX0_costOfShoulds 2 = .ok (.iconst 0, 1) := by decide +kernel
theorem dX0_costOfShoulds_3 : decode cX0_costOfShoulds 3 = .ok (.istore_n 3, 1) := by decide +kernel
theorem dX0_costOfShoulds_4 : decode cX0_costOfShoulds 4 = .ok (.iload_n 3, 1) := by decide +kernel
theorem dX0_costOfShoulds_5 : decode cX0_costOfShoulds 5 = .ok (.aload_n 0, 1) := by decide +kernel
theorem dX0_costOfShoulds_6 : decode cX0_costOfShoulds 6 = .ok (.getfield 36, 3) := by decide +kernel
theorem dX0_costOfShoulds_9 : decode cX0_costOfShoulds 9 = .ok (.iload_n 1, 1) := by decide +kernel
theorem dX0_costOfShoulds_10 : decode cX0_costOfShoulds 10 = .ok (.invokevirtual 133, 3) := by decide +kernel
theorem dX0_costOfShoulds_13 : decode cX0_costOfShoulds 13 = .ok (.if_icmp .ge 39, 3) := by decide +kernel
theorem dX0_costOfShoulds_16 : decode cX0_costOfShoulds 16 = .ok (.aload_n 0, 1) := by decide +kernel
theorem dX0_costOfShoulds_17 : decode cX0_costOfShoulds 17 = .ok (.getfield 36, 3) := by decide +kernel
theorem dX0_costOfShoulds_20 : decode cX0_costOfShoulds 20 = .ok (.iload_n 1, 1) := by decide +kernel
theorem dX0_costOfShoulds_21 : decode cX0_costOfShoulds 21 = .ok (.iload_n 3, 1) := by decide +kernel
theorem dX0_costOfShoulds_22 : decode cX0_costOfShoulds 22 = .ok (.invokevirtual 153, 3) := by decide +kernel
theorem dX0_costOfShoulds_25 : decode cX0_costOfShoulds 25 = .ok (.iconst 3, 1) := by decide +kernel
theorem dX0_costOfShoulds_26 : decode cX0_costOfShoulds 26 = .ok (.if_icmp .ne 20, 3) := by decide +kernel
theorem dX0_costOfShoulds_29 : decode cX0_costOfShoulds 29 = .ok (.iload_n 2, 1) := by decide +kernel
theorem dX0_costOfShoulds_30 : decode cX0_costOfShoulds 30 = .ok (.aload_n 0, 1) := by decide +kernel
theorem dX0_costOfShoulds_31 : decode cX0_costOfShoulds 31 = .ok (.getfield 21, 3) := by decide +kernel
theorem dX0_costOfShoulds_34 : decode cX0_costOfShoulds 34 = .ok (.aload_n 0, 1) := by decide +kernel
theorem dX0_costOfShoulds_35 : decode cX0_costOfShoulds 35 = .ok (.getfield 36, 3) := by decide +kernel
theorem dX0_costOfShoulds_38 : decode cX0_costOfShoulds 38 = .ok (.iload_n 1, 1) := by decide +kernel
theorem dX0_costOfShoulds_39 : decode cX0_costOfShoulds 39 = .ok (.iload_n 3, 1) := by decide +kernel
theorem dX0_costOfShoulds_40 : decode cX0_costOfShoulds 40 = .ok (.invokevirtual 92, 3) := by decide +kernel
theorem dX0_costOfShoulds_43 : decode cX0_costOfShoulds 43 = .ok (.iaload, 1) := by decide +kernel
theorem dX0_costOfShoulds_44 : decode cX0_costOfShoulds 44 = .ok (.iadd, 1) := by decide +kernel
theorem dX0_costOfShoulds_45 : decode cX0_costOfShoulds 45 = .ok (.istore_n 2, 1) := by decide +kernel
theorem dX0_costOfShoulds_46 : decode cX0_costOfShoulds 46 = .ok (.iinc 3 1, 3) := by decide +kernel
theorem dX0_costOfShoulds_49 : decode cX0_costOfShoulds 49 = .ok (.goto (-45), 3) := by decide +kernel
theorem dX0_costOfShoulds_52 : decode cX0_costOfShoulds 52 = .ok (.iload_n 2, 1) := by decide +kernel
theorem dX0_costOfShoulds_53 : decode cX0_costOfShoulds 53 = .ok (.sipush 512, 3) := by decide +kernel
theorem dX0_costOfShoulds_56 : decode cX0_costOfShoulds 56 = .ok (.invokestatic 52, 3) := by decide +kernel
theorem dX0_costOfShoulds_59 : decode cX0_costOfShoulds 59 = .ok (.ireturn, 1) := by decide +kernel
theorem dX0_arrange_0 : decode cX0_arrange 0 = .ok (.iload_n 1, 1) := by decide +kernel
theorem dX0_arrange_1 : decode cX0_arrange 1 = .ok (.bipush 8, 2) := by decide +kernel
theorem dX0_arrange_3 : decode cX0_arrange 3 = .ok (.imul, 1) := by decide +kernel
theorem dX0_arrange_4 : decode cX0_arrange 4 = .ok (.istore_n 2, 1) := by decide +kernel
theorem dX0_arrange_5 : decode cX0_arrange 5 = .ok (.iconst 0, 1) := by decide +kernel
theorem dX0_arrange_6 : decode cX0_arrange 6 = .ok (.istore_n 3, 1) := by decide +kernel
theorem dX0_arrange_7 : decode cX0_arrange 7 = .ok (.iload_n 3, 1) := by decide +kernel
theorem dX0_arrange_8 : decode cX0_arrange 8 = .ok (.aload_n 0, 1) := by decide +kernel
theorem dX0_arrange_9 : decode cX0_arrange 9 = .ok (.getfield 36, 3) := by decide +kernel
theorem dX0_arrange_12 : decode cX0_arrange 12 = .ok (.iload_n 1, 1) := by decide +kernel
theorem dX0_arrange_13 : decode cX0_arrange 13 = .ok (.invokevirtual 133, 3) := by decide +kernel
theorem dX0_arrange_16 : decode cX0_arrange 16 = .ok (.if_icmp .ge 77, 3) := by decide +kernel
theorem dX0_arrange_19 : decode cX0_arrange 19 = .ok (.aload_n 0, 1) := by decide +kernel
theorem dX0_arrange_20 : decode cX0_arrange 20 = .ok (.iload_n 1, 1) := by decide +kernel
theorem dX0_arrange_21 : decode cX0_arrange 21 = .ok (.iload_n 3, 1) := by decide +kernel
theorem dX0_arrange_22 : decode cX0_arrange 22 = .ok (.invokevirtual 174, 3) := by decide +kernel
theorem dX0_arrange_25 : decode cX0_arrange 25 = .ok (.istore 4, 2) := by decide +kernel
theorem dX0_arrange_27 : decode cX0_arrange 27 = .ok (.iload_n 2, 1) := by decide +kernel
theorem dX0_arrange_28 : decode cX0_arrange 28 = .ok (.iload_n 3, 1) := by decide +kernel
theorem dX0_arrange_29 : decode cX0_arrange 29 = .ok (.iadd, 1) := by decide +kernel
theorem dX0_arrange_30 : decode cX0_arrange 30 = .ok (.istore 5, 2) := by decide +kernel
theorem dX0_arrange_32 : decode cX0_arrange 32 = .ok (.iload 5, 2) := by decide +kernel
theorem dX0_arrange_34 : decode cX0_arrange 34 = .ok (.iload_n 2, 1) := by decide +kernel
theorem dX0_arrange_35 : decode cX0_arrange 35 = .ok (.if_icmp .le 44, 3) := by decide +kernel
theorem dX0_arrange_38 : decode cX0_arrange 38 = .ok (.aload_n 0, 1) := by decide +kernel
theorem dX0_arrange_39 : decode cX0_arrange 39 = .ok (.iload_n 1, 1) := by decide +kernel
theorem dX0_arrange_40 : decode cX0_arrange 40 = .ok (.aload_n 0, 1) := by decide +kernel
theorem dX0_arrange_41 : decode cX0_arrange 41 = .ok (.getfield 25, 3) := by decide +kernel
theorem dX0_arrange_44 : decode cX0_arrange 44 = .ok (.iload 5, 2) := by decide +kernel
theorem dX0_arrange_46 : decode cX0_arrange 46 = .ok (.iconst 1, 1) := by decide +kernel
theorem dX0_arrange_47 : decode cX0_arrange 47 = .ok (.isub, 1) := by decide +kernel
theorem dX0_arrange_48 : decode cX0_arrange 48 = .ok (.iaload, 1) := by decide +kernel
theorem dX0_arrange_49 : decode cX0_arrange 49 = .ok (.invokevirtual 174, 3) := by decide +kernel
theorem dX0_arrange_52 : decode cX0_arrange 52 = .ok (.iload 4, 2) := by decide +kernel
theorem dX0_arrange_54 : decode cX0_arrange 54 = .ok (.if_icmp .le 25, 3) := by decide +kernel
theorem dX0_arrange_57 : decode cX0_arrange 57 = .ok (.aload_n 0, 1) := by decide +kernel
theorem dX0_arrange_58 : decode cX0_arrange 58 = .ok (.getfield 25, 3) := by decide +kernel
theorem dX0_arrange_61 : decode cX0_arrange 61 = .ok (.iload 5, 2) := by decide +kernel
theorem dX0_arrange_63 : decode cX0_arrange 63 = .ok (.aload_n 0, 1) := by decide +kernel
theorem dX0_arrange_64 : decode cX0_arrange 64 = .ok (.getfield 25, 3) := by decide +kernel
theorem dX0_arrange_67 : decode cX0_arrange 67 = .ok (.iload 5, 2) := by decide +kernel
theorem dX0_arrange_69 : decode cX0_arrange 69 = .ok (.iconst 1, 1) := by decide +kernel
theorem dX0_arrange_70 : decode cX0_arrange 70 = .ok (.isub, 1) := by decide +kernel
theorem dX0_arrange_71 : decode cX0_arrange 71 = .ok (.iaload, 1) := by decide +kernel
theorem dX0_arrange_72 : decode cX0_arrange 72 = .ok (.iastore, 1) := by decide +kernel
theorem dX0_arrange_73 : decode cX0_arrange 73 = .ok (.iinc 5 (-1), 3) := by decide +kernel
theorem dX0_arrange_76 : decode cX0_arrange 76 = .ok (.goto (-44), 3) := by decide +kernel
theorem dX0_arrange_79 : decode cX0_arrange 79 = .ok (.aload_n 0, 1) := by decide +kernel
theorem dX0_arrange_80 : decode cX0_arrange 80 = .ok (.getfield 25, 3) := by decide +kernel
theorem dX0_arrange_83 : decode cX0_arrange 83 = .ok (.iload 5, 2) := by decide +kernel
theorem dX0_arrange_85 : decode cX0_arrange 85 = .ok (.iload_n 3, 1) := by decide +kernel
theorem dX0_arrange_86 : decode cX0_arrange 86 = .ok (.iastore, 1) := by decide +kernel
theorem dX0_arrange_87 : decode cX0_arrange 87 = .ok (.iinc 3 1, 3) := by decide +kernel
theorem dX0_arrange_90 : decode cX0_arrange 90 = .ok (.goto (-83), 3) := by decide +kernel
theorem dX0_arrange_93 : decode cX0_arrange 93 = .ok (.return_, 1) := by decide +kernel
theorem dX0_rankOf_0 : decode cX0_rankOf 0 = .ok (.aload_n 0, 1) := by decide +kernel
theorem dX0_rankOf_1 : decode cX0_rankOf 1 = .ok (.getfield 36, 3) := by decide +kernel
theorem dX0_rankOf_4 : decode cX0_rankOf 4 = .ok (.iload_n 1, 1) := by decide +kernel
theorem dX0_rankOf_5 : decode cX0_rankOf 5 = .ok (.iload_n 2, 1) := by decide +kernel
theorem dX0_rankOf_6 : decode cX0_rankOf 6 = .ok (.invokevirtual 153, 3) := by decide +kernel
theorem dX0_rankOf_9 : decode cX0_rankOf 9 = .ok (.istore_n 3, 1) := by decide +kernel
theorem dX0_rankOf_10 : decode cX0_rankOf 10 = .ok (.iload_n 3, 1) := by decide +kernel
theorem dX0_rankOf_11 : decode cX0_rankOf 11 = .ok (.invokestatic 171, 3) := by decide +kernel
theorem dX0_rankOf_14 : decode cX0_rankOf 14 = .ok (.ifCond .eq 20, 3) := by decide +kernel
theorem dX0_rankOf_17 : decode cX0_rankOf 17 = .ok (.aload_n 0, 1) := by decide +kernel
theorem dX0_rankOf_18 : decode cX0_rankOf 18 = .ok (.getfield 21, 3) := by decide +kernel
theorem dX0_rankOf_21 : decode cX0_rankOf 21 = .ok (.aload_n 0, 1) := by decide +kernel
theorem dX0_rankOf_22 : decode cX0_rankOf 22 = .ok (.getfield 36, 3) := by decide +kernel
theorem dX0_rankOf_25 : decode cX0_rankOf 25 = .ok (.iload_n 1, 1) := by decide +kernel
theorem dX0_rankOf_26 : decode cX0_rankOf 26 = .ok (.iload_n 2, 1) := by decide +kernel
theorem dX0_rankOf_27 : decode cX0_rankOf 27 = .ok (.invokevirtual 92, 3) := by decide +kernel
theorem dX0_rankOf_30 : decode cX0_rankOf 30 = .ok (.iaload, 1) := by decide +kernel
theorem dX0_rankOf_31 : decode cX0_rankOf 31 = .ok (.goto 8, 3) := by decide +kernel
theorem dX0_rankOf_34 : decode cX0_rankOf 34 = .ok (.sipush 512, 3) := by decide +kernel
theorem dX0_rankOf_37 : decode cX0_rankOf 37 = .ok (.iload_n 3, 1) := by decide +kernel
theorem dX0_rankOf_38 : decode cX0_rankOf 38 = .ok (.iadd, 1) := by decide +kernel
theorem dX0_rankOf_39 : decode cX0_rankOf 39 = .ok (.ireturn, 1) := by decide +kernel
theorem dX1_init_0 : decode cX1_init 0 = .ok (.aload_n 0, 1) := by decide +kernel
theorem dX1_init_1 : decode cX1_init 1 = .ok (.invokespecial 3, 3) := by decide +kernel
theorem dX1_init_4 : decode cX1_init 4 = .ok (.aload_n 0, 1) := by decide +kernel
theorem dX1_init_5 : decode cX1_init 5 = .ok (.sipush 512, 3) := by decide +kernel
theorem dX1_init_8 : decode cX1_init 8 = .ok (.newarray .int, 2) := by decide +kernel
theorem dX1_init_10 : decode cX1_init 10 = .ok (.putfield 9, 3) := by decide +kernel
theorem dX1_init_13 : decode cX1_init 13 = .ok (.aload_n 0, 1) := by decide +kernel
theorem dX1_init_14 : decode cX1_init 14 = .ok (.sipush 512, 3) := by decide +kernel
theorem dX1_init_17 : decode cX1_init 17 = .ok (.newarray .long, 2) := by decide +kernel
theorem dX1_init_19 : decode cX1_init 19 = .ok (.putfield 15, 3) := by decide +kernel
theorem dX1_init_22 : decode cX1_init 22 = .ok (.return_, 1) := by decide +kernel
theorem dX1_size_0 : decode cX1_size 0 = .ok (.aload_n 0, 1) := by decide +kernel
theorem dX1_size_1 : decode cX1_size 1 = .ok (.getfield 19, 3) := by decide +kernel
theorem dX1_size_4 : decode cX1_size 4 = .ok (.ireturn, 1) := by decide +kernel
theorem dX1_has_0 : decode cX1_has 0 = .ok (.iload_n 1, 1) := by decide +kernel
theorem dX1_has_1 : decode cX1_has 1 = .ok (.ifCond .lt 15, 3) := by decide +kernel
theorem dX1_has_4 : decode cX1_has 4 = .ok (.iload_n 1, 1) := by decide +kernel
theorem dX1_has_5 : decode cX1_has 5 = .ok (.aload_n 0, 1) := by decide +kernel
theorem dX1_has_6 : decode cX1_has 6 = .ok (.getfield 19, 3) := by decide +kernel
theorem dX1_has_9 : decode cX1_has 9 = .ok (.if_icmp .ge 7, 3) := by decide +kernel
theorem dX1_has_12 : decode cX1_has 12 = .ok (.iconst 1, 1) := by decide +kernel
theorem dX1_has_13 : decode cX1_has 13 = .ok (.goto 4, 3) := by decide +kernel
theorem dX1_has_16 : decode cX1_has 16 = .ok (.iconst 0, 1) := by decide +kernel
theorem dX1_has_17 : decode cX1_has 17 = .ok (.ireturn, 1) := by decide +kernel
theorem dX1_objectAt_0 : decode cX1_objectAt 0 = .ok (.aload_n 0, 1) := by decide +kernel
theorem dX1_objectAt_1 : decode cX1_objectAt 1 = .ok (.getfield 9, 3) := by decide +kernel
theorem dX1_objectAt_4 : decode cX1_objectAt 4 = .ok (.iload_n 1, 1) := by decide +kernel
theorem dX1_objectAt_5 : decode cX1_objectAt 5 = .ok (.iaload, 1) := by decide +kernel
theorem dX1_objectAt_6 : decode cX1_objectAt 6 = .ok (.ireturn, 1) := by decide +kernel
theorem dX1_scoreAt_0 : decode cX1_scoreAt 0 = .ok (.aload_n 0, 1) := by decide +kernel
theorem dX1_scoreAt_1 : decode cX1_scoreAt 1 = .ok (.getfield 15, 3) := by decide +kernel
theorem dX1_scoreAt_4 : decode cX1_scoreAt 4 = .ok (.iload_n 1, 1) := by decide +kernel
theorem dX1_scoreAt_5 : decode cX1_scoreAt 5 = .ok (.laload, 1) := by decide +kernel
theorem dX1_scoreAt_6 : decode cX1_scoreAt 6 = .ok (.lreturn, 1) := by decide +kernel
theorem dX1_clear_0 : decode cX1_clear 0 = .ok (.aload_n 0, 1) := by decide +kernel
theorem dX1_clear_1 : decode cX1_clear 1 = .ok (.iconst 0, 1) := by decide +kernel
theorem dX1_clear_2 : decode cX1_clear 2 = .ok (.putfield 19, 3) := by decide +kernel
theorem dX1_clear_5 : decode cX1_clear 5 = .ok (.return_, 1) := by decide +kernel
theorem dX1_add_0 : decode cX1_add 0 = .ok (.aload_n 0, 1) := by decide +kernel
theorem dX1_add_1 : decode cX1_add 1 = .ok (.getfield 19, 3) := by decide +kernel
theorem dX1_add_4 : decode cX1_add 4 = .ok (.sipush 512, 3) := by decide +kernel
theorem dX1_add_7 : decode cX1_add 7 = .ok (.if_icmp .ge 33, 3) := by decide +kernel
theorem dX1_add_10 : decode cX1_add 10 = .ok (.aload_n 0, 1) := by decide +kernel
theorem dX1_add_11 : decode cX1_add 11 = .ok (.getfield 9, 3) := by decide +kernel
theorem dX1_add_14 : decode cX1_add 14 = .ok (.aload_n 0, 1) := by decide +kernel
theorem dX1_add_15 : decode cX1_add 15 = .ok (.getfield 19, 3) := by decide +kernel
theorem dX1_add_18 : decode cX1_add 18 = .ok (.iload_n 1, 1) := by decide +kernel
theorem dX1_add_19 : decode cX1_add 19 = .ok (.iastore, 1) := by decide +kernel
theorem dX1_add_20 : decode cX1_add 20 = .ok (.aload_n 0, 1) := by decide +kernel
theorem dX1_add_21 : decode cX1_add 21 = .ok (.getfield 15, 3) := by decide +kernel
theorem dX1_add_24 : decode cX1_add 24 = .ok (.aload_n 0, 1) := by decide +kernel
theorem dX1_add_25 : decode cX1_add 25 = .ok (.getfield 19, 3) := by decide +kernel
theorem dX1_add_28 : decode cX1_add 28 = .ok (.lload_n 2, 1) := by decide +kernel
theorem dX1_add_29 : decode cX1_add 29 = .ok (.lastore, 1) := by decide +kernel
theorem dX1_add_30 : decode cX1_add 30 = .ok (.aload_n 0, 1) := by decide +kernel
theorem dX1_add_31 : decode cX1_add 31 = .ok (.dup, 1) := by decide +kernel
theorem dX1_add_32 : decode cX1_add 32 = .ok (.getfield 19, 3) := by decide +kernel
theorem dX1_add_35 : decode cX1_add 35 = .ok (.iconst 1, 1) := by decide +kernel
theorem dX1_add_36 : decode cX1_add 36 = .ok (.iadd, 1) := by decide +kernel
theorem dX1_add_37 : decode cX1_add 37 = .ok (.putfield 19, 3) := by decide +kernel
theorem dX1_add_40 : decode cX1_add 40 = .ok (.return_, 1) := by decide +kernel
theorem dX2_init_0 : decode cX2_init 0 = .ok (.aload_n 0, 1) := by decide +kernel
theorem dX2_init_1 : decode cX2_init 1 = .ok (.invokespecial 3, 3) := by decide +kernel
theorem dX2_init_4 : decode cX2_init 4 = .ok (.aload_n 0, 1) := by decide +kernel
theorem dX2_init_5 : decode cX2_init 5 = .ok (.bipush 8, 2) := by decide +kernel
theorem dX2_init_7 : decode cX2_init 7 = .ok (.newarray .boolean, 2) := by decide +kernel
theorem dX2_init_9 : decode cX2_init 9 = .ok (.putfield 9, 3) := by decide +kernel
theorem dX2_init_12 : decode cX2_init 12 = .ok (.aload_n 0, 1) := by decide +kernel
theorem dX2_init_13 : decode cX2_init 13 = .ok (.bipush 8, 2) := by decide +kernel
theorem dX2_init_15 : decode cX2_init 15 = .ok (.newarray .int, 2) := by decide +kernel
theorem dX2_init_17 : decode cX2_init 17 = .ok (.putfield 15, 3) := by decide +kernel
theorem dX2_init_20 : decode cX2_init 20 = .ok (.aload_n 0, 1) := by decide +kernel
theorem dX2_init_21 : decode cX2_init 21 = .ok (.bipush 8, 2) := by decide +kernel
theorem dX2_init_23 : decode cX2_init 23 = .ok (.newarray .int, 2) := by decide +kernel
theorem dX2_init_25 : decode cX2_init 25 = .ok (.putfield 19, 3) := by decide +kernel
theorem dX2_init_28 : decode cX2_init 28 = .ok (.aload_n 0, 1) := by decide +kernel
theorem dX2_init_29 : decode cX2_init 29 = .ok (.bipush 8, 2) := by decide +kernel
theorem dX2_init_31 : decode cX2_init 31 = .ok (.newarray .int, 2) := by decide +kernel
theorem dX2_init_33 : decode cX2_init 33 = .ok (.putfield 22, 3) := by decide +kernel
theorem dX2_init_36 : decode cX2_init 36 = .ok (.return_, 1) := by decide +kernel
theorem dX2_isOpen_0 : decode cX2_isOpen 0 = .ok (.iload_n 1, 1) := by decide +kernel
theorem dX2_isOpen_1 : decode cX2_isOpen 1 = .ok (.bipush 7, 2) := by decide +kernel
theorem dX2_isOpen_3 : decode cX2_isOpen 3 = .ok (.invokestatic 25, 3) := by decide +kernel
theorem dX2_isOpen_6 : decode cX2_isOpen 6 = .ok (.ifCond .eq 16, 3) := by decide +kernel
theorem dX2_isOpen_9 : decode cX2_isOpen 9 = .ok (.aload_n 0, 1) := by decide +kernel
theorem dX2_isOpen_10 : decode cX2_isOpen 10 = .ok (.getfield 9, 3) := by decide +kernel
theorem dX2_isOpen_13 : decode cX2_isOpen 13 = .ok (.iload_n 1, 1) := by decide +kernel
theorem dX2_isOpen_14 : decode cX2_isOpen 14 = .ok (.baload, 1) := by decide +kernel
theorem dX2_isOpen_15 : decode cX2_isOpen 15 = .ok (.ifCond .eq 7, 3) := by decide +kernel
theorem dX2_isOpen_18 : decode cX2_isOpen 18 = .ok (.iconst 1, 1) := by decide +kernel
theorem dX2_isOpen_19 : decode cX2_isOpen 19 = .ok (.goto 4, 3) := by decide +kernel
theorem dX2_isOpen_22 : decode cX2_isOpen 22 = .ok (.iconst 0, 1) := by decide +kernel
theorem dX2_isOpen_23 : decode cX2_isOpen 23 = .ok (.ireturn, 1) := by decide +kernel
theorem dX2_nodeOf_0 : decode cX2_nodeOf 0 = .ok (.aload_n 0, 1) := by decide +kernel
theorem dX2_nodeOf_1 : decode cX2_nodeOf 1 = .ok (.getfield 15, 3) := by decide +kernel
theorem dX2_nodeOf_4 : decode cX2_nodeOf 4 = .ok (.iload_n 1, 1) := by decide +kernel
theorem dX2_nodeOf_5 : decode cX2_nodeOf 5 = .ok (.iaload, 1) := by decide +kernel
theorem dX2_nodeOf_6 : decode cX2_nodeOf 6 = .ok (.ireturn, 1) := by decide +kernel
theorem dX2_standOf_0 : decode cX2_standOf 0 = .ok (.aload_n 0, 1) := by decide +kernel
theorem dX2_standOf_1 : decode cX2_standOf 1 = .ok (.getfield 19, 3) := by decide +kernel
theorem dX2_standOf_4 : decode cX2_standOf 4 = .ok (.iload_n 1, 1) := by decide +kernel
theorem dX2_standOf_5 : decode cX2_standOf 5 = .ok (.iaload, 1) := by decide +kernel
theorem dX2_standOf_6 : decode cX2_standOf 6 = .ok (.ireturn, 1) := by decide +kernel
theorem dX2_start_0 : decode cX2_start 0 = .ok (.iconst 0, 1) := by decide +kernel
theorem dX2_start_1 : decode cX2_start 1 = .ok (.istore_n 2, 1) := by decide +kernel
theorem dX2_start_2 : decode cX2_start 2 = .ok (.iload_n 2, 1) := by decide +kernel
theorem dX2_start_3 : decode cX2_start 3 = .ok (.bipush 8, 2) := by decide +kernel
theorem dX2_start_5 : decode cX2_start 5 = .ok (.if_icmp .ge 48, 3) := by decide +kernel
theorem dX2_start_8 : decode cX2_start 8 = .ok (.aload_n 0, 1) := by decide +kernel
theorem dX2_start_9 : decode cX2_start 9 = .ok (.getfield 9, 3) := by decide +kernel
theorem dX2_start_12 : decode cX2_start 12 = .ok (.iload_n 2, 1) := by decide +kernel
theorem dX2_start_13 : decode cX2_start 13 = .ok (.baload, 1) := by decide +kernel
theorem dX2_start_14 : decode cX2_start 14 = .ok (.ifCond .ne 33, 3) := by decide +kernel
theorem dX2_start_17 : decode cX2_start 17 = .ok (.aload_n 0, 1) := by decide +kernel
theorem dX2_start_18 : decode cX2_start 18 = .ok (.getfield 9, 3) := by decide +kernel
theorem dX2_start_21 : decode cX2_start 21 = .ok (.iload_n 2, 1) := by decide +kernel
theorem dX2_start_22 : decode cX2_start 22 = .ok (.iconst 1, 1) := by decide +kernel
theorem dX2_start_23 : decode cX2_start 23 = .ok (.bastore, 1) := by decide +kernel
theorem dX2_start_24 : decode cX2_start 24 = .ok (.aload_n 0, 1) := by decide +kernel
theorem dX2_start_25 : decode cX2_start 25 = .ok (.getfield 15, 3) := by decide +kernel
theorem dX2_start_28 : decode cX2_start 28 = .ok (.iload_n 2, 1) := by decide +kernel
theorem dX2_start_29 : decode cX2_start 29 = .ok (.iload_n 1, 1) := by decide +kernel
theorem dX2_start_30 : decode cX2_start 30 = .ok (.iastore, 1) := by decide +kernel
theorem dX2_start_31 : decode cX2_start 31 = .ok (.aload_n 0, 1) := by decide +kernel
theorem dX2_start_32 : decode cX2_start 32 = .ok (.getfield 19, 3) := by decide +kernel
theorem dX2_start_35 : decode cX2_start 35 = .ok (.iload_n 2, 1) := by decide +kernel
theorem dX2_start_36 : decode cX2_start 36 = .ok (.iconst (-1), 1) := by decide +kernel
theorem dX2_start_37 : decode cX2_start 37 = .ok (.iastore, 1) := by decide +kernel
theorem dX2_start_38 : decode cX2_start 38 = .ok (.aload_n 0, 1) := by decide +kernel
theorem dX2_start_39 : decode cX2_start 39 = .ok (.getfield 22, 3) := by decide +kernel
theorem dX2_start_42 : decode cX2_start 42 = .ok (.iload_n 2, 1) := by decide +kernel
theorem dX2_start_43 : decode cX2_start 43 = .ok (.iconst 0, 1) := by decide +kernel
theorem dX2_start_44 : decode cX2_start 44 = .ok (.iastore, 1) := by decide +kernel
theorem dX2_start_45 : decode cX2_start 45 = .ok (.iload_n 2, 1) := by decide +kernel
theorem dX2_start_46 : decode cX2_start 46 = .ok (.ireturn, 1) := by decide +kernel
theorem dX2_start_47 : decode cX2_start 47 = .ok (.iinc 2 1, 3) := by decide +kernel
theorem dX2_start_50 : decode cX2_start 50 = .ok (.goto (-48), 3) := by decide +kernel
theorem dX2_start_53 : decode cX2_start 53 = .ok (.bipush (-3), 2) := by decide +kernel
theorem dX2_start_55 : decode cX2_start 55 = .ok (.ireturn, 1) := by decide +kernel
theorem dX2_stopAt_0 : decode cX2_stopAt 0 = .ok (.aload_n 0, 1) := by decide +kernel
theorem dX2_stopAt_1 : decode cX2_stopAt 1 = .ok (.getfield 19, 3) := by decide +kernel
theorem dX2_stopAt_4 : decode cX2_stopAt 4 = .ok (.iload_n 1, 1) := by decide +kernel
theorem dX2_stopAt_5 : decode cX2_stopAt 5 = .ok (.iload_n 2, 1) := by decide +kernel
theorem dX2_stopAt_6 : decode cX2_stopAt 6 = .ok (.iastore, 1) := by decide +kernel
theorem dX2_stopAt_7 : decode cX2_stopAt 7 = .ok (.aload_n 0, 1) := by decide +kernel
theorem dX2_stopAt_8 : decode cX2_stopAt 8 = .ok (.getfield 22, 3) := by decide +kernel
theorem dX2_stopAt_11 : decode cX2_stopAt 11 = .ok (.iload_n 1, 1) := by decide +kernel
theorem dX2_stopAt_12 : decode cX2_stopAt 12 = .ok (.dup2, 1) := by decide +kernel
theorem dX2_stopAt_13 : decode cX2_stopAt 13 = .ok (.iaload, 1) := by decide +kernel
theorem dX2_stopAt_14 : decode cX2_stopAt 14 = .ok (.iconst 1, 1) := by decide +kernel
theorem dX2_stopAt_15 : decode cX2_stopAt 15 = .ok (.iadd, 1) := by decide +kernel
theorem dX2_stopAt_16 : decode cX2_stopAt 16 = .ok (.iastore, 1) := by decide +kernel
theorem dX2_stopAt_17 : decode cX2_stopAt 17 = .ok (.return_, 1) := by decide +kernel
theorem dX2_finish_0 : decode cX2_finish 0 = .ok (.aload_n 0, 1) := by decide +kernel
theorem dX2_finish_1 : decode cX2_finish 1 = .ok (.getfield 19, 3) := by decide +kernel
theorem dX2_finish_4 : decode cX2_finish 4 = .ok (.iload_n 1, 1) := by decide +kernel
theorem dX2_finish_5 : decode cX2_finish 5 = .ok (.sipush 511, 3) := by decide +kernel
theorem dX2_finish_8 : decode cX2_finish 8 = .ok (.iastore, 1) := by decide +kernel
theorem dX2_finish_9 : decode cX2_finish 9 = .ok (.return_, 1) := by decide +kernel
theorem dX2_end_0 : decode cX2_end 0 = .ok (.aload_n 0, 1) := by decide +kernel
theorem dX2_end_1 : decode cX2_end 1 = .ok (.getfield 9, 3) := by decide +kernel
theorem dX2_end_4 : decode cX2_end 4 = .ok (.iload_n 1, 1) := by decide +kernel
theorem dX2_end_5 : decode cX2_end 5 = .ok (.iconst 0, 1) := by decide +kernel
theorem dX2_end_6 : decode cX2_end 6 = .ok (.bastore, 1) := by decide +kernel
theorem dX2_end_7 : decode cX2_end 7 = .ok (.aload_n 0, 1) := by decide +kernel
theorem dX2_end_8 : decode cX2_end 8 = .ok (.getfield 22, 3) := by decide +kernel
theorem dX2_end_11 : decode cX2_end 11 = .ok (.iload_n 1, 1) := by decide +kernel
theorem dX2_end_12 : decode cX2_end 12 = .ok (.iaload, 1) := by decide +kernel
theorem dX2_end_13 : decode cX2_end 13 = .ok (.ireturn, 1) := by decide +kernel
theorem dX2_countOpen_0 : decode cX2_countOpen 0 = .ok (.iconst 0, 1) := by decide +kernel
theorem dX2_countOpen_1 : decode cX2_countOpen 1 = .ok (.istore_n 1, 1) := by decide +kernel
theorem dX2_countOpen_2 : decode cX2_countOpen 2 = .ok (.iconst 0, 1) := by decide +kernel
theorem dX2_countOpen_3 : decode cX2_countOpen 3 = .ok (.istore_n 2, 1) := by decide +kernel
theorem dX2_countOpen_4 : decode cX2_countOpen 4 = .ok (.iload_n 2, 1) := by decide +kernel
theorem dX2_countOpen_5 : decode cX2_countOpen 5 = .ok (.bipush 8, 2) := by decide +kernel
theorem dX2_countOpen_7 : decode cX2_countOpen 7 = .ok (.if_icmp .ge 21, 3) := by decide +kernel
theorem dX2_countOpen_10 : decode cX2_countOpen 10 = .ok (.aload_n 0, 1) := by decide +kernel
theorem dX2_countOpen_11 : decode cX2_countOpen 11 = .ok (.getfield 9, 3) := by decide +kernel
theorem dX2_countOpen_14 : decode cX2_countOpen 14 = .ok (.iload_n 2, 1) := by decide +kernel
theorem dX2_countOpen_15 : decode cX2_countOpen 15 = .ok (.baload, 1) := by decide +kernel
theorem dX2_countOpen_16 : decode cX2_countOpen 16 = .ok (.ifCond .eq 6, 3) := by decide +kernel
theorem dX2_countOpen_19 : decode cX2_countOpen 19 = .ok (.iinc 1 1, 3) := by decide +kernel
theorem dX2_countOpen_22 : decode cX2_countOpen 22 = .ok (.iinc 2 1, 3) := by decide +kernel
theorem dX2_countOpen_25 : decode cX2_countOpen 25 = .ok (.goto (-21), 3) := by decide +kernel
theorem dX2_countOpen_28 : decode cX2_countOpen 28 = .ok (.iload_n 1, 1) := by decide +kernel
theorem dX2_countOpen_29 : decode cX2_countOpen 29 = .ok (.ireturn, 1) := by decide +kernel
theorem dX3_init_0 : decode cX3_init 0 = .ok (.aload_n 0, 1) := by decide +kernel
theorem dX3_init_1 : decode cX3_init 1 = .ok (.invokespecial 3, 3) := by decide +kernel
theorem dX3_init_4 : decode cX3_init 4 = .ok (.aload_n 0, 1) := by decide +kernel
theorem dX3_init_5 : decode cX3_init 5 = .ok (.sipush 960, 3) := by decide +kernel
theorem dX3_init_8 : decode cX3_init 8 = .ok (.newarray .int, 2) := by decide +kernel
theorem dX3_init_10 : decode cX3_init 10 = .ok (.putfield 9, 3) := by decide +kernel
theorem dX3_init_13 : decode cX3_init 13 = .ok (.aload_n 0, 1) := by decide +kernel
theorem dX3_init_14 : decode cX3_init 14 = .ok (.sipush 960, 3) := by decide +kernel
theorem dX3_init_17 : decode cX3_init 17 = .ok (.newarray .int, 2) := by decide +kernel
theorem dX3_init_19 : decode cX3_init 19 = .ok (.putfield 15, 3) := by decide +kernel
theorem dX3_init_22 : decode cX3_init 22 = .ok (.aload_n 0, 1) := by decide +kernel
theorem dX3_init_23 : decode cX3_init 23 = .ok (.bipush 16, 2) := by decide +kernel
theorem dX3_init_25 : decode cX3_init 25 = .ok (.newarray .int, 2) := by decide +kernel
theorem dX3_init_27 : decode cX3_init 27 = .ok (.putfield 18, 3) := by decide +kernel
theorem dX3_init_30 : decode cX3_init 30 = .ok (.return_, 1) := by decide +kernel
theorem dX3_size_0 : decode cX3_size 0 = .ok (.aload_n 0, 1) := by decide +kernel
theorem dX3_size_1 : decode cX3_size 1 = .ok (.getfield 18, 3) := by decide +kernel
theorem dX3_size_4 : decode cX3_size 4 = .ok (.iload_n 1, 1) := by decide +kernel
theorem dX3_size_5 : decode cX3_size 5 = .ok (.iaload, 1) := by decide +kernel
theorem dX3_size_6 : decode cX3_size 6 = .ok (.ireturn, 1) := by decide +kernel
theorem dX3_objectAt_0 : decode cX3_objectAt 0 = .ok (.aload_n 0, 1) := by decide +kernel
theorem dX3_objectAt_1 : decode cX3_objectAt 1 = .ok (.getfield 9, 3) := by decide +kernel
theorem dX3_objectAt_4 : decode cX3_objectAt 4 = .ok (.iload_n 1, 1) := by decide +kernel
theorem dX3_objectAt_5 : decode cX3_objectAt 5 = .ok (.bipush 60, 2) := by decide +kernel
theorem dX3_objectAt_7 : decode cX3_objectAt 7 = .ok (.imul, 1) := by decide +kernel
theorem dX3_objectAt_8 : decode cX3_objectAt 8 = .ok (.iload_n 2, 1) := by decide +kernel
theorem dX3_objectAt_9 : decode cX3_objectAt 9 = .ok (.iadd, 1) := by decide +kernel
theorem dX3_objectAt_10 : decode cX3_objectAt 10 = .ok (.iaload, 1) := by decide +kernel
theorem dX3_objectAt_11 : decode cX3_objectAt 11 = .ok (.ireturn, 1) := by decide +kernel
theorem dX3_placeOf_0 : decode cX3_placeOf 0 = .ok (.iload_n 1, 1) := by decide +kernel
theorem dX3_placeOf_1 : decode cX3_placeOf 1 = .ok (.bipush 60, 2) := by decide +kernel
theorem dX3_placeOf_3 : decode cX3_placeOf 3 = .ok (.imul, 1) := by decide +kernel
theorem dX3_placeOf_4 : decode cX3_placeOf 4 = .ok (.istore_n 3, 1) := by decide +kernel
theorem dX3_placeOf_5 : decode cX3_placeOf 5 = .ok (.iload_n 3, 1) := by decide +kernel
theorem dX3_placeOf_6 : decode cX3_placeOf 6 = .ok (.aload_n 0, 1) := by decide +kernel
theorem dX3_placeOf_7 : decode cX3_placeOf 7 = .ok (.getfield 18, 3) := by decide +kernel
theorem dX3_placeOf_10 : decode cX3_placeOf 10 = .ok (.iload_n 1, 1) := by decide +kernel
theorem dX3_placeOf_11 : decode cX3_placeOf 11 = .ok (.iaload, 1) := by decide +kernel
theorem dX3_placeOf_12 : decode cX3_placeOf 12 = .ok (.iadd, 1) := by decide +kernel
theorem dX3_placeOf_13 : decode cX3_placeOf 13 = .ok (.istore 4, 2) := by decide +kernel
theorem dX3_placeOf_15 : decode cX3_placeOf 15 = .ok (.iload_n 3, 1) := by decide +kernel
theorem dX3_placeOf_16 : decode cX3_placeOf 16 = .ok (.istore 5, 2) := by decide +kernel
theorem dX3_placeOf_18 : decode cX3_placeOf 18 = .ok (.iload 5, 2) := by decide +kernel
theorem dX3_placeOf_20 : decode cX3_placeOf 20 = .ok (.iload 4, 2) := by decide +kernel
theorem dX3_placeOf_22 : decode cX3_placeOf 22 = .ok (.if_icmp .ge 23, 3) := by decide +kernel
theorem dX3_placeOf_25 : decode cX3_placeOf 25 = .ok (.aload_n 0, 1) := by decide +kernel
theorem dX3_placeOf_26 : decode cX3_placeOf 26 = .ok (.getfield 9, 3) := by decide +kernel
theorem dX3_placeOf_29 : decode cX3_placeOf 29 = .ok (.iload 5, 2) := by decide +kernel
theorem dX3_placeOf_31 : decode cX3_placeOf 31 = .ok (.iaload, 1) := by decide +kernel
theorem dX3_placeOf_32 : decode cX3_placeOf 32 = .ok (.iload_n 2, 1) := by decide +kernel
theorem dX3_placeOf_33 : decode cX3_placeOf 33 = .ok (.if_icmp .ne 6, 3) := by decide +kernel
theorem dX3_placeOf_36 : decode cX3_placeOf 36 = .ok (.iload 5, 2) := by decide +kernel
theorem dX3_placeOf_38 : decode cX3_placeOf 38 = .ok (.ireturn, 1) := by decide +kernel
theorem dX3_placeOf_39 : decode cX3_placeOf 39 = .ok (.iinc 5 1, 3) := by decide +kernel
theorem dX3_placeOf_42 : decode cX3_placeOf 42 = .ok (.goto (-24), 3) := by decide +kernel
theorem dX3_placeOf_45 : decode cX3_placeOf 45 = .ok (.iconst (-1), 1) := by decide +kernel
theorem dX3_placeOf_46 : decode cX3_placeOf 46 = .ok (.ireturn, 1) := by decide +kernel
theorem dX3_weightOf_0 : decode cX3_weightOf 0 = .ok (.aload_n 0, 1) := by decide +kernel
theorem dX3_weightOf_1 : decode cX3_weightOf 1 = .ok (.iload_n 1, 1) := by decide +kernel
theorem dX3_weightOf_2 : decode cX3_weightOf 2 = .ok (.iload_n 2, 1) := by decide +kernel
theorem dX3_weightOf_3 : decode cX3_weightOf 3 = .ok (.invokevirtual 21, 3) := by decide +kernel
theorem dX3_weightOf_6 : decode cX3_weightOf 6 = .ok (.istore_n 3, 1) := by decide +kernel
theorem dX3_weightOf_7 : decode cX3_weightOf 7 = .ok (.iload_n 3, 1) := by decide +kernel
theorem dX3_weightOf_8 : decode cX3_weightOf 8 = .ok (.iconst (-1), 1) := by decide +kernel
theorem dX3_weightOf_9 : decode cX3_weightOf 9 = .ok (.if_icmp .ne 7, 3) := by decide +kernel
theorem dX3_weightOf_12 : decode cX3_weightOf 12 = .ok (.iconst 0, 1) := by decide +kernel
theorem dX3_weightOf_13 : decode cX3_weightOf 13 = .ok (.goto 9, 3) := by decide +kernel
theorem dX3_weightOf_16 : decode cX3_weightOf 16 = .ok (.aload_n 0, 1) := by decide +kernel
theorem dX3_weightOf_17 : decode cX3_weightOf 17 = .ok (.getfield 15, 3) := by decide +kernel
theorem dX3_weightOf_20 : decode cX3_weightOf 20 = .ok (.iload_n 3, 1) := by decide +kernel
theorem dX3_weightOf_21 : decode cX3_weightOf 21 = .ok (.iaload, 1) := by decide +kernel
theorem dX3_weightOf_22 : decode cX3_weightOf 22 = .ok (.ireturn, 1) := by decide +kernel
theorem dX3_store_0 : decode cX3_store 0 = .ok (.aload_n 0, 1) := by decide +kernel
theorem dX3_store_1 : decode cX3_store 1 = .ok (.iload_n 1, 1) := by decide +kernel
theorem dX3_store_2 : decode cX3_store 2 = .ok (.iload_n 2, 1) := by decide +kernel
theorem dX3_store_3 : decode cX3_store 3 = .ok (.invokevirtual 21, 3) := by decide +kernel
theorem dX3_store_6 : decode cX3_store 6 = .ok (.istore 4, 2) := by decide +kernel
theorem dX3_store_8 : decode cX3_store 8 = .ok (.iload 4, 2) := by decide +kernel
theorem dX3_store_10 : decode cX3_store 10 = .ok (.iconst (-1), 1) := by decide +kernel
theorem dX3_store_11 : decode cX3_store 11 = .ok (.if_icmp .ne 39, 3) := by decide +kernel
theorem dX3_store_14 : decode cX3_store 14 = .ok (.aload_n 0, 1) := by decide +kernel
theorem dX3_store_15 : decode cX3_store 15 = .ok (.getfield 18, 3) := by decide +kernel
theorem dX3_store_18 : decode cX3_store 18 = .ok (.iload_n 1, 1) := by decide +kernel
theorem dX3_store_19 : decode cX3_store 19 = .ok (.iaload, 1) := by decide +kernel
theorem dX3_store_20 : decode cX3_store 20 = .ok (.bipush 60, 2) := by decide +kernel
theorem dX3_store_22 : decode cX3_store 22 = .ok (.if_icmp .lt 5, 3) := by decide +kernel
theorem dX3_store_25 : decode cX3_store 25 = .ok (.iconst 0, 1) := by decide +kernel
theorem dX3_store_26 : decode cX3_store 26 = .ok (.ireturn, 1) := by decide +kernel
theorem dX3_store_27 : decode cX3_store 27 = .ok (.iload_n 1, 1) := by decide +kernel
theorem dX3_store_28 : decode cX3_store 28 = .ok (.bipush 60, 2) := by decide +kernel
theorem dX3_store_30 : decode cX3_store 30 = .ok (.imul, 1) := by decide +kernel
theorem dX3_store_31 : decode cX3_store 31 = .ok (.aload_n 0, 1) := by decide +kernel
theorem dX3_store_32 : decode cX3_store 32 = .ok (.getfield 18, 3) := by decide +kernel
theorem dX3_store_35 : decode cX3_store 35 = .ok (.iload_n 1, 1) := by decide +kernel
theorem dX3_store_36 : decode cX3_store 36 = .ok (.iaload, 1) := by decide +kernel
theorem dX3_store_37 : decode cX3_store 37 = .ok (.iadd, 1) := by decide +kernel
theorem dX3_store_38 : decode cX3_store 38 = .ok (.istore 4, 2) := by decide +kernel
theorem dX3_store_40 : decode cX3_store 40 = .ok (.aload_n 0, 1) := by decide +kernel
theorem dX3_store_41 : decode cX3_store 41 = .ok (.getfield 18, 3) := by decide +kernel
theorem dX3_store_44 : decode cX3_store 44 = .ok (.iload_n 1, 1) := by decide +kernel
theorem dX3_store_45 : decode cX3_store 45 = .ok (.dup2, 1) := by decide +kernel
theorem dX3_store_46 : decode cX3_store 46 = .ok (.iaload, 1) := by decide +kernel
theorem dX3_store_47 : decode cX3_store 47 = .ok (.iconst 1, 1) := by decide +kernel
theorem dX3_store_48 : decode cX3_store 48 = .ok (.iadd, 1) := by decide +kernel
theorem dX3_store_49 : decode cX3_store 49 = .ok (.iastore, 1) := by decide +kernel
theorem dX3_store_50 : decode cX3_store 50 = .ok (.aload_n 0, 1) := by decide +kernel
theorem dX3_store_51 : decode cX3_store 51 = .ok (.getfield 9, 3) := by decide +kernel
theorem dX3_store_54 : decode cX3_store 54 = .ok (.iload 4, 2) := by decide +kernel
theorem dX3_store_56 : decode cX3_store 56 = .ok (.iload_n 2, 1) := by decide +kernel
theorem dX3_store_57 : decode cX3_store 57 = .ok (.iastore, 1) := by decide +kernel
theorem dX3_store_58 : decode cX3_store 58 = .ok (.aload_n 0, 1) := by decide +kernel
theorem dX3_store_59 : decode cX3_store 59 = .ok (.getfield 15, 3) := by decide +kernel
theorem dX3_store_62 : decode cX3_store 62 = .ok (.iload 4, 2) := by decide +kernel
theorem dX3_store_64 : decode cX3_store 64 = .ok (.iload_n 3, 1) := by decide +kernel
theorem dX3_store_65 : decode cX3_store 65 = .ok (.iastore, 1) := by decide +kernel
theorem dX3_store_66 : decode cX3_store 66 = .ok (.iconst 1, 1) := by decide +kernel
theorem dX3_store_67 : decode cX3_store 67 = .ok (.ireturn, 1) := by decide +kernel
theorem dX3_remove_0 : decode cX3_remove 0 = .ok (.aload_n 0, 1) := by decide +kernel
theorem dX3_remove_1 : decode cX3_remove 1 = .ok (.iload_n 1, 1) := by decide +kernel
theorem dX3_remove_2 : decode cX3_remove 2 = .ok (.iload_n 2, 1) := by decide +kernel
theorem dX3_remove_3 : decode cX3_remove 3 = .ok (.invokevirtual 21, 3) := by decide +kernel
theorem dX3_remove_6 : decode cX3_remove 6 = .ok (.istore_n 3, 1) := by decide +kernel
theorem dX3_remove_7 : decode cX3_remove 7 = .ok (.iload_n 3, 1) := by decide +kernel
theorem dX3_remove_8 : decode cX3_remove 8 = .ok (.iconst (-1), 1) := by decide +kernel
theorem dX3_remove_9 : decode cX3_remove 9 = .ok (.if_icmp .ne 4, 3) := by decide +kernel
theorem dX3_remove_12 : decode cX3_remove 12 = .ok (.return_, 1) := by decide +kernel
theorem dX3_remove_13 : decode cX3_remove 13 = .ok (.aload_n 0, 1) := by decide +kernel
theorem dX3_remove_14 : decode cX3_remove 14 = .ok (.getfield 18, 3) := by decide +kernel
theorem dX3_remove_17 : decode cX3_remove 17 = .ok (.iload_n 1, 1) := by decide +kernel
theorem dX3_remove_18 : decode cX3_remove 18 = .ok (.dup2, 1) := by decide +kernel
theorem dX3_remove_19 : decode cX3_remove 19 = .ok (.iaload, 1) := by decide +kernel
theorem dX3_remove_20 : decode cX3_remove 20 = .ok (.iconst 1, 1) := by decide +kernel
theorem dX3_remove_21 : decode cX3_remove 21 = .ok (.isub, 1) := by decide +kernel
theorem dX3_remove_22 : decode cX3_remove 22 = .ok (.iastore, 1) := by decide +kernel
theorem dX3_remove_23 : decode cX3_remove 23 = .ok (.iload_n 1, 1) := by decide +kernel
theorem dX3_remove_24 : decode cX3_remove 24 = .ok (.bipush 60, 2) := by decide +kernel
theorem dX3_remove_26 : decode cX3_remove 26 = .ok (.imul, 1) := by decide +kernel
theorem dX3_remove_27 : decode cX3_remove 27 = .ok (.aload_n 0, 1) := by decide +kernel
theorem dX3_remove_28 : decode cX3_remove 28 = .ok (.getfield 18, 3) := by decide +kernel
theorem dX3_remove_31 : decode cX3_remove 31 = .ok (.iload_n 1, 1) := by decide +kernel
theorem dX3_remove_32 : decode cX3_remove 32 = .ok (.iaload, 1) := by decide +kernel
theorem dX3_remove_33 : decode cX3_remove 33 = .ok (.iadd, 1) := by decide +kernel
theorem dX3_remove_34 : decode cX3_remove 34 = .ok (.istore 4, 2) := by decide +kernel
theorem dX3_remove_36 : decode cX3_remove 36 = .ok (.aload_n 0, 1) := by decide +kernel
theorem dX3_remove_37 : decode cX3_remove 37 = .ok (.getfield 9, 3) := by decide +kernel
theorem dX3_remove_40 : decode cX3_remove 40 = .ok (.iload_n 3, 1) := by decide +kernel
theorem dX3_remove_41 : decode cX3_remove 41 = .ok (.aload_n 0, 1) := by decide +kernel
theorem dX3_remove_42 : decode cX3_remove 42 = .ok (.getfield 9, 3) := by decide +kernel
theorem dX3_remove_45 : decode cX3_remove 45 = .ok (.iload 4, 2) := by decide +kernel
theorem dX3_remove_47 : decode cX3_remove 47 = .ok (.iaload, 1) := by decide +kernel
theorem dX3_remove_48 : decode cX3_remove 48 = .ok (.iastore, 1) := by decide +kernel
theorem dX3_remove_49 : decode cX3_remove 49 = .ok (.aload_n 0, 1) := by decide +kernel
theorem dX3_remove_50 : decode cX3_remove 50 = .ok (.getfield 15, 3) := by decide +kernel
theorem dX3_remove_53 : decode cX3_remove 53 = .ok (.iload_n 3, 1) := by decide +kernel
theorem dX3_remove_54 : decode cX3_remove 54 = .ok (.aload_n 0, 1) := by decide +kernel
theorem dX3_remove_55 : decode cX3_remove 55 = .ok (.getfield 15, 3) := by decide +kernel
theorem dX3_remove_58 : decode cX3_remove 58 = .ok (.iload 4, 2) := by decide +kernel
theorem dX3_remove_60 : decode cX3_remove 60 = .ok (.iaload, 1) := by decide +kernel
theorem dX3_remove_61 : decode cX3_remove 61 = .ok (.iastore, 1) := by decide +kernel
theorem dX3_remove_62 : decode cX3_remove 62 = .ok (.return_, 1) := by decide +kernel
theorem dX3_total_0 : decode cX3_total 0 = .ok (.iconst 0, 1) := by decide +kernel
theorem dX3_total_1 : decode cX3_total 1 = .ok (.istore_n 1, 1) := by decide +kernel
theorem dX3_total_2 : decode cX3_total 2 = .ok (.iconst 0, 1) := by decide +kernel
theorem dX3_total_3 : decode cX3_total 3 = .ok (.istore_n 2, 1) := by decide +kernel
theorem dX3_total_4 : decode cX3_total 4 = .ok (.iload_n 2, 1) := by decide +kernel
theorem dX3_total_5 : decode cX3_total 5 = .ok (.bipush 16, 2) := by decide +kernel
theorem dX3_total_7 : decode cX3_total 7 = .ok (.if_icmp .ge 18, 3) := by decide +kernel
theorem dX3_total_10 : decode cX3_total 10 = .ok (.iload_n 1, 1) := by decide +kernel
theorem dX3_total_11 : decode cX3_total 11 = .ok (.aload_n 0, 1) := by decide +kernel
theorem dX3_total_12 : decode cX3_total 12 = .ok (.getfield 18, 3) := by decide +kernel
theorem dX3_total_15 : decode cX3_total 15 = .ok (.iload_n 2, 1) := by decide +kernel
theorem dX3_total_16 : decode cX3_total 16 = .ok (.iaload, 1) := by decide +kernel
theorem dX3_total_17 : decode cX3_total 17 = .ok (.iadd, 1) := by decide +kernel
theorem dX3_total_18 : decode cX3_total 18 = .ok (.istore_n 1, 1) := by decide +kernel
theorem dX3_total_19 : decode cX3_total 19 = .ok (.iinc 2 1, 3) := by decide +kernel
theorem dX3_total_22 : decode cX3_total 22 = .ok (.goto (-18), 3) := by decide +kernel
theorem dX3_total_25 : decode cX3_total 25 = .ok (.iload_n 1, 1) := by decide +kernel
theorem dX3_total_26 : decode cX3_total 26 = .ok (.ireturn, 1) := by decide +kernel
theorem dX4_init_0 : decode cX4_init 0 = .ok (.aload_n 0, 1) := by decide +kernel
theorem dX4_init_1 : decode cX4_init 1 = .ok (.invokespecial 3, 3) := by decide +kernel
theorem dX4_init_4 : decode cX4_init 4 = .ok (.aload_n 0, 1) := by decide +kernel
theorem dX4_init_5 : decode cX4_init 5 = .ok (.bipush 80, 2) := by decide +kernel
theorem dX4_init_7 : decode cX4_init 7 = .ok (.newarray .int, 2) := by decide +kernel
theorem dX4_init_9 : decode cX4_init 9 = .ok (.putfield 9, 3) := by decide +kernel
theorem dX4_init_12 : decode cX4_init 12 = .ok (.aload_n 0, 1) := by decide +kernel
theorem dX4_init_13 : decode cX4_init 13 = .ok (.bipush 80, 2) := by decide +kernel
theorem dX4_init_15 : decode cX4_init 15 = .ok (.newarray .long, 2) := by decide +kernel
theorem dX4_init_17 : decode cX4_init 17 = .ok (.putfield 15, 3) := by decide +kernel
theorem dX4_init_20 : decode cX4_init 20 = .ok (.aload_n 0, 1) := by decide +kernel
theorem dX4_init_21 : decode cX4_init 21 = .ok (.bipush 80, 2) := by decide +kernel
theorem dX4_init_23 : decode cX4_init 23 = .ok (.newarray .int, 2) := by decide +kernel
theorem dX4_init_25 : decode cX4_init 25 = .ok (.putfield 19, 3) := by decide +kernel
theorem dX4_init_28 : decode cX4_init 28 = .ok (.aload_n 0, 1) := by decide +kernel
theorem dX4_init_29 : decode cX4_init 29 = .ok (.aload_n 1, 1) := by decide +kernel
theorem dX4_init_30 : decode cX4_init 30 = .ok (.putfield 22, 3) := by decide +kernel
theorem dX4_init_33 : decode cX4_init 33 = .ok (.aload_n 0, 1) := by decide +kernel
theorem dX4_init_34 : decode cX4_init 34 = .ok (.aload_n 2, 1) := by decide +kernel
theorem dX4_init_35 : decode cX4_init 35 = .ok (.putfield 26, 3) := by decide +kernel
theorem dX4_init_38 : decode cX4_init 38 = .ok (.aload_n 0, 1) := by decide +kernel
theorem dX4_init_39 : decode cX4_init 39 = .ok (.aload_n 3, 1) := by decide +kernel
theorem dX4_init_40 : decode cX4_init 40 = .ok (.putfield 30, 3) := by decide +kernel
theorem dX4_init_43 : decode cX4_init 43 = .ok (.aload_n 0, 1) := by decide +kernel
theorem dX4_init_44 : decode cX4_init 44 = .ok (.aload 4, 2) := by decide +kernel
theorem dX4_init_46 : decode cX4_init 46 = .ok (.putfield 34, 3) := by decide +kernel
theorem dX4_init_49 : decode cX4_init 49 = .ok (.return_, 1) := by decide +kernel
theorem dX4_matches_0 : decode cX4_matches 0 = .ok (.aload_n 0, 1) := by decide +kernel
theorem dX4_matches_1 : decode cX4_matches 1 = .ok (.getfield 34, 3) := by decide +kernel
theorem dX4_matches_4 : decode cX4_matches 4 = .ok (.iload_n 1, 1) := by decide +kernel
theorem dX4_matches_5 : decode cX4_matches 5 = .ok (.iload_n 2, 1) := by decide +kernel
theorem dX4_matches_6 : decode cX4_matches 6 = .ok (.invokevirtual 38, 3) := by decide +kernel
theorem dX4_matches_9 : decode cX4_matches 9 = .ok (.ifCond .ne 5, 3) := by decide +kernel
theorem dX4_matches_12 : decode cX4_matches 12 = .ok (.iconst 0, 1) := by decide +kernel
theorem dX4_matches_13 : decode cX4_matches 13 = .ok (.ireturn, 1) := by decide +kernel
theorem dX4_matches_14 : decode cX4_matches 14 = .ok (.aload_n 0, 1) := by decide +kernel
theorem dX4_matches_15 : decode cX4_matches 15 = .ok (.getfield 9, 3) := by decide +kernel
theorem dX4_matches_18 : decode cX4_matches 18 = .ok (.iconst 0, 1) := by decide +kernel
theorem dX4_matches_19 : decode cX4_matches 19 = .ok (.invokestatic 44, 3) := by decide +kernel
theorem dX4_matches_22 : decode cX4_matches 22 = .ok (.aload_n 0, 1) := by decide +kernel
theorem dX4_matches_23 : decode cX4_matches 23 = .ok (.getfield 19, 3) := by decide +kernel
theorem dX4_matches_26 : decode cX4_matches 26 = .ok (.iconst 0, 1) := by decide +kernel
theorem dX4_matches_27 : decode cX4_matches 27 = .ok (.iload_n 1, 1) := by decide +kernel
theorem dX4_matches_28 : decode cX4_matches 28 = .ok (.iastore, 1) := by decide +kernel
theorem dX4_matches_29 : decode cX4_matches 29 = .ok (.iconst 1, 1) := by decide +kernel
theorem dX4_matches_30 : decode cX4_matches 30 = .ok (.istore_n 3, 1) := by decide +kernel
theorem dX4_matches_31 : decode cX4_matches 31 = .ok (.iconst 0, 1) := by decide +kernel
theorem dX4_matches_32 : decode cX4_matches 32 = .ok (.istore 4, 2) := by decide +kernel
theorem dX4_matches_34 : decode cX4_matches 34 = .ok (.iload 4, 2) := by decide +kernel
theorem dX4_matches_36 : decode cX4_matches 36 = .ok (.sipush 160, 3) := by decide +kernel
theorem dX4_matches_39 : decode cX4_matches 39 = .ok (.if_icmp .ge 131, 3) := by decide +kernel
theorem dX4_matches_42 : decode cX4_matches 42 = .ok (.iload_n 3, 1) := by decide +kernel
theorem dX4_matches_43 : decode cX4_matches 43 = .ok (.ifCond .le 127, 3) := by decide +kernel
theorem dX4_matches_46 : decode cX4_matches 46 = .ok (.aload_n 0, 1) := by decide +kernel
theorem dX4_matches_47 : decode cX4_matches 47 = .ok (.getfield 19, 3) := by decide +kernel
theorem dX4_matches_50 : decode cX4_matches 50 = .ok (.iload_n 3, 1) := by decide +kernel
theorem dX4_matches_51 : decode cX4_matches 51 = .ok (.iconst 1, 1) := by decide +kernel
theorem dX4_matches_52 : decode cX4_matches 52 = .ok (.isub, 1) := by decide +kernel
theorem dX4_matches_53 : decode cX4_matches 53 = .ok (.iaload, 1) := by decide +kernel
theorem dX4_matches_54 : decode cX4_matches 54 = .ok (.istore 5, 2) := by decide +kernel
theorem dX4_matches_56 : decode cX4_matches 56 = .ok (.aload_n 0, 1) := by decide +kernel
theorem dX4_matches_57 : decode cX4_matches 57 = .ok (.iload 5, 2) := by decide +kernel
theorem dX4_matches_59 : decode cX4_matches 59 = .ok (.iload_n 2, 1) := by decide +kernel
theorem dX4_matches_60 : decode cX4_matches 60 = .ok (.invokevirtual 50, 3) := by decide +kernel
theorem dX4_matches_63 : decode cX4_matches 63 = .ok (.istore 6, 2) := by decide +kernel
theorem dX4_matches_65 : decode cX4_matches 65 = .ok (.iload 6, 2) := by decide +kernel
theorem dX4_matches_67 : decode cX4_matches 67 = .ok (.iconst (-1), 1) := by decide +kernel
theorem dX4_matches_68 : decode cX4_matches 68 = .ok (.if_icmp .eq 23, 3) := by decide +kernel
theorem dX4_matches_71 : decode cX4_matches 71 = .ok (.iload_n 3, 1) := by decide +kernel
theorem dX4_matches_72 : decode cX4_matches 72 = .ok (.bipush 80, 2) := by decide +kernel
theorem dX4_matches_74 : decode cX4_matches 74 = .ok (.if_icmp .ge 17, 3) := by decide +kernel
theorem dX4_matches_77 : decode cX4_matches 77 = .ok (.aload_n 0, 1) := by decide +kernel
theorem dX4_matches_78 : decode cX4_matches 78 = .ok (.getfield 19, 3) := by decide +kernel
theorem dX4_matches_81 : decode cX4_matches 81 = .ok (.iload_n 3, 1) := by decide +kernel
theorem dX4_matches_82 : decode cX4_matches 82 = .ok (.iload 6, 2) := by decide +kernel
theorem dX4_matches_84 : decode cX4_matches 84 = .ok (.iastore, 1) := by decide +kernel
theorem dX4_matches_85 : decode cX4_matches 85 = .ok (.iinc 3 1, 3) := by decide +kernel
theorem dX4_matches_88 : decode cX4_matches 88 = .ok (.goto 76, 3) := by decide +kernel
theorem dX4_matches_91 : decode cX4_matches 91 = .ok (.aload_n 0, 1) := by decide +kernel
theorem dX4_matches_92 : decode cX4_matches 92 = .ok (.getfield 34, 3) := by decide +kernel
theorem dX4_matches_95 : decode cX4_matches 95 = .ok (.iload 5, 2) := by decide +kernel
theorem dX4_matches_97 : decode cX4_matches 97 = .ok (.iload_n 2, 1) := by decide +kernel
theorem dX4_matches_98 : decode cX4_matches 98 = .ok (.invokevirtual 38, 3) := by decide +kernel
theorem dX4_matches_101 : decode cX4_matches 101 = .ok (.ifCond .eq 17, 3) := by decide +kernel
theorem dX4_matches_104 : decode cX4_matches 104 = .ok (.aload_n 0, 1) := by decide +kernel
theorem dX4_matches_105 : decode cX4_matches 105 = .ok (.iload 5, 2) := by decide +kernel
theorem dX4_matches_107 : decode cX4_matches 107 = .ok (.iload_n 2, 1) := by decide +kernel
theorem dX4_matches_108 : decode cX4_matches 108 = .ok (.invokevirtual 54, 3) := by decide +kernel
theorem dX4_matches_111 : decode cX4_matches 111 = .ok (.ifCond .eq 7, 3) := by decide +kernel
theorem dX4_matches_114 : decode cX4_matches 114 = .ok (.iconst 1, 1) := by decide +kernel
theorem dX4_matches_115 : decode cX4_matches 115 = .ok (.goto 4, 3) := by decide +kernel
theorem dX4_matches_118 : decode cX4_matches 118 = .ok (.iconst 0, 1) := by decide +kernel
theorem dX4_matches_119 : decode cX4_matches 119 = .ok (.istore 7, 2) := by decide +kernel
theorem dX4_matches_121 : decode cX4_matches 121 = .ok (.aload_n 0, 1) := by decide +kernel
theorem dX4_matches_122 : decode cX4_matches 122 = .ok (.getfield 9, 3) := by decide +kernel
theorem dX4_matches_125 : decode cX4_matches 125 = .ok (.iload 5, 2) := by decide +kernel
theorem dX4_matches_127 : decode cX4_matches 127 = .ok (.iload 7, 2) := by decide +kernel
theorem dX4_matches_129 : decode cX4_matches 129 = .ok (.ifCond .eq 7, 3) := by decide +kernel
theorem dX4_matches_132 : decode cX4_matches 132 = .ok (.iconst 1, 1) := by decide +kernel
theorem dX4_matches_133 : decode cX4_matches 133 = .ok (.goto 4, 3) := by decide +kernel
theorem dX4_matches_136 : decode cX4_matches 136 = .ok (.iconst 2, 1) := by decide +kernel
theorem dX4_matches_137 : decode cX4_matches 137 = .ok (.iastore, 1) := by decide +kernel
theorem dX4_matches_138 : decode cX4_matches 138 = .ok (.aload_n 0, 1) := by decide +kernel
theorem dX4_matches_139 : decode cX4_matches 139 = .ok (.getfield 15, 3) := by decide +kernel
theorem dX4_matches_142 : decode cX4_matches 142 = .ok (.iload 5, 2) := by decide +kernel
theorem dX4_matches_144 : decode cX4_matches 144 = .ok (.iload 7, 2) := by decide +kernel
theorem dX4_matches_146 : decode cX4_matches 146 = .ok (.ifCond .eq 13, 3) := by decide +kernel
theorem dX4_matches_149 : decode cX4_matches 149 = .ok (.aload_n 0, 1) := by decide +kernel
theorem dX4_matches_150 : decode cX4_matches 150 = .ok (.iload 5, 2) := by decide +kernel
theorem dX4_matches_152 : decode cX4_matches 152 = .ok (.iload_n 2, 1) := by decide +kernel
theorem dX4_matches_153 : decode cX4_matches 153 = .ok (.invokevirtual 57, 3) := by decide +kernel
theorem dX4_matches_156 : decode cX4_matches 156 = .ok (.goto 4, 3) := by decide +kernel
theorem dX4_matches_159 : decode cX4_matches 159 = .ok (.lconst 0, 1) := by decide +kernel
theorem dX4_matches_160 : decode cX4_matches 160 = .ok (.lastore, 1) := by decide +kernel
theorem dX4_matches_161 : decode cX4_matches 161 = .ok (.iinc 3 (-1), 3) := by decide +kernel
theorem dX4_matches_164 : decode cX4_matches 164 = .ok (.iinc 4 1, 3) := by decide +kernel
theorem dX4_matches_167 : decode cX4_matches 167 = .ok (.goto (-133), 3) := by decide +kernel
theorem dX4_matches_170 : decode cX4_matches 170 = .ok (.aload_n 0, 1) := by decide +kernel
theorem dX4_matches_171 : decode cX4_matches 171 = .ok (.getfield 9, 3) := by decide +kernel
theorem dX4_matches_174 : decode cX4_matches 174 = .ok (.iload_n 1, 1) := by decide +kernel
theorem dX4_matches_175 : decode cX4_matches 175 = .ok (.iaload, 1) := by decide +kernel
theorem dX4_matches_176 : decode cX4_matches 176 = .ok (.iconst 1, 1) := by decide +kernel
theorem dX4_matches_177 : decode cX4_matches 177 = .ok (.if_icmp .ne 7, 3) := by decide +kernel
theorem dX4_matches_180 : decode cX4_matches 180 = .ok (.iconst 1, 1) := by decide +kernel
theorem dX4_matches_181 : decode cX4_matches 181 = .ok (.goto 4, 3) := by decide +kernel
theorem dX4_matches_184 : decode cX4_matches 184 = .ok (.iconst 0, 1) := by decide +kernel
theorem dX4_matches_185 : decode cX4_matches 185 = .ok (.ireturn, 1) := by decide +kernel
theorem dX4_scoreOf_0 : decode cX4_scoreOf 0 = .ok (.aload_n 0, 1) := by decide +kernel
theorem dX4_scoreOf_1 : decode cX4_scoreOf 1 = .ok (.getfield 15, 3) := by decide +kernel
theorem dX4_scoreOf_4 : decode cX4_scoreOf 4 = .ok (.iload_n 1, 1) := by decide +kernel
theorem dX4_scoreOf_5 : decode cX4_scoreOf 5 = .ok (.laload, 1) := by decide +kernel
theorem dX4_scoreOf_6 : decode cX4_scoreOf 6 = .ok (.lreturn, 1) := by decide +kernel
theorem dX4_wantedBy_0 : decode cX4_wantedBy 0 = .ok (.aload_n 0, 1) := by decide +kernel
theorem dX4_wantedBy_1 : decode cX4_wantedBy 1 = .ok (.getfield 34, 3) := by decide +kernel
theorem dX4_wantedBy_4 : decode cX4_wantedBy 4 = .ok (.iload_n 1, 1) := by decide +kernel
theorem dX4_wantedBy_5 : decode cX4_wantedBy 5 = .ok (.iload_n 2, 1) := by decide +kernel
theorem dX4_wantedBy_6 : decode cX4_wantedBy 6 = .ok (.invokevirtual 38, 3) := by decide +kernel
theorem dX4_wantedBy_9 : decode cX4_wantedBy 9 = .ok (.ifCond .eq 14, 3) := by decide +kernel
theorem dX4_wantedBy_12 : decode cX4_wantedBy 12 = .ok (.aload_n 0, 1) := by decide +kernel
theorem dX4_wantedBy_13 : decode cX4_wantedBy 13 = .ok (.getfield 30, 3) := by decide +kernel
theorem dX4_wantedBy_16 : decode cX4_wantedBy 16 = .ok (.iload_n 1, 1) := by decide +kernel
theorem dX4_wantedBy_17 : decode cX4_wantedBy 17 = .ok (.invokevirtual 61, 3) := by decide +kernel
theorem dX4_wantedBy_20 : decode cX4_wantedBy 20 = .ok (.ifCond .eq 5, 3) := by decide +kernel
theorem dX4_wantedBy_23 : decode cX4_wantedBy 23 = .ok (.iconst (-1), 1) := by decide +kernel
theorem dX4_wantedBy_24 : decode cX4_wantedBy 24 = .ok (.ireturn, 1) := by decide +kernel
theorem dX4_wantedBy_25 : decode cX4_wantedBy 25 = .ok (.aload_n 0, 1) := by decide +kernel
theorem dX4_wantedBy_26 : decode cX4_wantedBy 26 = .ok (.getfield 26, 3) := by decide +kernel
theorem dX4_wantedBy_29 : decode cX4_wantedBy 29 = .ok (.iload_n 1, 1) := by decide +kernel
theorem dX4_wantedBy_30 : decode cX4_wantedBy 30 = .ok (.invokevirtual 67, 3) := by decide +kernel
theorem dX4_wantedBy_33 : decode cX4_wantedBy 33 = .ok (.iconst 2, 1) := by decide +kernel
theorem dX4_wantedBy_34 : decode cX4_wantedBy 34 = .ok (.if_icmp .ne 10, 3) := by decide +kernel
theorem dX4_wantedBy_37 : decode cX4_wantedBy 37 = .ok (.aload_n 0, 1) := by decide +kernel
theorem dX4_wantedBy_38 : decode cX4_wantedBy 38 = .ok (.iload_n 1, 1) := by decide +kernel
theorem dX4_wantedBy_39 : decode cX4_wantedBy 39 = .ok (.iload_n 2, 1) := by decide +kernel
theorem dX4_wantedBy_40 : decode cX4_wantedBy 40 = .ok (.invokevirtual 73, 3) := by decide +kernel
theorem dX4_wantedBy_43 : decode cX4_wantedBy 43 = .ok (.ireturn, 1) := by decide +kernel
theorem dX4_wantedBy_44 : decode cX4_wantedBy 44 = .ok (.iconst 0, 1) := by decide +kernel
theorem dX4_wantedBy_45 : decode cX4_wantedBy 45 = .ok (.istore_n 3, 1) := by decide +kernel
theorem dX4_wantedBy_46 : decode cX4_wantedBy 46 = .ok (.iload_n 3, 1) := by decide +kernel
theorem dX4_wantedBy_47 : decode cX4_wantedBy 47 = .ok (.aload_n 0, 1) := by decide +kernel
theorem dX4_wantedBy_48 : decode cX4_wantedBy 48 = .ok (.getfield 26, 3) := by decide +kernel
theorem dX4_wantedBy_51 : decode cX4_wantedBy 51 = .ok (.iload_n 1, 1) := by decide +kernel
theorem dX4_wantedBy_52 : decode cX4_wantedBy 52 = .ok (.invokevirtual 76, 3) := by decide +kernel
theorem dX4_wantedBy_55 : decode cX4_wantedBy 55 = .ok (.if_icmp .ge 33, 3) := by decide +kernel
theorem dX4_wantedBy_58 : decode cX4_wantedBy 58 = .ok (.aload_n 0, 1) := by decide +kernel
theorem dX4_wantedBy_59 : decode cX4_wantedBy 59 = .ok (.getfield 26, 3) := by decide +kernel
theorem dX4_wantedBy_62 : decode cX4_wantedBy 62 = .ok (.iload_n 1, 1) := by decide +kernel
theorem dX4_wantedBy_63 : decode cX4_wantedBy 63 = .ok (.iload_n 3, 1) := by decide +kernel
theorem dX4_wantedBy_64 : decode cX4_wantedBy 64 = .ok (.invokevirtual 79, 3) := by decide +kernel
theorem dX4_wantedBy_67 : decode cX4_wantedBy 67 = .ok (.istore 4, 2) := by decide +kernel
theorem dX4_wantedBy_69 : decode cX4_wantedBy 69 = .ok (.aload_n 0, 1) := by decide +kernel
theorem dX4_wantedBy_70 : decode cX4_wantedBy 70 = .ok (.getfield 9, 3) := by decide +kernel
theorem dX4_wantedBy_73 : decode cX4_wantedBy 73 = .ok (.iload 4, 2) := by decide +kernel
theorem dX4_wantedBy_75 : decode cX4_wantedBy 75 = .ok (.iaload, 1) := by decide +kernel
theorem dX4_wantedBy_76 : decode cX4_wantedBy 76 = .ok (.ifCond .ne 6, 3) := by decide +kernel
theorem dX4_wantedBy_79 : decode cX4_wantedBy 79 = .ok (.iload 4, 2) := by decide +kernel
theorem dX4_wantedBy_81 : decode cX4_wantedBy 81 = .ok (.ireturn, 1) := by decide +kernel
theorem dX4_wantedBy_82 : decode cX4_wantedBy 82 = .ok (.iinc 3 1, 3) := by decide +kernel
theorem dX4_wantedBy_85 : decode cX4_wantedBy 85 = .ok (.goto (-39), 3) := by decide +kernel
theorem dX4_wantedBy_88 : decode cX4_wantedBy 88 = .ok (.iconst (-1), 1) := by decide +kernel
theorem dX4_wantedBy_89 : decode cX4_wantedBy 89 = .ok (.ireturn, 1) := by decide +kernel
theorem dX4_wantedByBool_0 : decode cX4_wantedByBool 0 = .ok (.iconst 0, 1) := by decide +kernel
theorem dX4_wantedByBool_1 : decode cX4_wantedByBool 1 = .ok (.istore_n 3, 1) := by decide +kernel
theorem dX4_wantedByBool_2 : decode cX4_wantedByBool 2 = .ok (.iload_n 3, 1) := by decide +kernel
theorem dX4_wantedByBool_3 : decode cX4_wantedByBool 3 = .ok (.aload_n 0, 1) := by decide +kernel
theorem dX4_wantedByBool_4 : decode cX4_wantedByBool 4 = .ok (.getfield 26, 3) := by decide +kernel
theorem dX4_wantedByBool_7 : decode cX4_wantedByBool 7 = .ok (.iload_n 1, 1) := by decide +kernel
theorem dX4_wantedByBool_8 : decode cX4_wantedByBool 8 = .ok (.invokevirtual 76, 3) := by decide +kernel
theorem dX4_wantedByBool_11 : decode cX4_wantedByBool 11 = .ok (.if_icmp .ge 91, 3) := by decide +kernel
theorem dX4_wantedByBool_14 : decode cX4_wantedByBool 14 = .ok (.aload_n 0, 1) := by decide +kernel
theorem dX4_wantedByBool_15 : decode cX4_wantedByBool 15 = .ok (.getfield 34, 3) := by decide +kernel
theorem dX4_wantedByBool_18 : decode cX4_wantedByBool 18 = .ok (.iload_n 1, 1) := by decide +kernel
theorem dX4_wantedByBool_19 : decode cX4_wantedByBool 19 = .ok (.iload_n 3, 1) := by decide +kernel
theorem dX4_wantedByBool_20 : decode cX4_wantedByBool 20 = .ok (.invokevirtual 82, 3) := by decide +kernel
theorem dX4_wantedByBool_23 : decode cX4_wantedByBool 23 = .ok (.istore 4, 2) := by decide +kernel
theorem dX4_wantedByBool_25 : decode cX4_wantedByBool 25 = .ok (.aload_n 0, 1) := by decide +kernel
theorem dX4_wantedByBool_26 : decode cX4_wantedByBool 26 = .ok (.getfield 26, 3) := by decide +kernel
theorem dX4_wantedByBool_29 : decode cX4_wantedByBool 29 = .ok (.iload_n 1, 1) := by decide +kernel
theorem dX4_wantedByBool_30 : decode cX4_wantedByBool 30 = .ok (.iload 4, 2) := by decide +kernel
theorem dX4_wantedByBool_32 : decode cX4_wantedByBool 32 = .ok (.invokevirtual 79, 3) := by decide +kernel
theorem dX4_wantedByBool_35 : decode cX4_wantedByBool 35 = .ok (.istore 5, 2) := by decide +kernel
theorem dX4_wantedByBool_37 : decode cX4_wantedByBool 37 = .ok (.aload_n 0, 1) := by decide +kernel
theorem dX4_wantedByBool_38 : decode cX4_wantedByBool 38 = .ok (.getfield 26, 3) := by decide +kernel
theorem dX4_wantedByBool_41 : decode cX4_wantedByBool 41 = .ok (.iload_n 1, 1) := by decide +kernel
theorem dX4_wantedByBool_42 : decode cX4_wantedByBool 42 = .ok (.iload 4, 2) := by decide +kernel
theorem dX4_wantedByBool_44 : decode cX4_wantedByBool 44 = .ok (.invokevirtual 85, 3) := by decide +kernel
theorem dX4_wantedByBool_47 : decode cX4_wantedByBool 47 = .ok (.istore 6, 2) := by decide +kernel
theorem dX4_wantedByBool_49 : decode cX4_wantedByBool 49 = .ok (.aload_n 0, 1) := by decide +kernel
theorem dX4_wantedByBool_50 : decode cX4_wantedByBool 50 = .ok (.iload 5, 2) := by decide +kernel
theorem dX4_wantedByBool_52 : decode cX4_wantedByBool 52 = .ok (.iload 6, 2) := by decide +kernel
theorem dX4_wantedByBool_54 : decode cX4_wantedByBool 54 = .ok (.iload_n 2, 1) := by decide +kernel
theorem dX4_wantedByBool_55 : decode cX4_wantedByBool 55 = .ok (.invokevirtual 88, 3) := by decide +kernel
theorem dX4_wantedByBool_58 : decode cX4_wantedByBool 58 = .ok (.istore 7, 2) := by decide +kernel
theorem dX4_wantedByBool_60 : decode cX4_wantedByBool 60 = .ok (.iload 7, 2) := by decide +kernel
theorem dX4_wantedByBool_62 : decode cX4_wantedByBool 62 = .ok (.ifCond .ne 16, 3) := by decide +kernel
theorem dX4_wantedByBool_65 : decode cX4_wantedByBool 65 = .ok (.aload_n 0, 1) := by decide +kernel
theorem dX4_wantedByBool_66 : decode cX4_wantedByBool 66 = .ok (.getfield 9, 3) := by decide +kernel
theorem dX4_wantedByBool_69 : decode cX4_wantedByBool 69 = .ok (.iload 5, 2) := by decide +kernel
theorem dX4_wantedByBool_71 : decode cX4_wantedByBool 71 = .ok (.iaload, 1) := by decide +kernel
theorem dX4_wantedByBool_72 : decode cX4_wantedByBool 72 = .ok (.ifCond .ne 6, 3) := by decide +kernel
theorem dX4_wantedByBool_75 : decode cX4_wantedByBool 75 = .ok (.iload 5, 2) := by decide +kernel
theorem dX4_wantedByBool_77 : decode cX4_wantedByBool 77 = .ok (.ireturn, 1) := by decide +kernel
theorem dX4_wantedByBool_78 : decode cX4_wantedByBool 78 = .ok (.iload 6, 2) := by decide +kernel
theorem dX4_wantedByBool_80 : decode cX4_wantedByBool 80 = .ok (.iconst 3, 1) := by decide +kernel
theorem dX4_wantedByBool_81 : decode cX4_wantedByBool 81 = .ok (.if_icmp .eq 15, 3) := by decide +kernel
theorem dX4_wantedByBool_84 : decode cX4_wantedByBool 84 = .ok (.iload 7, 2) := by decide +kernel
theorem dX4_wantedByBool_86 : decode cX4_wantedByBool 86 = .ok (.iload 6, 2) := by decide +kernel
theorem dX4_wantedByBool_88 : decode cX4_wantedByBool 88 = .ok (.invokestatic 92, 3) := by decide +kernel
theorem dX4_wantedByBool_91 : decode cX4_wantedByBool 91 = .ok (.if_icmp .eq 5, 3) := by decide +kernel
theorem dX4_wantedByBool_94 : decode cX4_wantedByBool 94 = .ok (.iconst (-1), 1) := by decide +kernel
theorem dX4_wantedByBool_95 : decode cX4_wantedByBool 95 = .ok (.ireturn, 1) := by decide +kernel
theorem dX4_wantedByBool_96 : decode cX4_wantedByBool 96 = .ok (.iinc 3 1, 3) := by decide +kernel
theorem dX4_wantedByBool_99 : decode cX4_wantedByBool 99 = .ok (.goto (-97), 3) := by decide +kernel
theorem dX4_wantedByBool_102 : decode cX4_wantedByBool 102 = .ok (.iconst (-1), 1) := by decide +kernel
theorem dX4_wantedByBool_103 : decode cX4_wantedByBool 103 = .ok (.ireturn, 1) := by decide +kernel
theorem dX4_holds_0 : decode cX4_holds 0 = .ok (.iload_n 2, 1) := by decide +kernel
theorem dX4_holds_1 : decode cX4_holds 1 = .ok (.iconst 1, 1) := by decide +kernel
theorem dX4_holds_2 : decode cX4_holds 2 = .ok (.if_icmp .eq 8, 3) := by decide +kernel
theorem dX4_holds_5 : decode cX4_holds 5 = .ok (.iload_n 2, 1) := by decide +kernel
theorem dX4_holds_6 : decode cX4_holds 6 = .ok (.iconst 2, 1) := by decide +kernel
theorem dX4_holds_7 : decode cX4_holds 7 = .ok (.if_icmp .ne 7, 3) := by decide +kernel
theorem dX4_holds_10 : decode cX4_holds 10 = .ok (.iconst 1, 1) := by decide +kernel
theorem dX4_holds_11 : decode cX4_holds 11 = .ok (.goto 4, 3) := by decide +kernel
theorem dX4_holds_14 : decode cX4_holds 14 = .ok (.iconst 0, 1) := by decide +kernel
theorem dX4_holds_15 : decode cX4_holds 15 = .ok (.istore 4, 2) := by decide +kernel
theorem dX4_holds_17 : decode cX4_holds 17 = .ok (.aload_n 0, 1) := by decide +kernel
theorem dX4_holds_18 : decode cX4_holds 18 = .ok (.getfield 9, 3) := by decide +kernel
theorem dX4_holds_21 : decode cX4_holds 21 = .ok (.iload_n 1, 1) := by decide +kernel
theorem dX4_holds_22 : decode cX4_holds 22 = .ok (.iaload, 1) := by decide +kernel
theorem dX4_holds_23 : decode cX4_holds 23 = .ok (.iconst 1, 1) := by decide +kernel
theorem dX4_holds_24 : decode cX4_holds 24 = .ok (.if_icmp .eq 20, 3) := by decide +kernel
theorem dX4_holds_27 : decode cX4_holds 27 = .ok (.iload 4, 2) := by decide +kernel
theorem dX4_holds_29 : decode cX4_holds 29 = .ok (.ifCond .eq 19, 3) := by decide +kernel
theorem dX4_holds_32 : decode cX4_holds 32 = .ok (.aload_n 0, 1) := by decide +kernel
theorem dX4_holds_33 : decode cX4_holds 33 = .ok (.getfield 34, 3) := by decide +kernel
theorem dX4_holds_36 : decode cX4_holds 36 = .ok (.iload_n 1, 1) := by decide +kernel
theorem dX4_holds_37 : decode cX4_holds 37 = .ok (.iload_n 3, 1) := by decide +kernel
theorem dX4_holds_38 : decode cX4_holds 38 = .ok (.invokevirtual 95, 3) := by decide +kernel
theorem dX4_holds_41 : decode cX4_holds 41 = .ok (.ifCond .eq 7, 3) := by decide +kernel
theorem dX4_holds_44 : decode cX4_holds 44 = .ok (.iconst 1, 1) := by decide +kernel
theorem dX4_holds_45 : decode cX4_holds 45 = .ok (.goto 4, 3) := by decide +kernel
theorem dX4_holds_48 : decode cX4_holds 48 = .ok (.iconst 0, 1) := by decide +kernel
theorem dX4_holds_49 : decode cX4_holds 49 = .ok (.ireturn, 1) := by decide +kernel
theorem dX4_fitsByParts_0 : decode cX4_fitsByParts 0 = .ok (.aload_n 0, 1) := by decide +kernel
theorem dX4_fitsByParts_1 : decode cX4_fitsByParts 1 = .ok (.getfield 26, 3) := by decide +kernel
theorem dX4_fitsByParts_4 : decode cX4_fitsByParts 4 = .ok (.iload_n 1, 1) := by decide +kernel
theorem dX4_fitsByParts_5 : decode cX4_fitsByParts 5 = .ok (.invokevirtual 67, 3) := by decide +kernel
theorem dX4_fitsByParts_8 : decode cX4_fitsByParts 8 = .ok (.tableswitch 97 2 6 #[36, 43, 43, 49, 72], 36) := by decide +kernel
theorem dX4_fitsByParts_44 : decode cX4_fitsByParts 44 = .ok (.aload_n 0, 1) := by decide +kernel
theorem dX4_fitsByParts_45 : decode cX4_fitsByParts 45 = .ok (.iload_n 1, 1) := by decide +kernel
theorem dX4_fitsByParts_46 : decode cX4_fitsByParts 46 = .ok (.iload_n 2, 1) := by decide +kernel
theorem dX4_fitsByParts_47 : decode cX4_fitsByParts 47 = .ok (.invokevirtual 98, 3) := by decide +kernel
theorem dX4_fitsByParts_50 : decode cX4_fitsByParts 50 = .ok (.ireturn, 1) := by decide +kernel
theorem dX4_fitsByParts_51 : decode cX4_fitsByParts 51 = .ok (.aload_n 0, 1) := by decide +kernel
theorem dX4_fitsByParts_52 : decode cX4_fitsByParts 52 = .ok (.iload_n 1, 1) := by decide +kernel
theorem dX4_fitsByParts_53 : decode cX4_fitsByParts 53 = .ok (.invokevirtual 101, 3) := by decide +kernel
theorem dX4_fitsByParts_56 : decode cX4_fitsByParts 56 = .ok (.ireturn, 1) := by decide +kernel
theorem dX4_fitsByParts_57 : decode cX4_fitsByParts 57 = .ok (.aload_n 0, 1) := by decide +kernel
theorem dX4_fitsByParts_58 : decode cX4_fitsByParts 58 = .ok (.iload_n 1, 1) := by decide +kernel
theorem dX4_fitsByParts_59 : decode cX4_fitsByParts 59 = .ok (.invokevirtual 101, 3) := by decide +kernel
theorem dX4_fitsByParts_62 : decode cX4_fitsByParts 62 = .ok (.ifCond .eq 16, 3) := by decide +kernel
theorem dX4_fitsByParts_65 : decode cX4_fitsByParts 65 = .ok (.aload_n 0, 1) := by decide +kernel
theorem dX4_fitsByParts_66 : decode cX4_fitsByParts 66 = .ok (.iload_n 1, 1) := by decide +kernel
theorem dX4_fitsByParts_67 : decode cX4_fitsByParts 67 = .ok (.iload_n 2, 1) := by decide +kernel
theorem dX4_fitsByParts_68 : decode cX4_fitsByParts 68 = .ok (.invokevirtual 104, 3) := by decide +kernel
theorem dX4_fitsByParts_71 : decode cX4_fitsByParts 71 = .ok (.ifCond .eq 7, 3) := by decide +kernel
theorem dX4_fitsByParts_74 : decode cX4_fitsByParts 74 = .ok (.iconst 1, 1) := by decide +kernel
theorem dX4_fitsByParts_75 : decode cX4_fitsByParts 75 = .ok (.goto 4, 3) := by decide +kernel
theorem dX4_fitsByParts_78 : decode cX4_fitsByParts 78 = .ok (.iconst 0, 1) := by decide +kernel
theorem dX4_fitsByParts_79 : decode cX4_fitsByParts 79 = .ok (.ireturn, 1) := by decide +kernel
theorem dX4_fitsByParts_80 : decode cX4_fitsByParts 80 = .ok (.aload_n 0, 1) := by decide +kernel
theorem dX4_fitsByParts_81 : decode cX4_fitsByParts 81 = .ok (.getfield 30, 3) := by decide +kernel
theorem dX4_fitsByParts_84 : decode cX4_fitsByParts 84 = .ok (.iload_n 1, 1) := by decide +kernel
theorem dX4_fitsByParts_85 : decode cX4_fitsByParts 85 = .ok (.invokevirtual 61, 3) := by decide +kernel
theorem dX4_fitsByParts_88 : decode cX4_fitsByParts 88 = .ok (.ifCond .ne 11, 3) := by decide +kernel
theorem dX4_fitsByParts_91 : decode cX4_fitsByParts 91 = .ok (.aload_n 0, 1) := by decide +kernel
theorem dX4_fitsByParts_92 : decode cX4_fitsByParts 92 = .ok (.iload_n 1, 1) := by decide +kernel
theorem dX4_fitsByParts_93 : decode cX4_fitsByParts 93 = .ok (.invokevirtual 101, 3) := by decide +kernel
theorem dX4_fitsByParts_96 : decode cX4_fitsByParts 96 = .ok (.ifCond .eq 7, 3) := by decide +kernel
theorem dX4_fitsByParts_99 : decode cX4_fitsByParts 99 = .ok (.iconst 1, 1) := by decide +kernel
theorem dX4_fitsByParts_100 : decode cX4_fitsByParts 100 = .ok (.goto 4, 3) := by decide +kernel
theorem dX4_fitsByParts_103 : decode cX4_fitsByParts 103 = .ok (.iconst 0, 1) := by decide +kernel
theorem dX4_fitsByParts_104 : decode cX4_fitsByParts 104 = .ok (.ireturn, 1) := by decide +kernel
theorem dX4_fitsByParts_105 : decode cX4_fitsByParts 105 = .ok (.iconst 1, 1) := by decide +kernel
theorem dX4_fitsByParts_106 : decode cX4_fitsByParts 106 = .ok (.ireturn, 1) := by decide +kernel
theorem dX4_somePartMatches_0 : decode cX4_somePartMatches 0 = .ok (.iconst 0, 1) := by decide +kernel
theorem dX4_somePartMatches_1 : decode cX4_somePartMatches 1 = .ok (.istore_n 2, 1) := by decide +kernel
theorem dX4_somePartMatches_2 : decode cX4_somePartMatches 2 = .ok (.iload_n 2, 1) := by decide +kernel
theorem dX4_somePartMatches_3 : decode cX4_somePartMatches 3 = .ok (.aload_n 0, 1) := by decide +kernel
theorem dX4_somePartMatches_4 : decode cX4_somePartMatches 4 = .ok (.getfield 26, 3) := by decide +kernel
theorem dX4_somePartMatches_7 : decode cX4_somePartMatches 7 = .ok (.iload_n 1, 1) := by decide +kernel
theorem dX4_somePartMatches_8 : decode cX4_somePartMatches 8 = .ok (.invokevirtual 76, 3) := by decide +kernel
theorem dX4_somePartMatches_11 : decode cX4_somePartMatches 11 = .ok (.if_icmp .ge 29, 3) := by decide +kernel
theorem dX4_somePartMatches_14 : decode cX4_somePartMatches 14 = .ok (.aload_n 0, 1) := by decide +kernel
theorem dX4_somePartMatches_15 : decode cX4_somePartMatches 15 = .ok (.getfield 9, 3) := by decide +kernel
theorem dX4_somePartMatches_18 : decode cX4_somePartMatches 18 = .ok (.aload_n 0, 1) := by decide +kernel
theorem dX4_somePartMatches_19 : decode cX4_somePartMatches 19 = .ok (.getfield 26, 3) := by decide +kernel
theorem dX4_somePartMatches_22 : decode cX4_somePartMatches 22 = .ok (.iload_n 1, 1) := by decide +kernel
theorem dX4_somePartMatches_23 : decode cX4_somePartMatches 23 = .ok (.iload_n 2, 1) := by decide +kernel
theorem dX4_somePartMatches_24 : decode cX4_somePartMatches 24 = .ok (.invokevirtual 79, 3) := by decide +kernel
theorem dX4_somePartMatches_27 : decode cX4_somePartMatches 27 = .ok (.iaload, 1) := by decide +kernel
theorem dX4_somePartMatches_28 : decode cX4_somePartMatches 28 = .ok (.iconst 1, 1) := by decide +kernel
