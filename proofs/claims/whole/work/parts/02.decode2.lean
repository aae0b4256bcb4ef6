theorem dX4_somePartMatches_29 : decode cX4_somePartMatches 29 = .ok (.if_icmp .ne 5, 3) := by decide +kernel
theorem dX4_somePartMatches_32 : decode cX4_somePartMatches 32 = .ok (.iconst 1, 1) := by decide +kernel
theorem dX4_somePartMatches_33 : decode cX4_somePartMatches 33 = .ok (.ireturn, 1) := by decide +kernel
theorem dX4_somePartMatches_34 : decode cX4_somePartMatches 34 = .ok (.iinc 2 1, 3) := by decide +kernel
theorem dX4_somePartMatches_37 : decode cX4_somePartMatches 37 = .ok (.goto (-35), 3) := by decide +kernel
theorem dX4_somePartMatches_40 : decode cX4_somePartMatches 40 = .ok (.iconst 0, 1) := by decide +kernel
theorem dX4_somePartMatches_41 : decode cX4_somePartMatches 41 = .ok (.ireturn, 1) := by decide +kernel
theorem dX4_fitsBool_0 : decode cX4_fitsBool 0 = .ok (.iconst 0, 1) := by decide +kernel
theorem dX4_fitsBool_1 : decode cX4_fitsBool 1 = .ok (.istore_n 3, 1) := by decide +kernel
theorem dX4_fitsBool_2 : decode cX4_fitsBool 2 = .ok (.iconst 0, 1) := by decide +kernel
theorem dX4_fitsBool_3 : decode cX4_fitsBool 3 = .ok (.istore 4, 2) := by decide +kernel
theorem dX4_fitsBool_5 : decode cX4_fitsBool 5 = .ok (.iload 4, 2) := by decide +kernel
theorem dX4_fitsBool_7 : decode cX4_fitsBool 7 = .ok (.aload_n 0, 1) := by decide +kernel
theorem dX4_fitsBool_8 : decode cX4_fitsBool 8 = .ok (.getfield 26, 3) := by decide +kernel
theorem dX4_fitsBool_11 : decode cX4_fitsBool 11 = .ok (.iload_n 1, 1) := by decide +kernel
theorem dX4_fitsBool_12 : decode cX4_fitsBool 12 = .ok (.invokevirtual 76, 3) := by decide +kernel
theorem dX4_fitsBool_15 : decode cX4_fitsBool 15 = .ok (.if_icmp .ge 72, 3) := by decide +kernel
theorem dX4_fitsBool_18 : decode cX4_fitsBool 18 = .ok (.aload_n 0, 1) := by decide +kernel
theorem dX4_fitsBool_19 : decode cX4_fitsBool 19 = .ok (.getfield 26, 3) := by decide +kernel
theorem dX4_fitsBool_22 : decode cX4_fitsBool 22 = .ok (.iload_n 1, 1) := by decide +kernel
theorem dX4_fitsBool_23 : decode cX4_fitsBool 23 = .ok (.iload 4, 2) := by decide +kernel
theorem dX4_fitsBool_25 : decode cX4_fitsBool 25 = .ok (.invokevirtual 85, 3) := by decide +kernel
theorem dX4_fitsBool_28 : decode cX4_fitsBool 28 = .ok (.istore 5, 2) := by decide +kernel
theorem dX4_fitsBool_30 : decode cX4_fitsBool 30 = .ok (.aload_n 0, 1) := by decide +kernel
theorem dX4_fitsBool_31 : decode cX4_fitsBool 31 = .ok (.aload_n 0, 1) := by decide +kernel
theorem dX4_fitsBool_32 : decode cX4_fitsBool 32 = .ok (.getfield 26, 3) := by decide +kernel
theorem dX4_fitsBool_35 : decode cX4_fitsBool 35 = .ok (.iload_n 1, 1) := by decide +kernel
theorem dX4_fitsBool_36 : decode cX4_fitsBool 36 = .ok (.iload 4, 2) := by decide +kernel
theorem dX4_fitsBool_38 : decode cX4_fitsBool 38 = .ok (.invokevirtual 79, 3) := by decide +kernel
theorem dX4_fitsBool_41 : decode cX4_fitsBool 41 = .ok (.iload 5, 2) := by decide +kernel
theorem dX4_fitsBool_43 : decode cX4_fitsBool 43 = .ok (.iload_n 2, 1) := by decide +kernel
theorem dX4_fitsBool_44 : decode cX4_fitsBool 44 = .ok (.invokevirtual 88, 3) := by decide +kernel
theorem dX4_fitsBool_47 : decode cX4_fitsBool 47 = .ok (.istore 6, 2) := by decide +kernel
theorem dX4_fitsBool_49 : decode cX4_fitsBool 49 = .ok (.iload 5, 2) := by decide +kernel
theorem dX4_fitsBool_51 : decode cX4_fitsBool 51 = .ok (.iconst 3, 1) := by decide +kernel
theorem dX4_fitsBool_52 : decode cX4_fitsBool 52 = .ok (.if_icmp .eq 15, 3) := by decide +kernel
theorem dX4_fitsBool_55 : decode cX4_fitsBool 55 = .ok (.iload 6, 2) := by decide +kernel
theorem dX4_fitsBool_57 : decode cX4_fitsBool 57 = .ok (.iload 5, 2) := by decide +kernel
theorem dX4_fitsBool_59 : decode cX4_fitsBool 59 = .ok (.invokestatic 92, 3) := by decide +kernel
theorem dX4_fitsBool_62 : decode cX4_fitsBool 62 = .ok (.if_icmp .eq 5, 3) := by decide +kernel
theorem dX4_fitsBool_65 : decode cX4_fitsBool 65 = .ok (.iconst 0, 1) := by decide +kernel
theorem dX4_fitsBool_66 : decode cX4_fitsBool 66 = .ok (.ireturn, 1) := by decide +kernel
theorem dX4_fitsBool_67 : decode cX4_fitsBool 67 = .ok (.iload 5, 2) := by decide +kernel
theorem dX4_fitsBool_69 : decode cX4_fitsBool 69 = .ok (.iconst 3, 1) := by decide +kernel
theorem dX4_fitsBool_70 : decode cX4_fitsBool 70 = .ok (.if_icmp .ne 11, 3) := by decide +kernel
theorem dX4_fitsBool_73 : decode cX4_fitsBool 73 = .ok (.iload 6, 2) := by decide +kernel
theorem dX4_fitsBool_75 : decode cX4_fitsBool 75 = .ok (.ifCond .eq 6, 3) := by decide +kernel
theorem dX4_fitsBool_78 : decode cX4_fitsBool 78 = .ok (.iinc 3 1, 3) := by decide +kernel
theorem dX4_fitsBool_81 : decode cX4_fitsBool 81 = .ok (.iinc 4 1, 3) := by decide +kernel
theorem dX4_fitsBool_84 : decode cX4_fitsBool 84 = .ok (.goto (-79), 3) := by decide +kernel
theorem dX4_fitsBool_87 : decode cX4_fitsBool 87 = .ok (.iload_n 3, 1) := by decide +kernel
theorem dX4_fitsBool_88 : decode cX4_fitsBool 88 = .ok (.aload_n 0, 1) := by decide +kernel
theorem dX4_fitsBool_89 : decode cX4_fitsBool 89 = .ok (.getfield 26, 3) := by decide +kernel
theorem dX4_fitsBool_92 : decode cX4_fitsBool 92 = .ok (.iload_n 1, 1) := by decide +kernel
theorem dX4_fitsBool_93 : decode cX4_fitsBool 93 = .ok (.invokevirtual 107, 3) := by decide +kernel
theorem dX4_fitsBool_96 : decode cX4_fitsBool 96 = .ok (.if_icmp .lt 7, 3) := by decide +kernel
theorem dX4_fitsBool_99 : decode cX4_fitsBool 99 = .ok (.iconst 1, 1) := by decide +kernel
theorem dX4_fitsBool_100 : decode cX4_fitsBool 100 = .ok (.goto 4, 3) := by decide +kernel
theorem dX4_fitsBool_103 : decode cX4_fitsBool 103 = .ok (.iconst 0, 1) := by decide +kernel
theorem dX4_fitsBool_104 : decode cX4_fitsBool 104 = .ok (.ireturn, 1) := by decide +kernel
theorem dX4_passesTest_0 : decode cX4_passesTest 0 = .ok (.aload_n 0, 1) := by decide +kernel
theorem dX4_passesTest_1 : decode cX4_passesTest 1 = .ok (.getfield 26, 3) := by decide +kernel
theorem dX4_passesTest_4 : decode cX4_passesTest 4 = .ok (.iload_n 1, 1) := by decide +kernel
theorem dX4_passesTest_5 : decode cX4_passesTest 5 = .ok (.invokevirtual 110, 3) := by decide +kernel
theorem dX4_passesTest_8 : decode cX4_passesTest 8 = .ok (.aload_n 0, 1) := by decide +kernel
theorem dX4_passesTest_9 : decode cX4_passesTest 9 = .ok (.getfield 26, 3) := by decide +kernel
theorem dX4_passesTest_12 : decode cX4_passesTest 12 = .ok (.iload_n 1, 1) := by decide +kernel
theorem dX4_passesTest_13 : decode cX4_passesTest 13 = .ok (.invokevirtual 114, 3) := by decide +kernel
theorem dX4_passesTest_16 : decode cX4_passesTest 16 = .ok (.istore_n 3, 1) := by decide +kernel
theorem dX4_passesTest_17 : decode cX4_passesTest 17 = .ok (.iload_n 3, 1) := by decide +kernel
theorem dX4_passesTest_18 : decode cX4_passesTest 18 = .ok (.invokestatic 117, 3) := by decide +kernel
theorem dX4_passesTest_21 : decode cX4_passesTest 21 = .ok (.istore 4, 2) := by decide +kernel
theorem dX4_passesTest_23 : decode cX4_passesTest 23 = .ok (.iload 4, 2) := by decide +kernel
theorem dX4_passesTest_25 : decode cX4_passesTest 25 = .ok (.ifCond .le 24, 3) := by decide +kernel
theorem dX4_passesTest_28 : decode cX4_passesTest 28 = .ok (.iload_n 3, 1) := by decide +kernel
theorem dX4_passesTest_29 : decode cX4_passesTest 29 = .ok (.ldc 120, 2) := by decide +kernel
theorem dX4_passesTest_31 : decode cX4_passesTest 31 = .ok (.idiv, 1) := by decide +kernel
theorem dX4_passesTest_32 : decode cX4_passesTest 32 = .ok (.iload_n 2, 1) := by decide +kernel
theorem dX4_passesTest_33 : decode cX4_passesTest 33 = .ok (.imul, 1) := by decide +kernel
theorem dX4_passesTest_34 : decode cX4_passesTest 34 = .ok (.iload 4, 2) := by decide +kernel
theorem dX4_passesTest_36 : decode cX4_passesTest 36 = .ok (.irem, 1) := by decide +kernel
theorem dX4_passesTest_37 : decode cX4_passesTest 37 = .ok (.iload_n 3, 1) := by decide +kernel
theorem dX4_passesTest_38 : decode cX4_passesTest 38 = .ok (.sipush 1000, 3) := by decide +kernel
theorem dX4_passesTest_41 : decode cX4_passesTest 41 = .ok (.irem, 1) := by decide +kernel
theorem dX4_passesTest_42 : decode cX4_passesTest 42 = .ok (.if_icmp .ge 7, 3) := by decide +kernel
theorem dX4_passesTest_45 : decode cX4_passesTest 45 = .ok (.iconst 1, 1) := by decide +kernel
theorem dX4_passesTest_46 : decode cX4_passesTest 46 = .ok (.goto 4, 3) := by decide +kernel
theorem dX4_passesTest_49 : decode cX4_passesTest 49 = .ok (.iconst 0, 1) := by decide +kernel
theorem dX4_passesTest_50 : decode cX4_passesTest 50 = .ok (.ireturn, 1) := by decide +kernel
theorem dX4_scoreByParts_0 : decode cX4_scoreByParts 0 = .ok (.aload_n 0, 1) := by decide +kernel
theorem dX4_scoreByParts_1 : decode cX4_scoreByParts 1 = .ok (.getfield 26, 3) := by decide +kernel
theorem dX4_scoreByParts_4 : decode cX4_scoreByParts 4 = .ok (.iload_n 1, 1) := by decide +kernel
theorem dX4_scoreByParts_5 : decode cX4_scoreByParts 5 = .ok (.invokevirtual 67, 3) := by decide +kernel
theorem dX4_scoreByParts_8 : decode cX4_scoreByParts 8 = .ok (.tableswitch 95 0 5 #[40, 95, 58, 64, 70, 80], 40) := by decide +kernel
theorem dX4_scoreByParts_48 : decode cX4_scoreByParts 48 = .ok (.aload_n 0, 1) := by decide +kernel
theorem dX4_scoreByParts_49 : decode cX4_scoreByParts 49 = .ok (.getfield 22, 3) := by decide +kernel
theorem dX4_scoreByParts_52 : decode cX4_scoreByParts 52 = .ok (.aload_n 0, 1) := by decide +kernel
theorem dX4_scoreByParts_53 : decode cX4_scoreByParts 53 = .ok (.getfield 26, 3) := by decide +kernel
theorem dX4_scoreByParts_56 : decode cX4_scoreByParts 56 = .ok (.iload_n 1, 1) := by decide +kernel
theorem dX4_scoreByParts_57 : decode cX4_scoreByParts 57 = .ok (.invokevirtual 121, 3) := by decide +kernel
theorem dX4_scoreByParts_60 : decode cX4_scoreByParts 60 = .ok (.iload_n 2, 1) := by decide +kernel
theorem dX4_scoreByParts_61 : decode cX4_scoreByParts 61 = .ok (.invokevirtual 124, 3) := by decide +kernel
theorem dX4_scoreByParts_64 : decode cX4_scoreByParts 64 = .ok (.i2l, 1) := by decide +kernel
theorem dX4_scoreByParts_65 : decode cX4_scoreByParts 65 = .ok (.lreturn, 1) := by decide +kernel
theorem dX4_scoreByParts_66 : decode cX4_scoreByParts 66 = .ok (.aload_n 0, 1) := by decide +kernel
theorem dX4_scoreByParts_67 : decode cX4_scoreByParts 67 = .ok (.iload_n 1, 1) := by decide +kernel
theorem dX4_scoreByParts_68 : decode cX4_scoreByParts 68 = .ok (.invokevirtual 129, 3) := by decide +kernel
theorem dX4_scoreByParts_71 : decode cX4_scoreByParts 71 = .ok (.lreturn, 1) := by decide +kernel
theorem dX4_scoreByParts_72 : decode cX4_scoreByParts 72 = .ok (.aload_n 0, 1) := by decide +kernel
theorem dX4_scoreByParts_73 : decode cX4_scoreByParts 73 = .ok (.iload_n 1, 1) := by decide +kernel
theorem dX4_scoreByParts_74 : decode cX4_scoreByParts 74 = .ok (.invokevirtual 133, 3) := by decide +kernel
theorem dX4_scoreByParts_77 : decode cX4_scoreByParts 77 = .ok (.lreturn, 1) := by decide +kernel
theorem dX4_scoreByParts_78 : decode cX4_scoreByParts 78 = .ok (.aload_n 0, 1) := by decide +kernel
theorem dX4_scoreByParts_79 : decode cX4_scoreByParts 79 = .ok (.getfield 26, 3) := by decide +kernel
theorem dX4_scoreByParts_82 : decode cX4_scoreByParts 82 = .ok (.iload_n 1, 1) := by decide +kernel
theorem dX4_scoreByParts_83 : decode cX4_scoreByParts 83 = .ok (.invokevirtual 114, 3) := by decide +kernel
theorem dX4_scoreByParts_86 : decode cX4_scoreByParts 86 = .ok (.i2l, 1) := by decide +kernel
theorem dX4_scoreByParts_87 : decode cX4_scoreByParts 87 = .ok (.lreturn, 1) := by decide +kernel
theorem dX4_scoreByParts_88 : decode cX4_scoreByParts 88 = .ok (.aload_n 0, 1) := by decide +kernel
theorem dX4_scoreByParts_89 : decode cX4_scoreByParts 89 = .ok (.getfield 15, 3) := by decide +kernel
theorem dX4_scoreByParts_92 : decode cX4_scoreByParts 92 = .ok (.aload_n 0, 1) := by decide +kernel
theorem dX4_scoreByParts_93 : decode cX4_scoreByParts 93 = .ok (.getfield 26, 3) := by decide +kernel
theorem dX4_scoreByParts_96 : decode cX4_scoreByParts 96 = .ok (.iload_n 1, 1) := by decide +kernel
theorem dX4_scoreByParts_97 : decode cX4_scoreByParts 97 = .ok (.iconst 0, 1) := by decide +kernel
theorem dX4_scoreByParts_98 : decode cX4_scoreByParts 98 = .ok (.invokevirtual 79, 3) := by decide +kernel
theorem dX4_scoreByParts_101 : decode cX4_scoreByParts 101 = .ok (.laload, 1) := by decide +kernel
theorem dX4_scoreByParts_102 : decode cX4_scoreByParts 102 = .ok (.lreturn, 1) := by decide +kernel
theorem dX4_scoreByParts_103 : decode cX4_scoreByParts 103 = .ok (.lconst 0, 1) := by decide +kernel
theorem dX4_scoreByParts_104 : decode cX4_scoreByParts 104 = .ok (.lreturn, 1) := by decide +kernel
theorem dX4_scoreOfBool_0 : decode cX4_scoreOfBool 0 = .ok (.lconst 0, 1) := by decide +kernel
theorem dX4_scoreOfBool_1 : decode cX4_scoreOfBool 1 = .ok (.lstore_n 2, 1) := by decide +kernel
theorem dX4_scoreOfBool_2 : decode cX4_scoreOfBool 2 = .ok (.iconst 0, 1) := by decide +kernel
theorem dX4_scoreOfBool_3 : decode cX4_scoreOfBool 3 = .ok (.istore 4, 2) := by decide +kernel
theorem dX4_scoreOfBool_5 : decode cX4_scoreOfBool 5 = .ok (.iload 4, 2) := by decide +kernel
theorem dX4_scoreOfBool_7 : decode cX4_scoreOfBool 7 = .ok (.aload_n 0, 1) := by decide +kernel
theorem dX4_scoreOfBool_8 : decode cX4_scoreOfBool 8 = .ok (.getfield 26, 3) := by decide +kernel
theorem dX4_scoreOfBool_11 : decode cX4_scoreOfBool 11 = .ok (.iload_n 1, 1) := by decide +kernel
theorem dX4_scoreOfBool_12 : decode cX4_scoreOfBool 12 = .ok (.invokevirtual 76, 3) := by decide +kernel
theorem dX4_scoreOfBool_15 : decode cX4_scoreOfBool 15 = .ok (.if_icmp .ge 65, 3) := by decide +kernel
theorem dX4_scoreOfBool_18 : decode cX4_scoreOfBool 18 = .ok (.aload_n 0, 1) := by decide +kernel
theorem dX4_scoreOfBool_19 : decode cX4_scoreOfBool 19 = .ok (.getfield 26, 3) := by decide +kernel
theorem dX4_scoreOfBool_22 : decode cX4_scoreOfBool 22 = .ok (.iload_n 1, 1) := by decide +kernel
theorem dX4_scoreOfBool_23 : decode cX4_scoreOfBool 23 = .ok (.iload 4, 2) := by decide +kernel
theorem dX4_scoreOfBool_25 : decode cX4_scoreOfBool 25 = .ok (.invokevirtual 85, 3) := by decide +kernel
theorem dX4_scoreOfBool_28 : decode cX4_scoreOfBool 28 = .ok (.istore 5, 2) := by decide +kernel
theorem dX4_scoreOfBool_30 : decode cX4_scoreOfBool 30 = .ok (.aload_n 0, 1) := by decide +kernel
theorem dX4_scoreOfBool_31 : decode cX4_scoreOfBool 31 = .ok (.getfield 26, 3) := by decide +kernel
theorem dX4_scoreOfBool_34 : decode cX4_scoreOfBool 34 = .ok (.iload_n 1, 1) := by decide +kernel
theorem dX4_scoreOfBool_35 : decode cX4_scoreOfBool 35 = .ok (.iload 4, 2) := by decide +kernel
theorem dX4_scoreOfBool_37 : decode cX4_scoreOfBool 37 = .ok (.invokevirtual 79, 3) := by decide +kernel
theorem dX4_scoreOfBool_40 : decode cX4_scoreOfBool 40 = .ok (.istore 6, 2) := by decide +kernel
theorem dX4_scoreOfBool_42 : decode cX4_scoreOfBool 42 = .ok (.iload 5, 2) := by decide +kernel
theorem dX4_scoreOfBool_44 : decode cX4_scoreOfBool 44 = .ok (.ifCond .eq 9, 3) := by decide +kernel
theorem dX4_scoreOfBool_47 : decode cX4_scoreOfBool 47 = .ok (.iload 5, 2) := by decide +kernel
theorem dX4_scoreOfBool_49 : decode cX4_scoreOfBool 49 = .ok (.iconst 3, 1) := by decide +kernel
theorem dX4_scoreOfBool_50 : decode cX4_scoreOfBool 50 = .ok (.if_icmp .ne 24, 3) := by decide +kernel
theorem dX4_scoreOfBool_53 : decode cX4_scoreOfBool 53 = .ok (.aload_n 0, 1) := by decide +kernel
theorem dX4_scoreOfBool_54 : decode cX4_scoreOfBool 54 = .ok (.getfield 9, 3) := by decide +kernel
theorem dX4_scoreOfBool_57 : decode cX4_scoreOfBool 57 = .ok (.iload 6, 2) := by decide +kernel
theorem dX4_scoreOfBool_59 : decode cX4_scoreOfBool 59 = .ok (.iaload, 1) := by decide +kernel
theorem dX4_scoreOfBool_60 : decode cX4_scoreOfBool 60 = .ok (.iconst 1, 1) := by decide +kernel
theorem dX4_scoreOfBool_61 : decode cX4_scoreOfBool 61 = .ok (.if_icmp .ne 13, 3) := by decide +kernel
theorem dX4_scoreOfBool_64 : decode cX4_scoreOfBool 64 = .ok (.lload_n 2, 1) := by decide +kernel
theorem dX4_scoreOfBool_65 : decode cX4_scoreOfBool 65 = .ok (.aload_n 0, 1) := by decide +kernel
theorem dX4_scoreOfBool_66 : decode cX4_scoreOfBool 66 = .ok (.getfield 15, 3) := by decide +kernel
theorem dX4_scoreOfBool_69 : decode cX4_scoreOfBool 69 = .ok (.iload 6, 2) := by decide +kernel
theorem dX4_scoreOfBool_71 : decode cX4_scoreOfBool 71 = .ok (.laload, 1) := by decide +kernel
theorem dX4_scoreOfBool_72 : decode cX4_scoreOfBool 72 = .ok (.ladd, 1) := by decide +kernel
theorem dX4_scoreOfBool_73 : decode cX4_scoreOfBool 73 = .ok (.lstore_n 2, 1) := by decide +kernel
theorem dX4_scoreOfBool_74 : decode cX4_scoreOfBool 74 = .ok (.iinc 4 1, 3) := by decide +kernel
theorem dX4_scoreOfBool_77 : decode cX4_scoreOfBool 77 = .ok (.goto (-72), 3) := by decide +kernel
theorem dX4_scoreOfBool_80 : decode cX4_scoreOfBool 80 = .ok (.lload_n 2, 1) := by decide +kernel
theorem dX4_scoreOfBool_81 : decode cX4_scoreOfBool 81 = .ok (.lreturn, 1) := by decide +kernel
theorem dX4_scoreOfBest_0 : decode cX4_scoreOfBest 0 = .ok (.lconst 0, 1) := by decide +kernel
theorem dX4_scoreOfBest_1 : decode cX4_scoreOfBest 1 = .ok (.lstore_n 2, 1) := by decide +kernel
theorem dX4_scoreOfBest_2 : decode cX4_scoreOfBest 2 = .ok (.lconst 0, 1) := by decide +kernel
theorem dX4_scoreOfBest_3 : decode cX4_scoreOfBest 3 = .ok (.lstore 4, 2) := by decide +kernel
theorem dX4_scoreOfBest_5 : decode cX4_scoreOfBest 5 = .ok (.iconst 0, 1) := by decide +kernel
theorem dX4_scoreOfBest_6 : decode cX4_scoreOfBest 6 = .ok (.istore 6, 2) := by decide +kernel
theorem dX4_scoreOfBest_8 : decode cX4_scoreOfBest 8 = .ok (.iconst 0, 1) := by decide +kernel
theorem dX4_scoreOfBest_9 : decode cX4_scoreOfBest 9 = .ok (.istore 7, 2) := by decide +kernel
theorem dX4_scoreOfBest_11 : decode cX4_scoreOfBest 11 = .ok (.iload 7, 2) := by decide +kernel
theorem dX4_scoreOfBest_13 : decode cX4_scoreOfBest 13 = .ok (.aload_n 0, 1) := by decide +kernel
theorem dX4_scoreOfBest_14 : decode cX4_scoreOfBest 14 = .ok (.getfield 26, 3) := by decide +kernel
theorem dX4_scoreOfBest_17 : decode cX4_scoreOfBest 17 = .ok (.iload_n 1, 1) := by decide +kernel
theorem dX4_scoreOfBest_18 : decode cX4_scoreOfBest 18 = .ok (.invokevirtual 76, 3) := by decide +kernel
theorem dX4_scoreOfBest_21 : decode cX4_scoreOfBest 21 = .ok (.if_icmp .ge 74, 3) := by decide +kernel
theorem dX4_scoreOfBest_24 : decode cX4_scoreOfBest 24 = .ok (.aload_n 0, 1) := by decide +kernel
theorem dX4_scoreOfBest_25 : decode cX4_scoreOfBest 25 = .ok (.getfield 26, 3) := by decide +kernel
theorem dX4_scoreOfBest_28 : decode cX4_scoreOfBest 28 = .ok (.iload_n 1, 1) := by decide +kernel
theorem dX4_scoreOfBest_29 : decode cX4_scoreOfBest 29 = .ok (.iload 7, 2) := by decide +kernel
theorem dX4_scoreOfBest_31 : decode cX4_scoreOfBest 31 = .ok (.invokevirtual 79, 3) := by decide +kernel
theorem dX4_scoreOfBest_34 : decode cX4_scoreOfBest 34 = .ok (.istore 8, 2) := by decide +kernel
theorem dX4_scoreOfBest_36 : decode cX4_scoreOfBest 36 = .ok (.aload_n 0, 1) := by decide +kernel
theorem dX4_scoreOfBest_37 : decode cX4_scoreOfBest 37 = .ok (.getfield 9, 3) := by decide +kernel
theorem dX4_scoreOfBest_40 : decode cX4_scoreOfBest 40 = .ok (.iload 8, 2) := by decide +kernel
theorem dX4_scoreOfBest_42 : decode cX4_scoreOfBest 42 = .ok (.iaload, 1) := by decide +kernel
theorem dX4_scoreOfBest_43 : decode cX4_scoreOfBest 43 = .ok (.iconst 1, 1) := by decide +kernel
theorem dX4_scoreOfBest_44 : decode cX4_scoreOfBest 44 = .ok (.if_icmp .ne 45, 3) := by decide +kernel
theorem dX4_scoreOfBest_47 : decode cX4_scoreOfBest 47 = .ok (.lload_n 2, 1) := by decide +kernel
theorem dX4_scoreOfBest_48 : decode cX4_scoreOfBest 48 = .ok (.aload_n 0, 1) := by decide +kernel
theorem dX4_scoreOfBest_49 : decode cX4_scoreOfBest 49 = .ok (.getfield 15, 3) := by decide +kernel
theorem dX4_scoreOfBest_52 : decode cX4_scoreOfBest 52 = .ok (.iload 8, 2) := by decide +kernel
theorem dX4_scoreOfBest_54 : decode cX4_scoreOfBest 54 = .ok (.laload, 1) := by decide +kernel
theorem dX4_scoreOfBest_55 : decode cX4_scoreOfBest 55 = .ok (.ladd, 1) := by decide +kernel
theorem dX4_scoreOfBest_56 : decode cX4_scoreOfBest 56 = .ok (.lstore_n 2, 1) := by decide +kernel
theorem dX4_scoreOfBest_57 : decode cX4_scoreOfBest 57 = .ok (.iload 6, 2) := by decide +kernel
theorem dX4_scoreOfBest_59 : decode cX4_scoreOfBest 59 = .ok (.ifCond .eq 18, 3) := by decide +kernel
theorem dX4_scoreOfBest_62 : decode cX4_scoreOfBest 62 = .ok (.lload 4, 2) := by decide +kernel
theorem dX4_scoreOfBest_64 : decode cX4_scoreOfBest 64 = .ok (.aload_n 0, 1) := by decide +kernel
theorem dX4_scoreOfBest_65 : decode cX4_scoreOfBest 65 = .ok (.getfield 15, 3) := by decide +kernel
theorem dX4_scoreOfBest_68 : decode cX4_scoreOfBest 68 = .ok (.iload 8, 2) := by decide +kernel
theorem dX4_scoreOfBest_70 : decode cX4_scoreOfBest 70 = .ok (.laload, 1) := by decide +kernel
theorem dX4_scoreOfBest_71 : decode cX4_scoreOfBest 71 = .ok (.invokestatic 136, 3) := by decide +kernel
theorem dX4_scoreOfBest_74 : decode cX4_scoreOfBest 74 = .ok (.goto 10, 3) := by decide +kernel
theorem dX4_scoreOfBest_77 : decode cX4_scoreOfBest 77 = .ok (.aload_n 0, 1) := by decide +kernel
theorem dX4_scoreOfBest_78 : decode cX4_scoreOfBest 78 = .ok (.getfield 15, 3) := by decide +kernel
theorem dX4_scoreOfBest_81 : decode cX4_scoreOfBest 81 = .ok (.iload 8, 2) := by decide +kernel
theorem dX4_scoreOfBest_83 : decode cX4_scoreOfBest 83 = .ok (.laload, 1) := by decide +kernel
theorem dX4_scoreOfBest_84 : decode cX4_scoreOfBest 84 = .ok (.lstore 4, 2) := by decide +kernel
theorem dX4_scoreOfBest_86 : decode cX4_scoreOfBest 86 = .ok (.iconst 1, 1) := by decide +kernel
theorem dX4_scoreOfBest_87 : decode cX4_scoreOfBest 87 = .ok (.istore 6, 2) := by decide +kernel
theorem dX4_scoreOfBest_89 : decode cX4_scoreOfBest 89 = .ok (.iinc 7 1, 3) := by decide +kernel
theorem dX4_scoreOfBest_92 : decode cX4_scoreOfBest 92 = .ok (.goto (-81), 3) := by decide +kernel
theorem dX4_scoreOfBest_95 : decode cX4_scoreOfBest 95 = .ok (.lload 4, 2) := by decide +kernel
theorem dX4_scoreOfBest_97 : decode cX4_scoreOfBest 97 = .ok (.lload_n 2, 1) := by decide +kernel
theorem dX4_scoreOfBest_98 : decode cX4_scoreOfBest 98 = .ok (.lload 4, 2) := by decide +kernel
theorem dX4_scoreOfBest_100 : decode cX4_scoreOfBest 100 = .ok (.lsub, 1) := by decide +kernel
theorem dX4_scoreOfBest_101 : decode cX4_scoreOfBest 101 = .ok (.aload_n 0, 1) := by decide +kernel
theorem dX4_scoreOfBest_102 : decode cX4_scoreOfBest 102 = .ok (.getfield 26, 3) := by decide +kernel
theorem dX4_scoreOfBest_105 : decode cX4_scoreOfBest 105 = .ok (.iload_n 1, 1) := by decide +kernel
theorem dX4_scoreOfBest_106 : decode cX4_scoreOfBest 106 = .ok (.invokevirtual 121, 3) := by decide +kernel
theorem dX4_scoreOfBest_109 : decode cX4_scoreOfBest 109 = .ok (.i2l, 1) := by decide +kernel
theorem dX4_scoreOfBest_110 : decode cX4_scoreOfBest 110 = .ok (.lmul, 1) := by decide +kernel
theorem dX4_scoreOfBest_111 : decode cX4_scoreOfBest 111 = .ok (.ldc2_w 142, 3) := by decide +kernel
theorem dX4_scoreOfBest_114 : decode cX4_scoreOfBest 114 = .ok (.ldiv, 1) := by decide +kernel
theorem dX4_scoreOfBest_115 : decode cX4_scoreOfBest 115 = .ok (.ladd, 1) := by decide +kernel
theorem dX4_scoreOfBest_116 : decode cX4_scoreOfBest 116 = .ok (.lreturn, 1) := by decide +kernel
theorem dX5_init_0 : decode cX5_init 0 = .ok (.aload_n 0, 1) := by decide +kernel
theorem dX5_init_1 : decode cX5_init 1 = .ok (.invokespecial 3, 3) := by decide +kernel
theorem dX5_init_4 : decode cX5_init 4 = .ok (.aload_n 0, 1) := by decide +kernel
theorem dX5_init_5 : decode cX5_init 5 = .ok (.bipush 80, 2) := by decide +kernel
theorem dX5_init_7 : decode cX5_init 7 = .ok (.newarray .int, 2) := by decide +kernel
theorem dX5_init_9 : decode cX5_init 9 = .ok (.putfield 9, 3) := by decide +kernel
theorem dX5_init_12 : decode cX5_init 12 = .ok (.aload_n 0, 1) := by decide +kernel
theorem dX5_init_13 : decode cX5_init 13 = .ok (.bipush 80, 2) := by decide +kernel
theorem dX5_init_15 : decode cX5_init 15 = .ok (.newarray .int, 2) := by decide +kernel
theorem dX5_init_17 : decode cX5_init 17 = .ok (.putfield 15, 3) := by decide +kernel
theorem dX5_init_20 : decode cX5_init 20 = .ok (.aload_n 0, 1) := by decide +kernel
theorem dX5_init_21 : decode cX5_init 21 = .ok (.bipush 80, 2) := by decide +kernel
theorem dX5_init_23 : decode cX5_init 23 = .ok (.newarray .int, 2) := by decide +kernel
theorem dX5_init_25 : decode cX5_init 25 = .ok (.putfield 18, 3) := by decide +kernel
theorem dX5_init_28 : decode cX5_init 28 = .ok (.aload_n 0, 1) := by decide +kernel
theorem dX5_init_29 : decode cX5_init 29 = .ok (.bipush 80, 2) := by decide +kernel
theorem dX5_init_31 : decode cX5_init 31 = .ok (.newarray .int, 2) := by decide +kernel
theorem dX5_init_33 : decode cX5_init 33 = .ok (.putfield 21, 3) := by decide +kernel
theorem dX5_init_36 : decode cX5_init 36 = .ok (.aload_n 0, 1) := by decide +kernel
theorem dX5_init_37 : decode cX5_init 37 = .ok (.bipush 80, 2) := by decide +kernel
theorem dX5_init_39 : decode cX5_init 39 = .ok (.newarray .int, 2) := by decide +kernel
theorem dX5_init_41 : decode cX5_init 41 = .ok (.putfield 24, 3) := by decide +kernel
theorem dX5_init_44 : decode cX5_init 44 = .ok (.aload_n 0, 1) := by decide +kernel
theorem dX5_init_45 : decode cX5_init 45 = .ok (.sipush 640, 3) := by decide +kernel
theorem dX5_init_48 : decode cX5_init 48 = .ok (.newarray .int, 2) := by decide +kernel
theorem dX5_init_50 : decode cX5_init 50 = .ok (.putfield 27, 3) := by decide +kernel
theorem dX5_init_53 : decode cX5_init 53 = .ok (.aload_n 0, 1) := by decide +kernel
theorem dX5_init_54 : decode cX5_init 54 = .ok (.sipush 640, 3) := by decide +kernel
theorem dX5_init_57 : decode cX5_init 57 = .ok (.newarray .int, 2) := by decide +kernel
theorem dX5_init_59 : decode cX5_init 59 = .ok (.putfield 30, 3) := by decide +kernel
theorem dX5_init_62 : decode cX5_init 62 = .ok (.return_, 1) := by decide +kernel
theorem dX5_count_0 : decode cX5_count 0 = .ok (.aload_n 0, 1) := by decide +kernel
theorem dX5_count_1 : decode cX5_count 1 = .ok (.getfield 33, 3) := by decide +kernel
theorem dX5_count_4 : decode cX5_count 4 = .ok (.ireturn, 1) := by decide +kernel
theorem dX5_has_0 : decode cX5_has 0 = .ok (.iload_n 1, 1) := by decide +kernel
theorem dX5_has_1 : decode cX5_has 1 = .ok (.ifCond .lt 15, 3) := by decide +kernel
theorem dX5_has_4 : decode cX5_has 4 = .ok (.iload_n 1, 1) := by decide +kernel
theorem dX5_has_5 : decode cX5_has 5 = .ok (.aload_n 0, 1) := by decide +kernel
theorem dX5_has_6 : decode cX5_has 6 = .ok (.getfield 33, 3) := by decide +kernel
theorem dX5_has_9 : decode cX5_has 9 = .ok (.if_icmp .ge 7, 3) := by decide +kernel
theorem dX5_has_12 : decode cX5_has 12 = .ok (.iconst 1, 1) := by decide +kernel
theorem dX5_has_13 : decode cX5_has 13 = .ok (.goto 4, 3) := by decide +kernel
theorem dX5_has_16 : decode cX5_has 16 = .ok (.iconst 0, 1) := by decide +kernel
theorem dX5_has_17 : decode cX5_has 17 = .ok (.ireturn, 1) := by decide +kernel
theorem dX5_kind_0 : decode cX5_kind 0 = .ok (.aload_n 0, 1) := by decide +kernel
theorem dX5_kind_1 : decode cX5_kind 1 = .ok (.getfield 9, 3) := by decide +kernel
theorem dX5_kind_4 : decode cX5_kind 4 = .ok (.iload_n 1, 1) := by decide +kernel
theorem dX5_kind_5 : decode cX5_kind 5 = .ok (.iaload, 1) := by decide +kernel
theorem dX5_kind_6 : decode cX5_kind 6 = .ok (.ireturn, 1) := by decide +kernel
theorem dX5_first_0 : decode cX5_first 0 = .ok (.aload_n 0, 1) := by decide +kernel
theorem dX5_first_1 : decode cX5_first 1 = .ok (.getfield 15, 3) := by decide +kernel
theorem dX5_first_4 : decode cX5_first 4 = .ok (.iload_n 1, 1) := by decide +kernel
theorem dX5_first_5 : decode cX5_first 5 = .ok (.iaload, 1) := by decide +kernel
theorem dX5_first_6 : decode cX5_first 6 = .ok (.ireturn, 1) := by decide +kernel
theorem dX5_second_0 : decode cX5_second 0 = .ok (.aload_n 0, 1) := by decide +kernel
theorem dX5_second_1 : decode cX5_second 1 = .ok (.getfield 18, 3) := by decide +kernel
theorem dX5_second_4 : decode cX5_second 4 = .ok (.iload_n 1, 1) := by decide +kernel
theorem dX5_second_5 : decode cX5_second 5 = .ok (.iaload, 1) := by decide +kernel
theorem dX5_second_6 : decode cX5_second 6 = .ok (.ireturn, 1) := by decide +kernel
theorem dX5_size_0 : decode cX5_size 0 = .ok (.aload_n 0, 1) := by decide +kernel
theorem dX5_size_1 : decode cX5_size 1 = .ok (.getfield 24, 3) := by decide +kernel
theorem dX5_size_4 : decode cX5_size 4 = .ok (.iload_n 1, 1) := by decide +kernel
theorem dX5_size_5 : decode cX5_size 5 = .ok (.iaload, 1) := by decide +kernel
theorem dX5_size_6 : decode cX5_size 6 = .ok (.ireturn, 1) := by decide +kernel
theorem dX5_roleAt_0 : decode cX5_roleAt 0 = .ok (.aload_n 0, 1) := by decide +kernel
theorem dX5_roleAt_1 : decode cX5_roleAt 1 = .ok (.getfield 27, 3) := by decide +kernel
theorem dX5_roleAt_4 : decode cX5_roleAt 4 = .ok (.iload_n 1, 1) := by decide +kernel
theorem dX5_roleAt_5 : decode cX5_roleAt 5 = .ok (.bipush 8, 2) := by decide +kernel
theorem dX5_roleAt_7 : decode cX5_roleAt 7 = .ok (.imul, 1) := by decide +kernel
theorem dX5_roleAt_8 : decode cX5_roleAt 8 = .ok (.iload_n 2, 1) := by decide +kernel
theorem dX5_roleAt_9 : decode cX5_roleAt 9 = .ok (.iadd, 1) := by decide +kernel
theorem dX5_roleAt_10 : decode cX5_roleAt 10 = .ok (.iaload, 1) := by decide +kernel
theorem dX5_roleAt_11 : decode cX5_roleAt 11 = .ok (.ireturn, 1) := by decide +kernel
theorem dX5_partAt_0 : decode cX5_partAt 0 = .ok (.aload_n 0, 1) := by decide +kernel
theorem dX5_partAt_1 : decode cX5_partAt 1 = .ok (.getfield 30, 3) := by decide +kernel
theorem dX5_partAt_4 : decode cX5_partAt 4 = .ok (.iload_n 1, 1) := by decide +kernel
theorem dX5_partAt_5 : decode cX5_partAt 5 = .ok (.bipush 8, 2) := by decide +kernel
theorem dX5_partAt_7 : decode cX5_partAt 7 = .ok (.imul, 1) := by decide +kernel
theorem dX5_partAt_8 : decode cX5_partAt 8 = .ok (.iload_n 2, 1) := by decide +kernel
theorem dX5_partAt_9 : decode cX5_partAt 9 = .ok (.iadd, 1) := by decide +kernel
theorem dX5_partAt_10 : decode cX5_partAt 10 = .ok (.iaload, 1) := by decide +kernel
theorem dX5_partAt_11 : decode cX5_partAt 11 = .ok (.ireturn, 1) := by decide +kernel
theorem dX5_asked_0 : decode cX5_asked 0 = .ok (.aload_n 0, 1) := by decide +kernel
theorem dX5_asked_1 : decode cX5_asked 1 = .ok (.getfield 21, 3) := by decide +kernel
theorem dX5_asked_4 : decode cX5_asked 4 = .ok (.iload_n 1, 1) := by decide +kernel
theorem dX5_asked_5 : decode cX5_asked 5 = .ok (.iaload, 1) := by decide +kernel
theorem dX5_asked_6 : decode cX5_asked 6 = .ok (.ireturn, 1) := by decide +kernel
theorem dX5_make_0 : decode cX5_make 0 = .ok (.aload_n 0, 1) := by decide +kernel
theorem dX5_make_1 : decode cX5_make 1 = .ok (.getfield 33, 3) := by decide +kernel
theorem dX5_make_4 : decode cX5_make 4 = .ok (.bipush 80, 2) := by decide +kernel
theorem dX5_make_6 : decode cX5_make 6 = .ok (.if_icmp .lt 6, 3) := by decide +kernel
theorem dX5_make_9 : decode cX5_make 9 = .ok (.bipush (-3), 2) := by decide +kernel
theorem dX5_make_11 : decode cX5_make 11 = .ok (.ireturn, 1) := by decide +kernel
theorem dX5_make_12 : decode cX5_make 12 = .ok (.aload_n 0, 1) := by decide +kernel
theorem dX5_make_13 : decode cX5_make 13 = .ok (.getfield 33, 3) := by decide +kernel
theorem dX5_make_16 : decode cX5_make 16 = .ok (.istore 4, 2) := by decide +kernel
theorem dX5_make_18 : decode cX5_make 18 = .ok (.aload_n 0, 1) := by decide +kernel
theorem dX5_make_19 : decode cX5_make 19 = .ok (.dup, 1) := by decide +kernel
theorem dX5_make_20 : decode cX5_make 20 = .ok (.getfield 33, 3) := by decide +kernel
theorem dX5_make_23 : decode cX5_make 23 = .ok (.iconst 1, 1) := by decide +kernel
theorem dX5_make_24 : decode cX5_make 24 = .ok (.iadd, 1) := by decide +kernel
theorem dX5_make_25 : decode cX5_make 25 = .ok (.putfield 33, 3) := by decide +kernel
theorem dX5_make_28 : decode cX5_make 28 = .ok (.aload_n 0, 1) := by decide +kernel
theorem dX5_make_29 : decode cX5_make 29 = .ok (.getfield 9, 3) := by decide +kernel
theorem dX5_make_32 : decode cX5_make 32 = .ok (.iload 4, 2) := by decide +kernel
theorem dX5_make_34 : decode cX5_make 34 = .ok (.iload_n 1, 1) := by decide +kernel
theorem dX5_make_35 : decode cX5_make 35 = .ok (.iastore, 1) := by decide +kernel
theorem dX5_make_36 : decode cX5_make 36 = .ok (.aload_n 0, 1) := by decide +kernel
theorem dX5_make_37 : decode cX5_make 37 = .ok (.getfield 15, 3) := by decide +kernel
theorem dX5_make_40 : decode cX5_make 40 = .ok (.iload 4, 2) := by decide +kernel
theorem dX5_make_42 : decode cX5_make 42 = .ok (.iload_n 2, 1) := by decide +kernel
theorem dX5_make_43 : decode cX5_make 43 = .ok (.iastore, 1) := by decide +kernel
theorem dX5_make_44 : decode cX5_make 44 = .ok (.aload_n 0, 1) := by decide +kernel
theorem dX5_make_45 : decode cX5_make 45 = .ok (.getfield 18, 3) := by decide +kernel
theorem dX5_make_48 : decode cX5_make 48 = .ok (.iload 4, 2) := by decide +kernel
theorem dX5_make_50 : decode cX5_make 50 = .ok (.iload_n 3, 1) := by decide +kernel
theorem dX5_make_51 : decode cX5_make 51 = .ok (.iastore, 1) := by decide +kernel
theorem dX5_make_52 : decode cX5_make 52 = .ok (.aload_n 0, 1) := by decide +kernel
theorem dX5_make_53 : decode cX5_make 53 = .ok (.getfield 21, 3) := by decide +kernel
theorem dX5_make_56 : decode cX5_make 56 = .ok (.iload 4, 2) := by decide +kernel
theorem dX5_make_58 : decode cX5_make 58 = .ok (.iconst 0, 1) := by decide +kernel
theorem dX5_make_59 : decode cX5_make 59 = .ok (.iastore, 1) := by decide +kernel
theorem dX5_make_60 : decode cX5_make 60 = .ok (.aload_n 0, 1) := by decide +kernel
theorem dX5_make_61 : decode cX5_make 61 = .ok (.getfield 24, 3) := by decide +kernel
theorem dX5_make_64 : decode cX5_make 64 = .ok (.iload 4, 2) := by decide +kernel
theorem dX5_make_66 : decode cX5_make 66 = .ok (.iconst 0, 1) := by decide +kernel
theorem dX5_make_67 : decode cX5_make 67 = .ok (.iastore, 1) := by decide +kernel
theorem dX5_make_68 : decode cX5_make 68 = .ok (.iload_n 1, 1) := by decide +kernel
theorem dX5_make_69 : decode cX5_make 69 = .ok (.iconst 4, 1) := by decide +kernel
theorem dX5_make_70 : decode cX5_make 70 = .ok (.if_icmp .eq 14, 3) := by decide +kernel
theorem dX5_make_73 : decode cX5_make 73 = .ok (.iload_n 1, 1) := by decide +kernel
theorem dX5_make_74 : decode cX5_make 74 = .ok (.iconst 5, 1) := by decide +kernel
theorem dX5_make_75 : decode cX5_make 75 = .ok (.if_icmp .eq 9, 3) := by decide +kernel
theorem dX5_make_78 : decode cX5_make 78 = .ok (.iload_n 1, 1) := by decide +kernel
theorem dX5_make_79 : decode cX5_make 79 = .ok (.bipush 6, 2) := by decide +kernel
theorem dX5_make_81 : decode cX5_make 81 = .ok (.if_icmp .ne 12, 3) := by decide +kernel
theorem dX5_make_84 : decode cX5_make 84 = .ok (.aload_n 0, 1) := by decide +kernel
theorem dX5_make_85 : decode cX5_make 85 = .ok (.iload 4, 2) := by decide +kernel
theorem dX5_make_87 : decode cX5_make 87 = .ok (.iconst 0, 1) := by decide +kernel
theorem dX5_make_88 : decode cX5_make 88 = .ok (.iload_n 2, 1) := by decide +kernel
theorem dX5_make_89 : decode cX5_make 89 = .ok (.invokevirtual 37, 3) := by decide +kernel
theorem dX5_make_92 : decode cX5_make 92 = .ok (.pop, 1) := by decide +kernel
theorem dX5_make_93 : decode cX5_make 93 = .ok (.iload 4, 2) := by decide +kernel
theorem dX5_make_95 : decode cX5_make 95 = .ok (.ireturn, 1) := by decide +kernel
theorem dX5_add_0 : decode cX5_add 0 = .ok (.aload_n 0, 1) := by decide +kernel
theorem dX5_add_1 : decode cX5_add 1 = .ok (.getfield 24, 3) := by decide +kernel
theorem dX5_add_4 : decode cX5_add 4 = .ok (.iload_n 1, 1) := by decide +kernel
theorem dX5_add_5 : decode cX5_add 5 = .ok (.iaload, 1) := by decide +kernel
theorem dX5_add_6 : decode cX5_add 6 = .ok (.bipush 8, 2) := by decide +kernel
theorem dX5_add_8 : decode cX5_add 8 = .ok (.if_icmp .lt 5, 3) := by decide +kernel
theorem dX5_add_11 : decode cX5_add 11 = .ok (.iconst 0, 1) := by decide +kernel
theorem dX5_add_12 : decode cX5_add 12 = .ok (.ireturn, 1) := by decide +kernel
theorem dX5_add_13 : decode cX5_add 13 = .ok (.iload_n 1, 1) := by decide +kernel
theorem dX5_add_14 : decode cX5_add 14 = .ok (.bipush 8, 2) := by decide +kernel
theorem dX5_add_16 : decode cX5_add 16 = .ok (.imul, 1) := by decide +kernel
theorem dX5_add_17 : decode cX5_add 17 = .ok (.aload_n 0, 1) := by decide +kernel
theorem dX5_add_18 : decode cX5_add 18 = .ok (.getfield 24, 3) := by decide +kernel
theorem dX5_add_21 : decode cX5_add 21 = .ok (.iload_n 1, 1) := by decide +kernel
theorem dX5_add_22 : decode cX5_add 22 = .ok (.iaload, 1) := by decide +kernel
theorem dX5_add_23 : decode cX5_add 23 = .ok (.iadd, 1) := by decide +kernel
theorem dX5_add_24 : decode cX5_add 24 = .ok (.istore 4, 2) := by decide +kernel
theorem dX5_add_26 : decode cX5_add 26 = .ok (.aload_n 0, 1) := by decide +kernel
theorem dX5_add_27 : decode cX5_add 27 = .ok (.getfield 27, 3) := by decide +kernel
theorem dX5_add_30 : decode cX5_add 30 = .ok (.iload 4, 2) := by decide +kernel
theorem dX5_add_32 : decode cX5_add 32 = .ok (.iload_n 2, 1) := by decide +kernel
theorem dX5_add_33 : decode cX5_add 33 = .ok (.iastore, 1) := by decide +kernel
theorem dX5_add_34 : decode cX5_add 34 = .ok (.aload_n 0, 1) := by decide +kernel
theorem dX5_add_35 : decode cX5_add 35 = .ok (.getfield 30, 3) := by decide +kernel
theorem dX5_add_38 : decode cX5_add 38 = .ok (.iload 4, 2) := by decide +kernel
theorem dX5_add_40 : decode cX5_add 40 = .ok (.iload_n 3, 1) := by decide +kernel
theorem dX5_add_41 : decode cX5_add 41 = .ok (.iastore, 1) := by decide +kernel
theorem dX5_add_42 : decode cX5_add 42 = .ok (.aload_n 0, 1) := by decide +kernel
theorem dX5_add_43 : decode cX5_add 43 = .ok (.getfield 24, 3) := by decide +kernel
theorem dX5_add_46 : decode cX5_add 46 = .ok (.iload_n 1, 1) := by decide +kernel
theorem dX5_add_47 : decode cX5_add 47 = .ok (.dup2, 1) := by decide +kernel
theorem dX5_add_48 : decode cX5_add 48 = .ok (.iaload, 1) := by decide +kernel
theorem dX5_add_49 : decode cX5_add 49 = .ok (.iconst 1, 1) := by decide +kernel
theorem dX5_add_50 : decode cX5_add 50 = .ok (.iadd, 1) := by decide +kernel
theorem dX5_add_51 : decode cX5_add 51 = .ok (.iastore, 1) := by decide +kernel
theorem dX5_add_52 : decode cX5_add 52 = .ok (.iconst 1, 1) := by decide +kernel
theorem dX5_add_53 : decode cX5_add 53 = .ok (.ireturn, 1) := by decide +kernel
theorem dX5_shrinkTo_0 : decode cX5_shrinkTo 0 = .ok (.aload_n 0, 1) := by decide +kernel
theorem dX5_shrinkTo_1 : decode cX5_shrinkTo 1 = .ok (.iload_n 1, 1) := by decide +kernel
theorem dX5_shrinkTo_2 : decode cX5_shrinkTo 2 = .ok (.putfield 33, 3) := by decide +kernel
theorem dX5_shrinkTo_5 : decode cX5_shrinkTo 5 = .ok (.return_, 1) := by decide +kernel
theorem dX5_hasNumbers_0 : decode cX5_hasNumbers 0 = .ok (.aload_n 0, 1) := by decide +kernel
theorem dX5_hasNumbers_1 : decode cX5_hasNumbers 1 = .ok (.getfield 9, 3) := by decide +kernel
theorem dX5_hasNumbers_4 : decode cX5_hasNumbers 4 = .ok (.iload_n 1, 1) := by decide +kernel
theorem dX5_hasNumbers_5 : decode cX5_hasNumbers 5 = .ok (.iaload, 1) := by decide +kernel
theorem dX5_hasNumbers_6 : decode cX5_hasNumbers 6 = .ok (.iload_n 2, 1) := by decide +kernel
theorem dX5_hasNumbers_7 : decode cX5_hasNumbers 7 = .ok (.if_icmp .ne 28, 3) := by decide +kernel
theorem dX5_hasNumbers_10 : decode cX5_hasNumbers 10 = .ok (.aload_n 0, 1) := by decide +kernel
theorem dX5_hasNumbers_11 : decode cX5_hasNumbers 11 = .ok (.getfield 15, 3) := by decide +kernel
theorem dX5_hasNumbers_14 : decode cX5_hasNumbers 14 = .ok (.iload_n 1, 1) := by decide +kernel
theorem dX5_hasNumbers_15 : decode cX5_hasNumbers 15 = .ok (.iaload, 1) := by decide +kernel
theorem dX5_hasNumbers_16 : decode cX5_hasNumbers 16 = .ok (.iload_n 3, 1) := by decide +kernel
theorem dX5_hasNumbers_17 : decode cX5_hasNumbers 17 = .ok (.if_icmp .ne 18, 3) := by decide +kernel
theorem dX5_hasNumbers_20 : decode cX5_hasNumbers 20 = .ok (.aload_n 0, 1) := by decide +kernel
theorem dX5_hasNumbers_21 : decode cX5_hasNumbers 21 = .ok (.getfield 18, 3) := by decide +kernel
theorem dX5_hasNumbers_24 : decode cX5_hasNumbers 24 = .ok (.iload_n 1, 1) := by decide +kernel
theorem dX5_hasNumbers_25 : decode cX5_hasNumbers 25 = .ok (.iaload, 1) := by decide +kernel
theorem dX5_hasNumbers_26 : decode cX5_hasNumbers 26 = .ok (.iload 4, 2) := by decide +kernel
theorem dX5_hasNumbers_28 : decode cX5_hasNumbers 28 = .ok (.if_icmp .ne 7, 3) := by decide +kernel
theorem dX5_hasNumbers_31 : decode cX5_hasNumbers 31 = .ok (.iconst 1, 1) := by decide +kernel
theorem dX5_hasNumbers_32 : decode cX5_hasNumbers 32 = .ok (.goto 4, 3) := by decide +kernel
theorem dX5_hasNumbers_35 : decode cX5_hasNumbers 35 = .ok (.iconst 0, 1) := by decide +kernel
theorem dX5_hasNumbers_36 : decode cX5_hasNumbers 36 = .ok (.ireturn, 1) := by decide +kernel
theorem dX5_countOf_0 : decode cX5_countOf 0 = .ok (.iconst 0, 1) := by decide +kernel
theorem dX5_countOf_1 : decode cX5_countOf 1 = .ok (.istore_n 3, 1) := by decide +kernel
theorem dX5_countOf_2 : decode cX5_countOf 2 = .ok (.iconst 0, 1) := by decide +kernel
theorem dX5_countOf_3 : decode cX5_countOf 3 = .ok (.istore 4, 2) := by decide +kernel
theorem dX5_countOf_5 : decode cX5_countOf 5 = .ok (.iload 4, 2) := by decide +kernel
theorem dX5_countOf_7 : decode cX5_countOf 7 = .ok (.aload_n 0, 1) := by decide +kernel
theorem dX5_countOf_8 : decode cX5_countOf 8 = .ok (.getfield 24, 3) := by decide +kernel
theorem dX5_countOf_11 : decode cX5_countOf 11 = .ok (.iload_n 1, 1) := by decide +kernel
theorem dX5_countOf_12 : decode cX5_countOf 12 = .ok (.iaload, 1) := by decide +kernel
theorem dX5_countOf_13 : decode cX5_countOf 13 = .ok (.if_icmp .ge 23, 3) := by decide +kernel
theorem dX5_countOf_16 : decode cX5_countOf 16 = .ok (.aload_n 0, 1) := by decide +kernel
theorem dX5_countOf_17 : decode cX5_countOf 17 = .ok (.iload_n 1, 1) := by decide +kernel
theorem dX5_countOf_18 : decode cX5_countOf 18 = .ok (.iload 4, 2) := by decide +kernel
theorem dX5_countOf_20 : decode cX5_countOf 20 = .ok (.invokevirtual 41, 3) := by decide +kernel
theorem dX5_countOf_23 : decode cX5_countOf 23 = .ok (.iload_n 2, 1) := by decide +kernel
theorem dX5_countOf_24 : decode cX5_countOf 24 = .ok (.if_icmp .ne 6, 3) := by decide +kernel
theorem dX5_countOf_27 : decode cX5_countOf 27 = .ok (.iinc 3 1, 3) := by decide +kernel
theorem dX5_countOf_30 : decode cX5_countOf 30 = .ok (.iinc 4 1, 3) := by decide +kernel
theorem dX5_countOf_33 : decode cX5_countOf 33 = .ok (.goto (-28), 3) := by decide +kernel
theorem dX5_countOf_36 : decode cX5_countOf 36 = .ok (.iload_n 3, 1) := by decide +kernel
theorem dX5_countOf_37 : decode cX5_countOf 37 = .ok (.ireturn, 1) := by decide +kernel
theorem dX5_leastOf_0 : decode cX5_leastOf 0 = .ok (.aload_n 0, 1) := by decide +kernel
theorem dX5_leastOf_1 : decode cX5_leastOf 1 = .ok (.iload_n 1, 1) := by decide +kernel
theorem dX5_leastOf_2 : decode cX5_leastOf 2 = .ok (.iconst 0, 1) := by decide +kernel
theorem dX5_leastOf_3 : decode cX5_leastOf 3 = .ok (.invokevirtual 45, 3) := by decide +kernel
theorem dX5_leastOf_6 : decode cX5_leastOf 6 = .ok (.ifCond .ne 16, 3) := by decide +kernel
theorem dX5_leastOf_9 : decode cX5_leastOf 9 = .ok (.aload_n 0, 1) := by decide +kernel
theorem dX5_leastOf_10 : decode cX5_leastOf 10 = .ok (.iload_n 1, 1) := by decide +kernel
theorem dX5_leastOf_11 : decode cX5_leastOf 11 = .ok (.iconst 1, 1) := by decide +kernel
theorem dX5_leastOf_12 : decode cX5_leastOf 12 = .ok (.invokevirtual 45, 3) := by decide +kernel
theorem dX5_leastOf_15 : decode cX5_leastOf 15 = .ok (.ifCond .ne 7, 3) := by decide +kernel
theorem dX5_leastOf_18 : decode cX5_leastOf 18 = .ok (.iconst 1, 1) := by decide +kernel
theorem dX5_leastOf_19 : decode cX5_leastOf 19 = .ok (.goto 4, 3) := by decide +kernel
theorem dX5_leastOf_22 : decode cX5_leastOf 22 = .ok (.iconst 0, 1) := by decide +kernel
theorem dX5_leastOf_23 : decode cX5_leastOf 23 = .ok (.istore_n 2, 1) := by decide +kernel
theorem dX5_leastOf_24 : decode cX5_leastOf 24 = .ok (.iload_n 2, 1) := by decide +kernel
theorem dX5_leastOf_25 : decode cX5_leastOf 25 = .ok (.ifCond .eq 16, 3) := by decide +kernel
theorem dX5_leastOf_28 : decode cX5_leastOf 28 = .ok (.aload_n 0, 1) := by decide +kernel
theorem dX5_leastOf_29 : decode cX5_leastOf 29 = .ok (.getfield 15, 3) := by decide +kernel
theorem dX5_leastOf_32 : decode cX5_leastOf 32 = .ok (.iload_n 1, 1) := by decide +kernel
theorem dX5_leastOf_33 : decode cX5_leastOf 33 = .ok (.iaload, 1) := by decide +kernel
theorem dX5_leastOf_34 : decode cX5_leastOf 34 = .ok (.iconst 1, 1) := by decide +kernel
theorem dX5_leastOf_35 : decode cX5_leastOf 35 = .ok (.invokestatic 48, 3) := by decide +kernel
theorem dX5_leastOf_38 : decode cX5_leastOf 38 = .ok (.goto 9, 3) := by decide +kernel
theorem dX5_leastOf_41 : decode cX5_leastOf 41 = .ok (.aload_n 0, 1) := by decide +kernel
theorem dX5_leastOf_42 : decode cX5_leastOf 42 = .ok (.getfield 15, 3) := by decide +kernel
theorem dX5_leastOf_45 : decode cX5_leastOf 45 = .ok (.iload_n 1, 1) := by decide +kernel
theorem dX5_leastOf_46 : decode cX5_leastOf 46 = .ok (.iaload, 1) := by decide +kernel
theorem dX5_leastOf_47 : decode cX5_leastOf 47 = .ok (.ireturn, 1) := by decide +kernel
theorem dX5_ask_0 : decode cX5_ask 0 = .ok (.aload_n 0, 1) := by decide +kernel
theorem dX5_ask_1 : decode cX5_ask 1 = .ok (.getfield 21, 3) := by decide +kernel
theorem dX5_ask_4 : decode cX5_ask 4 = .ok (.iload_n 1, 1) := by decide +kernel
theorem dX5_ask_5 : decode cX5_ask 5 = .ok (.dup2, 1) := by decide +kernel
theorem dX5_ask_6 : decode cX5_ask 6 = .ok (.iaload, 1) := by decide +kernel
theorem dX5_ask_7 : decode cX5_ask 7 = .ok (.iconst 1, 1) := by decide +kernel
theorem dX5_ask_8 : decode cX5_ask 8 = .ok (.iadd, 1) := by decide +kernel
theorem dX5_ask_9 : decode cX5_ask 9 = .ok (.iastore, 1) := by decide +kernel
theorem dX5_ask_10 : decode cX5_ask 10 = .ok (.return_, 1) := by decide +kernel
theorem dX5_askedInAll_0 : decode cX5_askedInAll 0 = .ok (.iconst 0, 1) := by decide +kernel
theorem dX5_askedInAll_1 : decode cX5_askedInAll 1 = .ok (.istore_n 1, 1) := by decide +kernel
theorem dX5_askedInAll_2 : decode cX5_askedInAll 2 = .ok (.iconst 0, 1) := by decide +kernel
theorem dX5_askedInAll_3 : decode cX5_askedInAll 3 = .ok (.istore_n 2, 1) := by decide +kernel
theorem dX5_askedInAll_4 : decode cX5_askedInAll 4 = .ok (.iload_n 2, 1) := by decide +kernel
theorem dX5_askedInAll_5 : decode cX5_askedInAll 5 = .ok (.aload_n 0, 1) := by decide +kernel
theorem dX5_askedInAll_6 : decode cX5_askedInAll 6 = .ok (.getfield 33, 3) := by decide +kernel
theorem dX5_askedInAll_9 : decode cX5_askedInAll 9 = .ok (.if_icmp .ge 18, 3) := by decide +kernel
theorem dX5_askedInAll_12 : decode cX5_askedInAll 12 = .ok (.iload_n 1, 1) := by decide +kernel
theorem dX5_askedInAll_13 : decode cX5_askedInAll 13 = .ok (.aload_n 0, 1) := by decide +kernel
theorem dX5_askedInAll_14 : decode cX5_askedInAll 14 = .ok (.getfield 21, 3) := by decide +kernel
theorem dX5_askedInAll_17 : decode cX5_askedInAll 17 = .ok (.iload_n 2, 1) := by decide +kernel
theorem dX5_askedInAll_18 : decode cX5_askedInAll 18 = .ok (.iaload, 1) := by decide +kernel
theorem dX5_askedInAll_19 : decode cX5_askedInAll 19 = .ok (.iadd, 1) := by decide +kernel
theorem dX5_askedInAll_20 : decode cX5_askedInAll 20 = .ok (.istore_n 1, 1) := by decide +kernel
theorem dX5_askedInAll_21 : decode cX5_askedInAll 21 = .ok (.iinc 2 1, 3) := by decide +kernel
theorem dX5_askedInAll_24 : decode cX5_askedInAll 24 = .ok (.goto (-20), 3) := by decide +kernel
theorem dX5_askedInAll_27 : decode cX5_askedInAll 27 = .ok (.iload_n 1, 1) := by decide +kernel
theorem dX5_askedInAll_28 : decode cX5_askedInAll 28 = .ok (.ireturn, 1) := by decide +kernel
theorem dX6_init_0 : decode cX6_init 0 = .ok (.aload_n 0, 1) := by decide +kernel
theorem dX6_init_1 : decode cX6_init 1 = .ok (.invokespecial 3, 3) := by decide +kernel
theorem dX6_init_4 : decode cX6_init 4 = .ok (.aload_n 0, 1) := by decide +kernel
theorem dX6_init_5 : decode cX6_init 5 = .ok (.bipush 8, 2) := by decide +kernel
theorem dX6_init_7 : decode cX6_init 7 = .ok (.newarray .int, 2) := by decide +kernel
theorem dX6_init_9 : decode cX6_init 9 = .ok (.putfield 9, 3) := by decide +kernel
theorem dX6_init_12 : decode cX6_init 12 = .ok (.aload_n 0, 1) := by decide +kernel
theorem dX6_init_13 : decode cX6_init 13 = .ok (.bipush 8, 2) := by decide +kernel
theorem dX6_init_15 : decode cX6_init 15 = .ok (.newarray .int, 2) := by decide +kernel
theorem dX6_init_17 : decode cX6_init 17 = .ok (.putfield 15, 3) := by decide +kernel
theorem dX6_init_20 : decode cX6_init 20 = .ok (.return_, 1) := by decide +kernel
theorem dX6_size_0 : decode cX6_size 0 = .ok (.aload_n 0, 1) := by decide +kernel
theorem dX6_size_1 : decode cX6_size 1 = .ok (.getfield 18, 3) := by decide +kernel
theorem dX6_size_4 : decode cX6_size 4 = .ok (.ireturn, 1) := by decide +kernel
theorem dX6_roleAt_0 : decode cX6_roleAt 0 = .ok (.aload_n 0, 1) := by decide +kernel
theorem dX6_roleAt_1 : decode cX6_roleAt 1 = .ok (.getfield 9, 3) := by decide +kernel
theorem dX6_roleAt_4 : decode cX6_roleAt 4 = .ok (.iload_n 1, 1) := by decide +kernel
theorem dX6_roleAt_5 : decode cX6_roleAt 5 = .ok (.iaload, 1) := by decide +kernel
theorem dX6_roleAt_6 : decode cX6_roleAt 6 = .ok (.ireturn, 1) := by decide +kernel
theorem dX6_partAt_0 : decode cX6_partAt 0 = .ok (.aload_n 0, 1) := by decide +kernel
theorem dX6_partAt_1 : decode cX6_partAt 1 = .ok (.getfield 15, 3) := by decide +kernel
theorem dX6_partAt_4 : decode cX6_partAt 4 = .ok (.iload_n 1, 1) := by decide +kernel
theorem dX6_partAt_5 : decode cX6_partAt 5 = .ok (.iaload, 1) := by decide +kernel
theorem dX6_partAt_6 : decode cX6_partAt 6 = .ok (.ireturn, 1) := by decide +kernel
theorem dX6_clear_0 : decode cX6_clear 0 = .ok (.aload_n 0, 1) := by decide +kernel
theorem dX6_clear_1 : decode cX6_clear 1 = .ok (.iconst 0, 1) := by decide +kernel
theorem dX6_clear_2 : decode cX6_clear 2 = .ok (.putfield 18, 3) := by decide +kernel
theorem dX6_clear_5 : decode cX6_clear 5 = .ok (.return_, 1) := by decide +kernel
theorem dX6_add_0 : decode cX6_add 0 = .ok (.aload_n 0, 1) := by decide +kernel
theorem dX6_add_1 : decode cX6_add 1 = .ok (.getfield 18, 3) := by decide +kernel
theorem dX6_add_4 : decode cX6_add 4 = .ok (.bipush 8, 2) := by decide +kernel
theorem dX6_add_6 : decode cX6_add 6 = .ok (.if_icmp .ge 33, 3) := by decide +kernel
theorem dX6_add_9 : decode cX6_add 9 = .ok (.aload_n 0, 1) := by decide +kernel
theorem dX6_add_10 : decode cX6_add 10 = .ok (.getfield 9, 3) := by decide +kernel
theorem dX6_add_13 : decode cX6_add 13 = .ok (.aload_n 0, 1) := by decide +kernel
theorem dX6_add_14 : decode cX6_add 14 = .ok (.getfield 18, 3) := by decide +kernel
theorem dX6_add_17 : decode cX6_add 17 = .ok (.iload_n 1, 1) := by decide +kernel
theorem dX6_add_18 : decode cX6_add 18 = .ok (.iastore, 1) := by decide +kernel
theorem dX6_add_19 : decode cX6_add 19 = .ok (.aload_n 0, 1) := by decide +kernel
theorem dX6_add_20 : decode cX6_add 20 = .ok (.getfield 15, 3) := by decide +kernel
theorem dX6_add_23 : decode cX6_add 23 = .ok (.aload_n 0, 1) := by decide +kernel
theorem dX6_add_24 : decode cX6_add 24 = .ok (.getfield 18, 3) := by decide +kernel
theorem dX6_add_27 : decode cX6_add 27 = .ok (.iload_n 2, 1) := by decide +kernel
theorem dX6_add_28 : decode cX6_add 28 = .ok (.iastore, 1) := by decide +kernel
theorem dX6_add_29 : decode cX6_add 29 = .ok (.aload_n 0, 1) := by decide +kernel
theorem dX6_add_30 : decode cX6_add 30 = .ok (.dup, 1) := by decide +kernel
theorem dX6_add_31 : decode cX6_add 31 = .ok (.getfield 18, 3) := by decide +kernel
theorem dX6_add_34 : decode cX6_add 34 = .ok (.iconst 1, 1) := by decide +kernel
theorem dX6_add_35 : decode cX6_add 35 = .ok (.iadd, 1) := by decide +kernel
theorem dX6_add_36 : decode cX6_add 36 = .ok (.putfield 18, 3) := by decide +kernel
theorem dX6_add_39 : decode cX6_add 39 = .ok (.return_, 1) := by decide +kernel
theorem dX6_countOf_0 : decode cX6_countOf 0 = .ok (.iconst 0, 1) := by decide +kernel
theorem dX6_countOf_1 : decode cX6_countOf 1 = .ok (.istore_n 2, 1) := by decide +kernel
theorem dX6_countOf_2 : decode cX6_countOf 2 = .ok (.iconst 0, 1) := by decide +kernel
theorem dX6_countOf_3 : decode cX6_countOf 3 = .ok (.istore_n 3, 1) := by decide +kernel
theorem dX6_countOf_4 : decode cX6_countOf 4 = .ok (.iload_n 3, 1) := by decide +kernel
theorem dX6_countOf_5 : decode cX6_countOf 5 = .ok (.aload_n 0, 1) := by decide +kernel
theorem dX6_countOf_6 : decode cX6_countOf 6 = .ok (.getfield 18, 3) := by decide +kernel
theorem dX6_countOf_9 : decode cX6_countOf 9 = .ok (.if_icmp .ge 22, 3) := by decide +kernel
theorem dX6_countOf_12 : decode cX6_countOf 12 = .ok (.aload_n 0, 1) := by decide +kernel
theorem dX6_countOf_13 : decode cX6_countOf 13 = .ok (.getfield 9, 3) := by decide +kernel
theorem dX6_countOf_16 : decode cX6_countOf 16 = .ok (.iload_n 3, 1) := by decide +kernel
theorem dX6_countOf_17 : decode cX6_countOf 17 = .ok (.iaload, 1) := by decide +kernel
theorem dX6_countOf_18 : decode cX6_countOf 18 = .ok (.iload_n 1, 1) := by decide +kernel
theorem dX6_countOf_19 : decode cX6_countOf 19 = .ok (.if_icmp .ne 6, 3) := by decide +kernel
theorem dX6_countOf_22 : decode cX6_countOf 22 = .ok (.iinc 2 1, 3) := by decide +kernel
theorem dX6_countOf_25 : decode cX6_countOf 25 = .ok (.iinc 3 1, 3) := by decide +kernel
theorem dX6_countOf_28 : decode cX6_countOf 28 = .ok (.goto (-24), 3) := by decide +kernel
theorem dX6_countOf_31 : decode cX6_countOf 31 = .ok (.iload_n 2, 1) := by decide +kernel
theorem dX6_countOf_32 : decode cX6_countOf 32 = .ok (.ireturn, 1) := by decide +kernel
theorem dX6_makeShouldsMusts_0 : decode cX6_makeShouldsMusts 0 = .ok (.iconst 0, 1) := by decide +kernel
theorem dX6_makeShouldsMusts_1 : decode cX6_makeShouldsMusts 1 = .ok (.istore_n 1, 1) := by decide +kernel
theorem dX6_makeShouldsMusts_2 : decode cX6_makeShouldsMusts 2 = .ok (.iload_n 1, 1) := by decide +kernel
theorem dX6_makeShouldsMusts_3 : decode cX6_makeShouldsMusts 3 = .ok (.aload_n 0, 1) := by decide +kernel
theorem dX6_makeShouldsMusts_4 : decode cX6_makeShouldsMusts 4 = .ok (.getfield 18, 3) := by decide +kernel
theorem dX6_makeShouldsMusts_7 : decode cX6_makeShouldsMusts 7 = .ok (.if_icmp .ge 26, 3) := by decide +kernel
theorem dX6_makeShouldsMusts_10 : decode cX6_makeShouldsMusts 10 = .ok (.aload_n 0, 1) := by decide +kernel
theorem dX6_makeShouldsMusts_11 : decode cX6_makeShouldsMusts 11 = .ok (.getfield 9, 3) := by decide +kernel
theorem dX6_makeShouldsMusts_14 : decode cX6_makeShouldsMusts 14 = .ok (.iload_n 1, 1) := by decide +kernel
theorem dX6_makeShouldsMusts_15 : decode cX6_makeShouldsMusts 15 = .ok (.iaload, 1) := by decide +kernel
theorem dX6_makeShouldsMusts_16 : decode cX6_makeShouldsMusts 16 = .ok (.iconst 3, 1) := by decide +kernel
theorem dX6_makeShouldsMusts_17 : decode cX6_makeShouldsMusts 17 = .ok (.if_icmp .ne 10, 3) := by decide +kernel
theorem dX6_makeShouldsMusts_20 : decode cX6_makeShouldsMusts 20 = .ok (.aload_n 0, 1) := by decide +kernel
theorem dX6_makeShouldsMusts_21 : decode cX6_makeShouldsMusts 21 = .ok (.getfield 9, 3) := by decide +kernel
theorem dX6_makeShouldsMusts_24 : decode cX6_makeShouldsMusts 24 = .ok (.iload_n 1, 1) := by decide +kernel
theorem dX6_makeShouldsMusts_25 : decode cX6_makeShouldsMusts 25 = .ok (.iconst 0, 1) := by decide +kernel
theorem dX6_makeShouldsMusts_26 : decode cX6_makeShouldsMusts 26 = .ok (.iastore, 1) := by decide +kernel
theorem dX6_makeShouldsMusts_27 : decode cX6_makeShouldsMusts 27 = .ok (.iinc 1 1, 3) := by decide +kernel
theorem dX6_makeShouldsMusts_30 : decode cX6_makeShouldsMusts 30 = .ok (.goto (-28), 3) := by decide +kernel
theorem dX6_makeShouldsMusts_33 : decode cX6_makeShouldsMusts 33 = .ok (.return_, 1) := by decide +kernel
theorem dX6_contradictsItself_0 : decode cX6_contradictsItself 0 = .ok (.iconst 0, 1) := by decide +kernel
theorem dX6_contradictsItself_1 : decode cX6_contradictsItself 1 = .ok (.istore_n 1, 1) := by decide +kernel
theorem dX6_contradictsItself_2 : decode cX6_contradictsItself 2 = .ok (.iload_n 1, 1) := by decide +kernel
theorem dX6_contradictsItself_3 : decode cX6_contradictsItself 3 = .ok (.aload_n 0, 1) := by decide +kernel
theorem dX6_contradictsItself_4 : decode cX6_contradictsItself 4 = .ok (.getfield 18, 3) := by decide +kernel
theorem dX6_contradictsItself_7 : decode cX6_contradictsItself 7 = .ok (.if_icmp .ge 57, 3) := by decide +kernel
theorem dX6_contradictsItself_10 : decode cX6_contradictsItself 10 = .ok (.aload_n 0, 1) := by decide +kernel
theorem dX6_contradictsItself_11 : decode cX6_contradictsItself 11 = .ok (.getfield 9, 3) := by decide +kernel
theorem dX6_contradictsItself_14 : decode cX6_contradictsItself 14 = .ok (.iload_n 1, 1) := by decide +kernel
theorem dX6_contradictsItself_15 : decode cX6_contradictsItself 15 = .ok (.iaload, 1) := by decide +kernel
theorem dX6_contradictsItself_16 : decode cX6_contradictsItself 16 = .ok (.iconst 2, 1) := by decide +kernel
theorem dX6_contradictsItself_17 : decode cX6_contradictsItself 17 = .ok (.if_icmp .ne 41, 3) := by decide +kernel
theorem dX6_contradictsItself_20 : decode cX6_contradictsItself 20 = .ok (.aload_n 0, 1) := by decide +kernel
theorem dX6_contradictsItself_21 : decode cX6_contradictsItself 21 = .ok (.aload_n 0, 1) := by decide +kernel
theorem dX6_contradictsItself_22 : decode cX6_contradictsItself 22 = .ok (.getfield 18, 3) := by decide +kernel
theorem dX6_contradictsItself_25 : decode cX6_contradictsItself 25 = .ok (.iconst 0, 1) := by decide +kernel
theorem dX6_contradictsItself_26 : decode cX6_contradictsItself 26 = .ok (.aload_n 0, 1) := by decide +kernel
theorem dX6_contradictsItself_27 : decode cX6_contradictsItself 27 = .ok (.getfield 15, 3) := by decide +kernel
theorem dX6_contradictsItself_30 : decode cX6_contradictsItself 30 = .ok (.iload_n 1, 1) := by decide +kernel
theorem dX6_contradictsItself_31 : decode cX6_contradictsItself 31 = .ok (.iaload, 1) := by decide +kernel
theorem dX6_contradictsItself_32 : decode cX6_contradictsItself 32 = .ok (.invokevirtual 22, 3) := by decide +kernel
theorem dX6_contradictsItself_35 : decode cX6_contradictsItself 35 = .ok (.ifCond .ne 21, 3) := by decide +kernel
theorem dX6_contradictsItself_38 : decode cX6_contradictsItself 38 = .ok (.aload_n 0, 1) := by decide +kernel
theorem dX6_contradictsItself_39 : decode cX6_contradictsItself 39 = .ok (.aload_n 0, 1) := by decide +kernel
theorem dX6_contradictsItself_40 : decode cX6_contradictsItself 40 = .ok (.getfield 18, 3) := by decide +kernel
theorem dX6_contradictsItself_43 : decode cX6_contradictsItself 43 = .ok (.iconst 1, 1) := by decide +kernel
theorem dX6_contradictsItself_44 : decode cX6_contradictsItself 44 = .ok (.aload_n 0, 1) := by decide +kernel
theorem dX6_contradictsItself_45 : decode cX6_contradictsItself 45 = .ok (.getfield 15, 3) := by decide +kernel
theorem dX6_contradictsItself_48 : decode cX6_contradictsItself 48 = .ok (.iload_n 1, 1) := by decide +kernel
theorem dX6_contradictsItself_49 : decode cX6_contradictsItself 49 = .ok (.iaload, 1) := by decide +kernel
theorem dX6_contradictsItself_50 : decode cX6_contradictsItself 50 = .ok (.invokevirtual 22, 3) := by decide +kernel
theorem dX6_contradictsItself_53 : decode cX6_contradictsItself 53 = .ok (.ifCond .eq 5, 3) := by decide +kernel
theorem dX6_contradictsItself_56 : decode cX6_contradictsItself 56 = .ok (.iconst 1, 1) := by decide +kernel
theorem dX6_contradictsItself_57 : decode cX6_contradictsItself 57 = .ok (.ireturn, 1) := by decide +kernel
theorem dX6_contradictsItself_58 : decode cX6_contradictsItself 58 = .ok (.iinc 1 1, 3) := by decide +kernel
theorem dX6_contradictsItself_61 : decode cX6_contradictsItself 61 = .ok (.goto (-59), 3) := by decide +kernel
theorem dX6_contradictsItself_64 : decode cX6_contradictsItself 64 = .ok (.iconst 0, 1) := by decide +kernel
theorem dX6_contradictsItself_65 : decode cX6_contradictsItself 65 = .ok (.ireturn, 1) := by decide +kernel
theorem dX6_leaveOutRepeats_0 : decode cX6_leaveOutRepeats 0 = .ok (.iconst 0, 1) := by decide +kernel
theorem dX6_leaveOutRepeats_1 : decode cX6_leaveOutRepeats 1 = .ok (.istore_n 1, 1) := by decide +kernel
theorem dX6_leaveOutRepeats_2 : decode cX6_leaveOutRepeats 2 = .ok (.iconst 0, 1) := by decide +kernel
theorem dX6_leaveOutRepeats_3 : decode cX6_leaveOutRepeats 3 = .ok (.istore_n 2, 1) := by decide +kernel
theorem dX6_leaveOutRepeats_4 : decode cX6_leaveOutRepeats 4 = .ok (.iload_n 2, 1) := by decide +kernel
theorem dX6_leaveOutRepeats_5 : decode cX6_leaveOutRepeats 5 = .ok (.aload_n 0, 1) := by decide +kernel
theorem dX6_leaveOutRepeats_6 : decode cX6_leaveOutRepeats 6 = .ok (.getfield 18, 3) := by decide +kernel
theorem dX6_leaveOutRepeats_9 : decode cX6_leaveOutRepeats 9 = .ok (.if_icmp .ge 45, 3) := by decide +kernel
theorem dX6_leaveOutRepeats_12 : decode cX6_leaveOutRepeats 12 = .ok (.aload_n 0, 1) := by decide +kernel
theorem dX6_leaveOutRepeats_13 : decode cX6_leaveOutRepeats 13 = .ok (.iload_n 2, 1) := by decide +kernel
theorem dX6_leaveOutRepeats_14 : decode cX6_leaveOutRepeats 14 = .ok (.iload_n 1, 1) := by decide +kernel
theorem dX6_leaveOutRepeats_15 : decode cX6_leaveOutRepeats 15 = .ok (.invokevirtual 26, 3) := by decide +kernel
theorem dX6_leaveOutRepeats_18 : decode cX6_leaveOutRepeats 18 = .ok (.ifCond .ne 30, 3) := by decide +kernel
theorem dX6_leaveOutRepeats_21 : decode cX6_leaveOutRepeats 21 = .ok (.aload_n 0, 1) := by decide +kernel
theorem dX6_leaveOutRepeats_22 : decode cX6_leaveOutRepeats 22 = .ok (.getfield 9, 3) := by decide +kernel
theorem dX6_leaveOutRepeats_25 : decode cX6_leaveOutRepeats 25 = .ok (.iload_n 1, 1) := by decide +kernel
theorem dX6_leaveOutRepeats_26 : decode cX6_leaveOutRepeats 26 = .ok (.aload_n 0, 1) := by decide +kernel
theorem dX6_leaveOutRepeats_27 : decode cX6_leaveOutRepeats 27 = .ok (.getfield 9, 3) := by decide +kernel
theorem dX6_leaveOutRepeats_30 : decode cX6_leaveOutRepeats 30 = .ok (.iload_n 2, 1) := by decide +kernel
theorem dX6_leaveOutRepeats_31 : decode cX6_leaveOutRepeats 31 = .ok (.iaload, 1) := by decide +kernel
theorem dX6_leaveOutRepeats_32 : decode cX6_leaveOutRepeats 32 = .ok (.iastore, 1) := by decide +kernel
theorem dX6_leaveOutRepeats_33 : decode cX6_leaveOutRepeats 33 = .ok (.aload_n 0, 1) := by decide +kernel
theorem dX6_leaveOutRepeats_34 : decode cX6_leaveOutRepeats 34 = .ok (.getfield 15, 3) := by decide +kernel
theorem dX6_leaveOutRepeats_37 : decode cX6_leaveOutRepeats 37 = .ok (.iload_n 1, 1) := by decide +kernel
theorem dX6_leaveOutRepeats_38 : decode cX6_leaveOutRepeats 38 = .ok (.aload_n 0, 1) := by decide +kernel
theorem dX6_leaveOutRepeats_39 : decode cX6_leaveOutRepeats 39 = .ok (.getfield 15, 3) := by decide +kernel
theorem dX6_leaveOutRepeats_42 : decode cX6_leaveOutRepeats 42 = .ok (.iload_n 2, 1) := by decide +kernel
theorem dX6_leaveOutRepeats_43 : decode cX6_leaveOutRepeats 43 = .ok (.iaload, 1) := by decide +kernel
theorem dX6_leaveOutRepeats_44 : decode cX6_leaveOutRepeats 44 = .ok (.iastore, 1) := by decide +kernel
theorem dX6_leaveOutRepeats_45 : decode cX6_leaveOutRepeats 45 = .ok (.iinc 1 1, 3) := by decide +kernel
theorem dX6_leaveOutRepeats_48 : decode cX6_leaveOutRepeats 48 = .ok (.iinc 2 1, 3) := by decide +kernel
theorem dX6_leaveOutRepeats_51 : decode cX6_leaveOutRepeats 51 = .ok (.goto (-47), 3) := by decide +kernel
theorem dX6_leaveOutRepeats_54 : decode cX6_leaveOutRepeats 54 = .ok (.aload_n 0, 1) := by decide +kernel
theorem dX6_leaveOutRepeats_55 : decode cX6_leaveOutRepeats 55 = .ok (.iload_n 1, 1) := by decide +kernel
theorem dX6_leaveOutRepeats_56 : decode cX6_leaveOutRepeats 56 = .ok (.putfield 18, 3) := by decide +kernel
theorem dX6_leaveOutRepeats_59 : decode cX6_leaveOutRepeats 59 = .ok (.return_, 1) := by decide +kernel
theorem dX6_isRepeat_0 : decode cX6_isRepeat 0 = .ok (.aload_n 0, 1) := by decide +kernel
theorem dX6_isRepeat_1 : decode cX6_isRepeat 1 = .ok (.getfield 15, 3) := by decide +kernel
theorem dX6_isRepeat_4 : decode cX6_isRepeat 4 = .ok (.iload_n 1, 1) := by decide +kernel
theorem dX6_isRepeat_5 : decode cX6_isRepeat 5 = .ok (.iaload, 1) := by decide +kernel
theorem dX6_isRepeat_6 : decode cX6_isRepeat 6 = .ok (.istore_n 3, 1) := by decide +kernel
theorem dX6_isRepeat_7 : decode cX6_isRepeat 7 = .ok (.aload_n 0, 1) := by decide +kernel
theorem dX6_isRepeat_8 : decode cX6_isRepeat 8 = .ok (.getfield 9, 3) := by decide +kernel
theorem dX6_isRepeat_11 : decode cX6_isRepeat 11 = .ok (.iload_n 1, 1) := by decide +kernel
theorem dX6_isRepeat_12 : decode cX6_isRepeat 12 = .ok (.iaload, 1) := by decide +kernel
theorem dX6_isRepeat_13 : decode cX6_isRepeat 13 = .ok (.iconst 1, 1) := by decide +kernel
theorem dX6_isRepeat_14 : decode cX6_isRepeat 14 = .ok (.if_icmp .ne 39, 3) := by decide +kernel
theorem dX6_isRepeat_17 : decode cX6_isRepeat 17 = .ok (.aload_n 0, 1) := by decide +kernel
theorem dX6_isRepeat_18 : decode cX6_isRepeat 18 = .ok (.iload_n 2, 1) := by decide +kernel
theorem dX6_isRepeat_19 : decode cX6_isRepeat 19 = .ok (.iconst 1, 1) := by decide +kernel
theorem dX6_isRepeat_20 : decode cX6_isRepeat 20 = .ok (.iload_n 3, 1) := by decide +kernel
theorem dX6_isRepeat_21 : decode cX6_isRepeat 21 = .ok (.invokevirtual 22, 3) := by decide +kernel
theorem dX6_isRepeat_24 : decode cX6_isRepeat 24 = .ok (.ifCond .ne 23, 3) := by decide +kernel
theorem dX6_isRepeat_27 : decode cX6_isRepeat 27 = .ok (.aload_n 0, 1) := by decide +kernel
theorem dX6_isRepeat_28 : decode cX6_isRepeat 28 = .ok (.iload_n 2, 1) := by decide +kernel
theorem dX6_isRepeat_29 : decode cX6_isRepeat 29 = .ok (.iconst 0, 1) := by decide +kernel
theorem dX6_isRepeat_30 : decode cX6_isRepeat 30 = .ok (.iload_n 3, 1) := by decide +kernel
theorem dX6_isRepeat_31 : decode cX6_isRepeat 31 = .ok (.invokevirtual 22, 3) := by decide +kernel
theorem dX6_isRepeat_34 : decode cX6_isRepeat 34 = .ok (.ifCond .ne 13, 3) := by decide +kernel
theorem dX6_isRepeat_37 : decode cX6_isRepeat 37 = .ok (.aload_n 0, 1) := by decide +kernel
theorem dX6_isRepeat_38 : decode cX6_isRepeat 38 = .ok (.iload_n 1, 1) := by decide +kernel
theorem dX6_isRepeat_39 : decode cX6_isRepeat 39 = .ok (.iconst 0, 1) := by decide +kernel
theorem dX6_isRepeat_40 : decode cX6_isRepeat 40 = .ok (.iload_n 3, 1) := by decide +kernel
theorem dX6_isRepeat_41 : decode cX6_isRepeat 41 = .ok (.invokevirtual 30, 3) := by decide +kernel
theorem dX6_isRepeat_44 : decode cX6_isRepeat 44 = .ok (.ifCond .eq 7, 3) := by decide +kernel
theorem dX6_isRepeat_47 : decode cX6_isRepeat 47 = .ok (.iconst 1, 1) := by decide +kernel
theorem dX6_isRepeat_48 : decode cX6_isRepeat 48 = .ok (.goto 4, 3) := by decide +kernel
theorem dX6_isRepeat_51 : decode cX6_isRepeat 51 = .ok (.iconst 0, 1) := by decide +kernel
theorem dX6_isRepeat_52 : decode cX6_isRepeat 52 = .ok (.ireturn, 1) := by decide +kernel
theorem dX6_isRepeat_53 : decode cX6_isRepeat 53 = .ok (.aload_n 0, 1) := by decide +kernel
theorem dX6_isRepeat_54 : decode cX6_isRepeat 54 = .ok (.getfield 9, 3) := by decide +kernel
theorem dX6_isRepeat_57 : decode cX6_isRepeat 57 = .ok (.iload_n 1, 1) := by decide +kernel
theorem dX6_isRepeat_58 : decode cX6_isRepeat 58 = .ok (.iaload, 1) := by decide +kernel
theorem dX6_isRepeat_59 : decode cX6_isRepeat 59 = .ok (.iconst 2, 1) := by decide +kernel
theorem dX6_isRepeat_60 : decode cX6_isRepeat 60 = .ok (.if_icmp .ne 17, 3) := by decide +kernel
theorem dX6_isRepeat_63 : decode cX6_isRepeat 63 = .ok (.aload_n 0, 1) := by decide +kernel
theorem dX6_isRepeat_64 : decode cX6_isRepeat 64 = .ok (.iload_n 2, 1) := by decide +kernel
theorem dX6_isRepeat_65 : decode cX6_isRepeat 65 = .ok (.iconst 2, 1) := by decide +kernel
theorem dX6_isRepeat_66 : decode cX6_isRepeat 66 = .ok (.iload_n 3, 1) := by decide +kernel
theorem dX6_isRepeat_67 : decode cX6_isRepeat 67 = .ok (.invokevirtual 22, 3) := by decide +kernel
theorem dX6_isRepeat_70 : decode cX6_isRepeat 70 = .ok (.ifCond .eq 7, 3) := by decide +kernel
theorem dX6_isRepeat_73 : decode cX6_isRepeat 73 = .ok (.iconst 1, 1) := by decide +kernel
theorem dX6_isRepeat_74 : decode cX6_isRepeat 74 = .ok (.goto 4, 3) := by decide +kernel
theorem dX6_isRepeat_77 : decode cX6_isRepeat 77 = .ok (.iconst 0, 1) := by decide +kernel
theorem dX6_isRepeat_78 : decode cX6_isRepeat 78 = .ok (.ireturn, 1) := by decide +kernel
theorem dX6_hasAhead_0 : decode cX6_hasAhead 0 = .ok (.iconst 0, 1) := by decide +kernel
theorem dX6_hasAhead_1 : decode cX6_hasAhead 1 = .ok (.istore 4, 2) := by decide +kernel
theorem dX6_hasAhead_3 : decode cX6_hasAhead 3 = .ok (.iload 4, 2) := by decide +kernel
theorem dX6_hasAhead_5 : decode cX6_hasAhead 5 = .ok (.iload_n 1, 1) := by decide +kernel
theorem dX6_hasAhead_6 : decode cX6_hasAhead 6 = .ok (.if_icmp .ge 33, 3) := by decide +kernel
theorem dX6_hasAhead_9 : decode cX6_hasAhead 9 = .ok (.aload_n 0, 1) := by decide +kernel
theorem dX6_hasAhead_10 : decode cX6_hasAhead 10 = .ok (.getfield 9, 3) := by decide +kernel
theorem dX6_hasAhead_13 : decode cX6_hasAhead 13 = .ok (.iload 4, 2) := by decide +kernel
theorem dX6_hasAhead_15 : decode cX6_hasAhead 15 = .ok (.iaload, 1) := by decide +kernel
theorem dX6_hasAhead_16 : decode cX6_hasAhead 16 = .ok (.iload_n 2, 1) := by decide +kernel
theorem dX6_hasAhead_17 : decode cX6_hasAhead 17 = .ok (.if_icmp .ne 16, 3) := by decide +kernel
theorem dX6_hasAhead_20 : decode cX6_hasAhead 20 = .ok (.aload_n 0, 1) := by decide +kernel
theorem dX6_hasAhead_21 : decode cX6_hasAhead 21 = .ok (.getfield 15, 3) := by decide +kernel
theorem dX6_hasAhead_24 : decode cX6_hasAhead 24 = .ok (.iload 4, 2) := by decide +kernel
theorem dX6_hasAhead_26 : decode cX6_hasAhead 26 = .ok (.iaload, 1) := by decide +kernel
theorem dX6_hasAhead_27 : decode cX6_hasAhead 27 = .ok (.iload_n 3, 1) := by decide +kernel
theorem dX6_hasAhead_28 : decode cX6_hasAhead 28 = .ok (.if_icmp .ne 5, 3) := by decide +kernel
theorem dX6_hasAhead_31 : decode cX6_hasAhead 31 = .ok (.iconst 1, 1) := by decide +kernel
theorem dX6_hasAhead_32 : decode cX6_hasAhead 32 = .ok (.ireturn, 1) := by decide +kernel
theorem dX6_hasAhead_33 : decode cX6_hasAhead 33 = .ok (.iinc 4 1, 3) := by decide +kernel
theorem dX6_hasAhead_36 : decode cX6_hasAhead 36 = .ok (.goto (-33), 3) := by decide +kernel
theorem dX6_hasAhead_39 : decode cX6_hasAhead 39 = .ok (.iconst 0, 1) := by decide +kernel
theorem dX6_hasAhead_40 : decode cX6_hasAhead 40 = .ok (.ireturn, 1) := by decide +kernel
theorem dX6_hasBehind_0 : decode cX6_hasBehind 0 = .ok (.iload_n 1, 1) := by decide +kernel
theorem dX6_hasBehind_1 : decode cX6_hasBehind 1 = .ok (.iconst 1, 1) := by decide +kernel
theorem dX6_hasBehind_2 : decode cX6_hasBehind 2 = .ok (.iadd, 1) := by decide +kernel
theorem dX6_hasBehind_3 : decode cX6_hasBehind 3 = .ok (.istore 4, 2) := by decide +kernel
theorem dX6_hasBehind_5 : decode cX6_hasBehind 5 = .ok (.iload 4, 2) := by decide +kernel
theorem dX6_hasBehind_7 : decode cX6_hasBehind 7 = .ok (.aload_n 0, 1) := by decide +kernel
theorem dX6_hasBehind_8 : decode cX6_hasBehind 8 = .ok (.getfield 18, 3) := by decide +kernel
theorem dX6_hasBehind_11 : decode cX6_hasBehind 11 = .ok (.if_icmp .ge 33, 3) := by decide +kernel
theorem dX6_hasBehind_14 : decode cX6_hasBehind 14 = .ok (.aload_n 0, 1) := by decide +kernel
theorem dX6_hasBehind_15 : decode cX6_hasBehind 15 = .ok (.getfield 9, 3) := by decide +kernel
theorem dX6_hasBehind_18 : decode cX6_hasBehind 18 = .ok (.iload 4, 2) := by decide +kernel
theorem dX6_hasBehind_20 : decode cX6_hasBehind 20 = .ok (.iaload, 1) := by decide +kernel
theorem dX6_hasBehind_21 : decode cX6_hasBehind 21 = .ok (.iload_n 2, 1) := by decide +kernel
theorem dX6_hasBehind_22 : decode cX6_hasBehind 22 = .ok (.if_icmp .ne 16, 3) := by decide +kernel
theorem dX6_hasBehind_25 : decode cX6_hasBehind 25 = .ok (.aload_n 0, 1) := by decide +kernel
theorem dX6_hasBehind_26 : decode cX6_hasBehind 26 = .ok (.getfield 15, 3) := by decide +kernel
theorem dX6_hasBehind_29 : decode cX6_hasBehind 29 = .ok (.iload 4, 2) := by decide +kernel
theorem dX6_hasBehind_31 : decode cX6_hasBehind 31 = .ok (.iaload, 1) := by decide +kernel
theorem dX6_hasBehind_32 : decode cX6_hasBehind 32 = .ok (.iload_n 3, 1) := by decide +kernel
theorem dX6_hasBehind_33 : decode cX6_hasBehind 33 = .ok (.if_icmp .ne 5, 3) := by decide +kernel
theorem dX6_hasBehind_36 : decode cX6_hasBehind 36 = .ok (.iconst 1, 1) := by decide +kernel
theorem dX6_hasBehind_37 : decode cX6_hasBehind 37 = .ok (.ireturn, 1) := by decide +kernel
theorem dX6_hasBehind_38 : decode cX6_hasBehind 38 = .ok (.iinc 4 1, 3) := by decide +kernel
theorem dX6_hasBehind_41 : decode cX6_hasBehind 41 = .ok (.goto (-36), 3) := by decide +kernel
theorem dX6_hasBehind_44 : decode cX6_hasBehind 44 = .ok (.iconst 0, 1) := by decide +kernel
theorem dX6_hasBehind_45 : decode cX6_hasBehind 45 = .ok (.ireturn, 1) := by decide +kernel
theorem dX7_init_0 : decode cX7_init 0 = .ok (.aload_n 0, 1) := by decide +kernel
theorem dX7_init_1 : decode cX7_init 1 = .ok (.invokespecial 3, 3) := by decide +kernel
theorem dX7_init_4 : decode cX7_init 4 = .ok (.aload_n 0, 1) := by decide +kernel
theorem dX7_init_5 : decode cX7_init 5 = .ok (.bipush 80, 2) := by decide +kernel
theorem dX7_init_7 : decode cX7_init 7 = .ok (.newarray .boolean, 2) := by decide +kernel
theorem dX7_init_9 : decode cX7_init 9 = .ok (.putfield 9, 3) := by decide +kernel
theorem dX7_init_12 : decode cX7_init 12 = .ok (.aload_n 0, 1) := by decide +kernel
theorem dX7_init_13 : decode cX7_init 13 = .ok (.bipush 80, 2) := by decide +kernel
theorem dX7_init_15 : decode cX7_init 15 = .ok (.newarray .int, 2) := by decide +kernel
theorem dX7_init_17 : decode cX7_init 17 = .ok (.putfield 15, 3) := by decide +kernel
theorem dX7_init_20 : decode cX7_init 20 = .ok (.aload_n 0, 1) := by decide +kernel
theorem dX7_init_21 : decode cX7_init 21 = .ok (.new 19, 3) := by decide +kernel
theorem dX7_init_24 : decode cX7_init 24 = .ok (.dup, 1) := by decide +kernel
theorem dX7_init_25 : decode cX7_init 25 = .ok (.invokespecial 21, 3) := by decide +kernel
theorem dX7_init_28 : decode cX7_init 28 = .ok (.putfield 22, 3) := by decide +kernel
theorem dX7_init_31 : decode cX7_init 31 = .ok (.aload_n 0, 1) := by decide +kernel
theorem dX7_init_32 : decode cX7_init 32 = .ok (.aload_n 1, 1) := by decide +kernel
theorem dX7_init_33 : decode cX7_init 33 = .ok (.putfield 26, 3) := by decide +kernel
theorem dX7_init_36 : decode cX7_init 36 = .ok (.aload_n 0, 1) := by decide +kernel
theorem dX7_init_37 : decode cX7_init 37 = .ok (.aload_n 2, 1) := by decide +kernel
theorem dX7_init_38 : decode cX7_init 38 = .ok (.putfield 30, 3) := by decide +kernel
theorem dX7_init_41 : decode cX7_init 41 = .ok (.return_, 1) := by decide +kernel
theorem dX7_writeAnew_0 : decode cX7_writeAnew 0 = .ok (.aload_n 0, 1) := by decide +kernel
theorem dX7_writeAnew_1 : decode cX7_writeAnew 1 = .ok (.getfield 30, 3) := by decide +kernel
theorem dX7_writeAnew_4 : decode cX7_writeAnew 4 = .ok (.invokevirtual 34, 3) := by decide +kernel
theorem dX7_writeAnew_7 : decode cX7_writeAnew 7 = .ok (.istore_n 2, 1) := by decide +kernel
theorem dX7_writeAnew_8 : decode cX7_writeAnew 8 = .ok (.aload_n 0, 1) := by decide +kernel
theorem dX7_writeAnew_9 : decode cX7_writeAnew 9 = .ok (.iload_n 1, 1) := by decide +kernel
theorem dX7_writeAnew_10 : decode cX7_writeAnew 10 = .ok (.invokevirtual 40, 3) := by decide +kernel
theorem dX7_writeAnew_13 : decode cX7_writeAnew 13 = .ok (.iconst 0, 1) := by decide +kernel
theorem dX7_writeAnew_14 : decode cX7_writeAnew 14 = .ok (.istore_n 3, 1) := by decide +kernel
theorem dX7_writeAnew_15 : decode cX7_writeAnew 15 = .ok (.iload_n 3, 1) := by decide +kernel
theorem dX7_writeAnew_16 : decode cX7_writeAnew 16 = .ok (.iload_n 1, 1) := by decide +kernel
theorem dX7_writeAnew_17 : decode cX7_writeAnew 17 = .ok (.if_icmp .gt 70, 3) := by decide +kernel
theorem dX7_writeAnew_20 : decode cX7_writeAnew 20 = .ok (.aload_n 0, 1) := by decide +kernel
theorem dX7_writeAnew_21 : decode cX7_writeAnew 21 = .ok (.getfield 9, 3) := by decide +kernel
theorem dX7_writeAnew_24 : decode cX7_writeAnew 24 = .ok (.iload_n 3, 1) := by decide +kernel
theorem dX7_writeAnew_25 : decode cX7_writeAnew 25 = .ok (.baload, 1) := by decide +kernel
theorem dX7_writeAnew_26 : decode cX7_writeAnew 26 = .ok (.ifCond .eq 55, 3) := by decide +kernel
theorem dX7_writeAnew_29 : decode cX7_writeAnew 29 = .ok (.aload_n 0, 1) := by decide +kernel
theorem dX7_writeAnew_30 : decode cX7_writeAnew 30 = .ok (.iload_n 3, 1) := by decide +kernel
theorem dX7_writeAnew_31 : decode cX7_writeAnew 31 = .ok (.invokevirtual 44, 3) := by decide +kernel
theorem dX7_writeAnew_34 : decode cX7_writeAnew 34 = .ok (.istore 4, 2) := by decide +kernel
theorem dX7_writeAnew_36 : decode cX7_writeAnew 36 = .ok (.aload_n 0, 1) := by decide +kernel
theorem dX7_writeAnew_37 : decode cX7_writeAnew 37 = .ok (.getfield 15, 3) := by decide +kernel
theorem dX7_writeAnew_40 : decode cX7_writeAnew 40 = .ok (.iload_n 3, 1) := by decide +kernel
theorem dX7_writeAnew_41 : decode cX7_writeAnew 41 = .ok (.iload 4, 2) := by decide +kernel
theorem dX7_writeAnew_43 : decode cX7_writeAnew 43 = .ok (.iconst (-1), 1) := by decide +kernel
theorem dX7_writeAnew_44 : decode cX7_writeAnew 44 = .ok (.if_icmp .ne 14, 3) := by decide +kernel
theorem dX7_writeAnew_47 : decode cX7_writeAnew 47 = .ok (.aload_n 0, 1) := by decide +kernel
theorem dX7_writeAnew_48 : decode cX7_writeAnew 48 = .ok (.bipush 7, 2) := by decide +kernel
theorem dX7_writeAnew_50 : decode cX7_writeAnew 50 = .ok (.iconst 0, 1) := by decide +kernel
theorem dX7_writeAnew_51 : decode cX7_writeAnew 51 = .ok (.iconst 0, 1) := by decide +kernel
theorem dX7_writeAnew_52 : decode cX7_writeAnew 52 = .ok (.invokevirtual 48, 3) := by decide +kernel
theorem dX7_writeAnew_55 : decode cX7_writeAnew 55 = .ok (.goto 5, 3) := by decide +kernel
theorem dX7_writeAnew_58 : decode cX7_writeAnew 58 = .ok (.iload 4, 2) := by decide +kernel
theorem dX7_writeAnew_60 : decode cX7_writeAnew 60 = .ok (.iastore, 1) := by decide +kernel
theorem dX7_writeAnew_61 : decode cX7_writeAnew 61 = .ok (.aload_n 0, 1) := by decide +kernel
theorem dX7_writeAnew_62 : decode cX7_writeAnew 62 = .ok (.getfield 15, 3) := by decide +kernel
theorem dX7_writeAnew_65 : decode cX7_writeAnew 65 = .ok (.iload_n 3, 1) := by decide +kernel
theorem dX7_writeAnew_66 : decode cX7_writeAnew 66 = .ok (.iaload, 1) := by decide +kernel
theorem dX7_writeAnew_67 : decode cX7_writeAnew 67 = .ok (.ifCond .ge 14, 3) := by decide +kernel
theorem dX7_writeAnew_70 : decode cX7_writeAnew 70 = .ok (.aload_n 0, 1) := by decide +kernel
theorem dX7_writeAnew_71 : decode cX7_writeAnew 71 = .ok (.getfield 30, 3) := by decide +kernel
theorem dX7_writeAnew_74 : decode cX7_writeAnew 74 = .ok (.iload_n 2, 1) := by decide +kernel
theorem dX7_writeAnew_75 : decode cX7_writeAnew 75 = .ok (.invokevirtual 52, 3) := by decide +kernel
theorem dX7_writeAnew_78 : decode cX7_writeAnew 78 = .ok (.bipush (-3), 2) := by decide +kernel
theorem dX7_writeAnew_80 : decode cX7_writeAnew 80 = .ok (.ireturn, 1) := by decide +kernel
theorem dX7_writeAnew_81 : decode cX7_writeAnew 81 = .ok (.iinc 3 1, 3) := by decide +kernel
theorem dX7_writeAnew_84 : decode cX7_writeAnew 84 = .ok (.goto (-69), 3) := by decide +kernel
theorem dX7_writeAnew_87 : decode cX7_writeAnew 87 = .ok (.aload_n 0, 1) := by decide +kernel
theorem dX7_writeAnew_88 : decode cX7_writeAnew 88 = .ok (.getfield 15, 3) := by decide +kernel
theorem dX7_writeAnew_91 : decode cX7_writeAnew 91 = .ok (.iload_n 1, 1) := by decide +kernel
theorem dX7_writeAnew_92 : decode cX7_writeAnew 92 = .ok (.iaload, 1) := by decide +kernel
theorem dX7_writeAnew_93 : decode cX7_writeAnew 93 = .ok (.ireturn, 1) := by decide +kernel
theorem dX7_markUnder_0 : decode cX7_markUnder 0 = .ok (.iconst 0, 1) := by decide +kernel
theorem dX7_markUnder_1 : decode cX7_markUnder 1 = .ok (.istore_n 2, 1) := by decide +kernel
theorem dX7_markUnder_2 : decode cX7_markUnder 2 = .ok (.iload_n 2, 1) := by decide +kernel
theorem dX7_markUnder_3 : decode cX7_markUnder 3 = .ok (.iload_n 1, 1) := by decide +kernel
theorem dX7_markUnder_4 : decode cX7_markUnder 4 = .ok (.if_icmp .ge 16, 3) := by decide +kernel
theorem dX7_markUnder_7 : decode cX7_markUnder 7 = .ok (.aload_n 0, 1) := by decide +kernel
theorem dX7_markUnder_8 : decode cX7_markUnder 8 = .ok (.getfield 9, 3) := by decide +kernel
theorem dX7_markUnder_11 : decode cX7_markUnder 11 = .ok (.iload_n 2, 1) := by decide +kernel
theorem dX7_markUnder_12 : decode cX7_markUnder 12 = .ok (.iconst 0, 1) := by decide +kernel
theorem dX7_markUnder_13 : decode cX7_markUnder 13 = .ok (.bastore, 1) := by decide +kernel
theorem dX7_markUnder_14 : decode cX7_markUnder 14 = .ok (.iinc 2 1, 3) := by decide +kernel
theorem dX7_markUnder_17 : decode cX7_markUnder 17 = .ok (.goto (-15), 3) := by decide +kernel
theorem dX7_markUnder_20 : decode cX7_markUnder 20 = .ok (.aload_n 0, 1) := by decide +kernel
theorem dX7_markUnder_21 : decode cX7_markUnder 21 = .ok (.getfield 9, 3) := by decide +kernel
theorem dX7_markUnder_24 : decode cX7_markUnder 24 = .ok (.iload_n 1, 1) := by decide +kernel
theorem dX7_markUnder_25 : decode cX7_markUnder 25 = .ok (.iconst 1, 1) := by decide +kernel
theorem dX7_markUnder_26 : decode cX7_markUnder 26 = .ok (.bastore, 1) := by decide +kernel
theorem dX7_markUnder_27 : decode cX7_markUnder 27 = .ok (.iload_n 1, 1) := by decide +kernel
theorem dX7_markUnder_28 : decode cX7_markUnder 28 = .ok (.istore_n 2, 1) := by decide +kernel
theorem dX7_markUnder_29 : decode cX7_markUnder 29 = .ok (.iload_n 2, 1) := by decide +kernel
theorem dX7_markUnder_30 : decode cX7_markUnder 30 = .ok (.ifCond .le 53, 3) := by decide +kernel
theorem dX7_markUnder_33 : decode cX7_markUnder 33 = .ok (.iconst 0, 1) := by decide +kernel
theorem dX7_markUnder_34 : decode cX7_markUnder 34 = .ok (.istore_n 3, 1) := by decide +kernel
theorem dX7_markUnder_35 : decode cX7_markUnder 35 = .ok (.aload_n 0, 1) := by decide +kernel
theorem dX7_markUnder_36 : decode cX7_markUnder 36 = .ok (.getfield 9, 3) := by decide +kernel
theorem dX7_markUnder_39 : decode cX7_markUnder 39 = .ok (.iload_n 2, 1) := by decide +kernel
theorem dX7_markUnder_40 : decode cX7_markUnder 40 = .ok (.baload, 1) := by decide +kernel
theorem dX7_markUnder_41 : decode cX7_markUnder 41 = .ok (.ifCond .eq 36, 3) := by decide +kernel
theorem dX7_markUnder_44 : decode cX7_markUnder 44 = .ok (.iload_n 3, 1) := by decide +kernel
theorem dX7_markUnder_45 : decode cX7_markUnder 45 = .ok (.aload_n 0, 1) := by decide +kernel
theorem dX7_markUnder_46 : decode cX7_markUnder 46 = .ok (.getfield 30, 3) := by decide +kernel
theorem dX7_markUnder_49 : decode cX7_markUnder 49 = .ok (.iload_n 2, 1) := by decide +kernel
theorem dX7_markUnder_50 : decode cX7_markUnder 50 = .ok (.invokevirtual 55, 3) := by decide +kernel
theorem dX7_markUnder_53 : decode cX7_markUnder 53 = .ok (.if_icmp .ge 24, 3) := by decide +kernel
theorem dX7_markUnder_56 : decode cX7_markUnder 56 = .ok (.aload_n 0, 1) := by decide +kernel
theorem dX7_markUnder_57 : decode cX7_markUnder 57 = .ok (.getfield 9, 3) := by decide +kernel
theorem dX7_markUnder_60 : decode cX7_markUnder 60 = .ok (.aload_n 0, 1) := by decide +kernel
theorem dX7_markUnder_61 : decode cX7_markUnder 61 = .ok (.getfield 30, 3) := by decide +kernel
theorem dX7_markUnder_64 : decode cX7_markUnder 64 = .ok (.iload_n 2, 1) := by decide +kernel
theorem dX7_markUnder_65 : decode cX7_markUnder 65 = .ok (.iload_n 3, 1) := by decide +kernel
theorem dX7_markUnder_66 : decode cX7_markUnder 66 = .ok (.invokevirtual 58, 3) := by decide +kernel
theorem dX7_markUnder_69 : decode cX7_markUnder 69 = .ok (.iconst 1, 1) := by decide +kernel
theorem dX7_markUnder_70 : decode cX7_markUnder 70 = .ok (.bastore, 1) := by decide +kernel
theorem dX7_markUnder_71 : decode cX7_markUnder 71 = .ok (.iinc 3 1, 3) := by decide +kernel
theorem dX7_markUnder_74 : decode cX7_markUnder 74 = .ok (.goto (-39), 3) := by decide +kernel
theorem dX7_markUnder_77 : decode cX7_markUnder 77 = .ok (.iinc 2 (-1), 3) := by decide +kernel
theorem dX7_markUnder_80 : decode cX7_markUnder 80 = .ok (.goto (-51), 3) := by decide +kernel
theorem dX7_markUnder_83 : decode cX7_markUnder 83 = .ok (.return_, 1) := by decide +kernel
theorem dX7_newOf_0 : decode cX7_newOf 0 = .ok (.aload_n 0, 1) := by decide +kernel
theorem dX7_newOf_1 : decode cX7_newOf 1 = .ok (.getfield 30, 3) := by decide +kernel
theorem dX7_newOf_4 : decode cX7_newOf 4 = .ok (.iload_n 1, 1) := by decide +kernel
theorem dX7_newOf_5 : decode cX7_newOf 5 = .ok (.invokevirtual 62, 3) := by decide +kernel
theorem dX7_newOf_8 : decode cX7_newOf 8 = .ok (.istore_n 2, 1) := by decide +kernel
theorem dX7_newOf_9 : decode cX7_newOf 9 = .ok (.iload_n 2, 1) := by decide +kernel
theorem dX7_newOf_10 : decode cX7_newOf 10 = .ok (.tableswitch 138 0 6 #[42, 138, 79, 104, 110, 110, 110], 42) := by decide +kernel
theorem dX7_newOf_52 : decode cX7_newOf 52 = .ok (.aload_n 0, 1) := by decide +kernel
theorem dX7_newOf_53 : decode cX7_newOf 53 = .ok (.getfield 26, 3) := by decide +kernel
theorem dX7_newOf_56 : decode cX7_newOf 56 = .ok (.aload_n 0, 1) := by decide +kernel
theorem dX7_newOf_57 : decode cX7_newOf 57 = .ok (.getfield 30, 3) := by decide +kernel
theorem dX7_newOf_60 : decode cX7_newOf 60 = .ok (.iload_n 1, 1) := by decide +kernel
theorem dX7_newOf_61 : decode cX7_newOf 61 = .ok (.invokevirtual 65, 3) := by decide +kernel
theorem dX7_newOf_64 : decode cX7_newOf 64 = .ok (.invokevirtual 68, 3) := by decide +kernel
theorem dX7_newOf_67 : decode cX7_newOf 67 = .ok (.ifCond .ne 7, 3) := by decide +kernel
theorem dX7_newOf_70 : decode cX7_newOf 70 = .ok (.iconst (-1), 1) := by decide +kernel
theorem dX7_newOf_71 : decode cX7_newOf 71 = .ok (.goto 17, 3) := by decide +kernel
theorem dX7_newOf_74 : decode cX7_newOf 74 = .ok (.aload_n 0, 1) := by decide +kernel
theorem dX7_newOf_75 : decode cX7_newOf 75 = .ok (.iload_n 2, 1) := by decide +kernel
theorem dX7_newOf_76 : decode cX7_newOf 76 = .ok (.aload_n 0, 1) := by decide +kernel
theorem dX7_newOf_77 : decode cX7_newOf 77 = .ok (.getfield 30, 3) := by decide +kernel
theorem dX7_newOf_80 : decode cX7_newOf 80 = .ok (.iload_n 1, 1) := by decide +kernel
theorem dX7_newOf_81 : decode cX7_newOf 81 = .ok (.invokevirtual 65, 3) := by decide +kernel
theorem dX7_newOf_84 : decode cX7_newOf 84 = .ok (.iconst 0, 1) := by decide +kernel
theorem dX7_newOf_85 : decode cX7_newOf 85 = .ok (.invokevirtual 48, 3) := by decide +kernel
theorem dX7_newOf_88 : decode cX7_newOf 88 = .ok (.ireturn, 1) := by decide +kernel
theorem dX7_newOf_89 : decode cX7_newOf 89 = .ok (.aload_n 0, 1) := by decide +kernel
theorem dX7_newOf_90 : decode cX7_newOf 90 = .ok (.iload_n 1, 1) := by decide +kernel
theorem dX7_newOf_91 : decode cX7_newOf 91 = .ok (.invokevirtual 71, 3) := by decide +kernel
theorem dX7_newOf_94 : decode cX7_newOf 94 = .ok (.ifCond .eq 18, 3) := by decide +kernel
theorem dX7_newOf_97 : decode cX7_newOf 97 = .ok (.aload_n 0, 1) := by decide +kernel
theorem dX7_newOf_98 : decode cX7_newOf 98 = .ok (.aload_n 0, 1) := by decide +kernel
theorem dX7_newOf_99 : decode cX7_newOf 99 = .ok (.getfield 30, 3) := by decide +kernel
theorem dX7_newOf_102 : decode cX7_newOf 102 = .ok (.iload_n 1, 1) := by decide +kernel
theorem dX7_newOf_103 : decode cX7_newOf 103 = .ok (.invokevirtual 65, 3) := by decide +kernel
theorem dX7_newOf_106 : decode cX7_newOf 106 = .ok (.invokevirtual 75, 3) := by decide +kernel
theorem dX7_newOf_109 : decode cX7_newOf 109 = .ok (.goto 4, 3) := by decide +kernel
theorem dX7_newOf_112 : decode cX7_newOf 112 = .ok (.iconst (-1), 1) := by decide +kernel
theorem dX7_newOf_113 : decode cX7_newOf 113 = .ok (.ireturn, 1) := by decide +kernel
theorem dX7_newOf_114 : decode cX7_newOf 114 = .ok (.aload_n 0, 1) := by decide +kernel
theorem dX7_newOf_115 : decode cX7_newOf 115 = .ok (.iload_n 1, 1) := by decide +kernel
theorem dX7_newOf_116 : decode cX7_newOf 116 = .ok (.invokevirtual 78, 3) := by decide +kernel
theorem dX7_newOf_119 : decode cX7_newOf 119 = .ok (.ireturn, 1) := by decide +kernel
theorem dX7_newOf_120 : decode cX7_newOf 120 = .ok (.aload_n 0, 1) := by decide +kernel
theorem dX7_newOf_121 : decode cX7_newOf 121 = .ok (.iload_n 2, 1) := by decide +kernel
theorem dX7_newOf_122 : decode cX7_newOf 122 = .ok (.aload_n 0, 1) := by decide +kernel
theorem dX7_newOf_123 : decode cX7_newOf 123 = .ok (.getfield 15, 3) := by decide +kernel
theorem dX7_newOf_126 : decode cX7_newOf 126 = .ok (.aload_n 0, 1) := by decide +kernel
theorem dX7_newOf_127 : decode cX7_newOf 127 = .ok (.getfield 30, 3) := by decide +kernel
theorem dX7_newOf_130 : decode cX7_newOf 130 = .ok (.iload_n 1, 1) := by decide +kernel
theorem dX7_newOf_131 : decode cX7_newOf 131 = .ok (.iconst 0, 1) := by decide +kernel
theorem dX7_newOf_132 : decode cX7_newOf 132 = .ok (.invokevirtual 58, 3) := by decide +kernel
theorem dX7_newOf_135 : decode cX7_newOf 135 = .ok (.iaload, 1) := by decide +kernel
theorem dX7_newOf_136 : decode cX7_newOf 136 = .ok (.aload_n 0, 1) := by decide +kernel
theorem dX7_newOf_137 : decode cX7_newOf 137 = .ok (.getfield 30, 3) := by decide +kernel
theorem dX7_newOf_140 : decode cX7_newOf 140 = .ok (.iload_n 1, 1) := by decide +kernel
theorem dX7_newOf_141 : decode cX7_newOf 141 = .ok (.invokevirtual 81, 3) := by decide +kernel
theorem dX7_newOf_144 : decode cX7_newOf 144 = .ok (.invokevirtual 84, 3) := by decide +kernel
theorem dX7_newOf_147 : decode cX7_newOf 147 = .ok (.ireturn, 1) := by decide +kernel
theorem dX7_newOf_148 : decode cX7_newOf 148 = .ok (.aload_n 0, 1) := by decide +kernel
theorem dX7_newOf_149 : decode cX7_newOf 149 = .ok (.iload_n 2, 1) := by decide +kernel
theorem dX7_newOf_150 : decode cX7_newOf 150 = .ok (.aload_n 0, 1) := by decide +kernel
theorem dX7_newOf_151 : decode cX7_newOf 151 = .ok (.getfield 30, 3) := by decide +kernel
theorem dX7_newOf_154 : decode cX7_newOf 154 = .ok (.iload_n 1, 1) := by decide +kernel
theorem dX7_newOf_155 : decode cX7_newOf 155 = .ok (.invokevirtual 65, 3) := by decide +kernel
theorem dX7_newOf_158 : decode cX7_newOf 158 = .ok (.aload_n 0, 1) := by decide +kernel
theorem dX7_newOf_159 : decode cX7_newOf 159 = .ok (.getfield 30, 3) := by decide +kernel
theorem dX7_newOf_162 : decode cX7_newOf 162 = .ok (.iload_n 1, 1) := by decide +kernel
theorem dX7_newOf_163 : decode cX7_newOf 163 = .ok (.invokevirtual 81, 3) := by decide +kernel
theorem dX7_newOf_166 : decode cX7_newOf 166 = .ok (.invokevirtual 48, 3) := by decide +kernel
theorem dX7_newOf_169 : decode cX7_newOf 169 = .ok (.ireturn, 1) := by decide +kernel
theorem dX7_newOfOne_0 : decode cX7_newOfOne 0 = .ok (.aload_n 0, 1) := by decide +kernel
theorem dX7_newOfOne_1 : decode cX7_newOfOne 1 = .ok (.getfield 30, 3) := by decide +kernel
theorem dX7_newOfOne_4 : decode cX7_newOfOne 4 = .ok (.iload_n 2, 1) := by decide +kernel
theorem dX7_newOfOne_5 : decode cX7_newOfOne 5 = .ok (.invokevirtual 62, 3) := by decide +kernel
theorem dX7_newOfOne_8 : decode cX7_newOfOne 8 = .ok (.istore 4, 2) := by decide +kernel
theorem dX7_newOfOne_10 : decode cX7_newOfOne 10 = .ok (.iload 4, 2) := by decide +kernel
theorem dX7_newOfOne_12 : decode cX7_newOfOne 12 = .ok (.bipush 7, 2) := by decide +kernel
theorem dX7_newOfOne_14 : decode cX7_newOfOne 14 = .ok (.if_icmp .eq 16, 3) := by decide +kernel
theorem dX7_newOfOne_17 : decode cX7_newOfOne 17 = .ok (.iload_n 1, 1) := by decide +kernel
theorem dX7_newOfOne_18 : decode cX7_newOfOne 18 = .ok (.bipush 6, 2) := by decide +kernel
theorem dX7_newOfOne_20 : decode cX7_newOfOne 20 = .ok (.if_icmp .ne 12, 3) := by decide +kernel
theorem dX7_newOfOne_23 : decode cX7_newOfOne 23 = .ok (.iload 4, 2) := by decide +kernel
theorem dX7_newOfOne_25 : decode cX7_newOfOne 25 = .ok (.bipush 6, 2) := by decide +kernel
theorem dX7_newOfOne_27 : decode cX7_newOfOne 27 = .ok (.if_icmp .ne 5, 3) := by decide +kernel
theorem dX7_newOfOne_30 : decode cX7_newOfOne 30 = .ok (.iload_n 2, 1) := by decide +kernel
theorem dX7_newOfOne_31 : decode cX7_newOfOne 31 = .ok (.ireturn, 1) := by decide +kernel
theorem dX7_newOfOne_32 : decode cX7_newOfOne 32 = .ok (.iload 4, 2) := by decide +kernel
theorem dX7_newOfOne_34 : decode cX7_newOfOne 34 = .ok (.iconst 4, 1) := by decide +kernel
theorem dX7_newOfOne_35 : decode cX7_newOfOne 35 = .ok (.if_icmp .ne 24, 3) := by decide +kernel
theorem dX7_newOfOne_38 : decode cX7_newOfOne 38 = .ok (.iload_n 1, 1) := by decide +kernel
theorem dX7_newOfOne_39 : decode cX7_newOfOne 39 = .ok (.iconst 5, 1) := by decide +kernel
theorem dX7_newOfOne_40 : decode cX7_newOfOne 40 = .ok (.if_icmp .eq 19, 3) := by decide +kernel
theorem dX7_newOfOne_43 : decode cX7_newOfOne 43 = .ok (.aload_n 0, 1) := by decide +kernel
theorem dX7_newOfOne_44 : decode cX7_newOfOne 44 = .ok (.iload_n 1, 1) := by decide +kernel
theorem dX7_newOfOne_45 : decode cX7_newOfOne 45 = .ok (.aload_n 0, 1) := by decide +kernel
theorem dX7_newOfOne_46 : decode cX7_newOfOne 46 = .ok (.getfield 30, 3) := by decide +kernel
theorem dX7_newOfOne_49 : decode cX7_newOfOne 49 = .ok (.iload_n 2, 1) := by decide +kernel
theorem dX7_newOfOne_50 : decode cX7_newOfOne 50 = .ok (.iconst 0, 1) := by decide +kernel
theorem dX7_newOfOne_51 : decode cX7_newOfOne 51 = .ok (.invokevirtual 58, 3) := by decide +kernel
theorem dX7_newOfOne_54 : decode cX7_newOfOne 54 = .ok (.iload_n 3, 1) := by decide +kernel
theorem dX7_newOfOne_55 : decode cX7_newOfOne 55 = .ok (.invokevirtual 48, 3) := by decide +kernel
theorem dX7_newOfOne_58 : decode cX7_newOfOne 58 = .ok (.ireturn, 1) := by decide +kernel
theorem dX7_newOfOne_59 : decode cX7_newOfOne 59 = .ok (.aload_n 0, 1) := by decide +kernel
theorem dX7_newOfOne_60 : decode cX7_newOfOne 60 = .ok (.iload_n 1, 1) := by decide +kernel
theorem dX7_newOfOne_61 : decode cX7_newOfOne 61 = .ok (.iload_n 2, 1) := by decide +kernel
theorem dX7_newOfOne_62 : decode cX7_newOfOne 62 = .ok (.iload_n 3, 1) := by decide +kernel
theorem dX7_newOfOne_63 : decode cX7_newOfOne 63 = .ok (.invokevirtual 48, 3) := by decide +kernel
theorem dX7_newOfOne_66 : decode cX7_newOfOne 66 = .ok (.ireturn, 1) := by decide +kernel
theorem dX7_newOfBest_0 : decode cX7_newOfBest 0 = .ok (.aload_n 0, 1) := by decide +kernel
theorem dX7_newOfBest_1 : decode cX7_newOfBest 1 = .ok (.getfield 22, 3) := by decide +kernel
theorem dX7_newOfBest_4 : decode cX7_newOfBest 4 = .ok (.invokevirtual 87, 3) := by decide +kernel
theorem dX7_newOfBest_7 : decode cX7_newOfBest 7 = .ok (.iconst 0, 1) := by decide +kernel
theorem dX7_newOfBest_8 : decode cX7_newOfBest 8 = .ok (.istore_n 2, 1) := by decide +kernel
theorem dX7_newOfBest_9 : decode cX7_newOfBest 9 = .ok (.iload_n 2, 1) := by decide +kernel
theorem dX7_newOfBest_10 : decode cX7_newOfBest 10 = .ok (.aload_n 0, 1) := by decide +kernel
theorem dX7_newOfBest_11 : decode cX7_newOfBest 11 = .ok (.getfield 30, 3) := by decide +kernel
theorem dX7_newOfBest_14 : decode cX7_newOfBest 14 = .ok (.iload_n 1, 1) := by decide +kernel
theorem dX7_newOfBest_15 : decode cX7_newOfBest 15 = .ok (.invokevirtual 55, 3) := by decide +kernel
theorem dX7_newOfBest_18 : decode cX7_newOfBest 18 = .ok (.if_icmp .ge 46, 3) := by decide +kernel
theorem dX7_newOfBest_21 : decode cX7_newOfBest 21 = .ok (.aload_n 0, 1) := by decide +kernel
theorem dX7_newOfBest_22 : decode cX7_newOfBest 22 = .ok (.getfield 15, 3) := by decide +kernel
theorem dX7_newOfBest_25 : decode cX7_newOfBest 25 = .ok (.aload_n 0, 1) := by decide +kernel
theorem dX7_newOfBest_26 : decode cX7_newOfBest 26 = .ok (.getfield 30, 3) := by decide +kernel
theorem dX7_newOfBest_29 : decode cX7_newOfBest 29 = .ok (.iload_n 1, 1) := by decide +kernel
theorem dX7_newOfBest_30 : decode cX7_newOfBest 30 = .ok (.iload_n 2, 1) := by decide +kernel
theorem dX7_newOfBest_31 : decode cX7_newOfBest 31 = .ok (.invokevirtual 58, 3) := by decide +kernel
theorem dX7_newOfBest_34 : decode cX7_newOfBest 34 = .ok (.iaload, 1) := by decide +kernel
theorem dX7_newOfBest_35 : decode cX7_newOfBest 35 = .ok (.istore_n 3, 1) := by decide +kernel
theorem dX7_newOfBest_36 : decode cX7_newOfBest 36 = .ok (.aload_n 0, 1) := by decide +kernel
theorem dX7_newOfBest_37 : decode cX7_newOfBest 37 = .ok (.getfield 30, 3) := by decide +kernel
theorem dX7_newOfBest_40 : decode cX7_newOfBest 40 = .ok (.iload_n 3, 1) := by decide +kernel
theorem dX7_newOfBest_41 : decode cX7_newOfBest 41 = .ok (.invokevirtual 62, 3) := by decide +kernel
theorem dX7_newOfBest_44 : decode cX7_newOfBest 44 = .ok (.bipush 7, 2) := by decide +kernel
theorem dX7_newOfBest_46 : decode cX7_newOfBest 46 = .ok (.if_icmp .eq 12, 3) := by decide +kernel
theorem dX7_newOfBest_49 : decode cX7_newOfBest 49 = .ok (.aload_n 0, 1) := by decide +kernel
theorem dX7_newOfBest_50 : decode cX7_newOfBest 50 = .ok (.getfield 22, 3) := by decide +kernel
theorem dX7_newOfBest_53 : decode cX7_newOfBest 53 = .ok (.iconst 3, 1) := by decide +kernel
theorem dX7_newOfBest_54 : decode cX7_newOfBest 54 = .ok (.iload_n 3, 1) := by decide +kernel
theorem dX7_newOfBest_55 : decode cX7_newOfBest 55 = .ok (.invokevirtual 90, 3) := by decide +kernel
theorem dX7_newOfBest_58 : decode cX7_newOfBest 58 = .ok (.iinc 2 1, 3) := by decide +kernel
theorem dX7_newOfBest_61 : decode cX7_newOfBest 61 = .ok (.goto (-52), 3) := by decide +kernel
theorem dX7_newOfBest_64 : decode cX7_newOfBest 64 = .ok (.aload_n 0, 1) := by decide +kernel
theorem dX7_newOfBest_65 : decode cX7_newOfBest 65 = .ok (.getfield 22, 3) := by decide +kernel
theorem dX7_newOfBest_68 : decode cX7_newOfBest 68 = .ok (.invokevirtual 94, 3) := by decide +kernel
theorem dX7_newOfBest_71 : decode cX7_newOfBest 71 = .ok (.ifCond .ne 5, 3) := by decide +kernel
theorem dX7_newOfBest_74 : decode cX7_newOfBest 74 = .ok (.iconst (-1), 1) := by decide +kernel
theorem dX7_newOfBest_75 : decode cX7_newOfBest 75 = .ok (.ireturn, 1) := by decide +kernel
theorem dX7_newOfBest_76 : decode cX7_newOfBest 76 = .ok (.aload_n 0, 1) := by decide +kernel
theorem dX7_newOfBest_77 : decode cX7_newOfBest 77 = .ok (.getfield 22, 3) := by decide +kernel
theorem dX7_newOfBest_80 : decode cX7_newOfBest 80 = .ok (.invokevirtual 94, 3) := by decide +kernel
theorem dX7_newOfBest_83 : decode cX7_newOfBest 83 = .ok (.iconst 1, 1) := by decide +kernel
theorem dX7_newOfBest_84 : decode cX7_newOfBest 84 = .ok (.if_icmp .ne 14, 3) := by decide +kernel
theorem dX7_newOfBest_87 : decode cX7_newOfBest 87 = .ok (.aload_n 0, 1) := by decide +kernel
theorem dX7_newOfBest_88 : decode cX7_newOfBest 88 = .ok (.getfield 22, 3) := by decide +kernel
theorem dX7_newOfBest_91 : decode cX7_newOfBest 91 = .ok (.iconst 0, 1) := by decide +kernel
theorem dX7_newOfBest_92 : decode cX7_newOfBest 92 = .ok (.invokevirtual 96, 3) := by decide +kernel
theorem dX7_newOfBest_95 : decode cX7_newOfBest 95 = .ok (.goto 16, 3) := by decide +kernel
theorem dX7_newOfBest_98 : decode cX7_newOfBest 98 = .ok (.aload_n 0, 1) := by decide +kernel
theorem dX7_newOfBest_99 : decode cX7_newOfBest 99 = .ok (.iconst 3, 1) := by decide +kernel
theorem dX7_newOfBest_100 : decode cX7_newOfBest 100 = .ok (.aload_n 0, 1) := by decide +kernel
theorem dX7_newOfBest_101 : decode cX7_newOfBest 101 = .ok (.getfield 30, 3) := by decide +kernel
theorem dX7_newOfBest_104 : decode cX7_newOfBest 104 = .ok (.iload_n 1, 1) := by decide +kernel
theorem dX7_newOfBest_105 : decode cX7_newOfBest 105 = .ok (.invokevirtual 65, 3) := by decide +kernel
theorem dX7_newOfBest_108 : decode cX7_newOfBest 108 = .ok (.invokevirtual 98, 3) := by decide +kernel
theorem dX7_newOfBest_111 : decode cX7_newOfBest 111 = .ok (.ireturn, 1) := by decide +kernel
theorem dX7_gatherBool_0 : decode cX7_gatherBool 0 = .ok (.aload_n 0, 1) := by decide +kernel
theorem dX7_gatherBool_1 : decode cX7_gatherBool 1 = .ok (.getfield 22, 3) := by decide +kernel
theorem dX7_gatherBool_4 : decode cX7_gatherBool 4 = .ok (.invokevirtual 87, 3) := by decide +kernel
theorem dX7_gatherBool_7 : decode cX7_gatherBool 7 = .ok (.iconst 0, 1) := by decide +kernel
theorem dX7_gatherBool_8 : decode cX7_gatherBool 8 = .ok (.istore_n 2, 1) := by decide +kernel
theorem dX7_gatherBool_9 : decode cX7_gatherBool 9 = .ok (.iload_n 2, 1) := by decide +kernel
theorem dX7_gatherBool_10 : decode cX7_gatherBool 10 = .ok (.aload_n 0, 1) := by decide +kernel
theorem dX7_gatherBool_11 : decode cX7_gatherBool 11 = .ok (.getfield 30, 3) := by decide +kernel
theorem dX7_gatherBool_14 : decode cX7_gatherBool 14 = .ok (.iload_n 1, 1) := by decide +kernel
theorem dX7_gatherBool_15 : decode cX7_gatherBool 15 = .ok (.invokevirtual 55, 3) := by decide +kernel
theorem dX7_gatherBool_18 : decode cX7_gatherBool 18 = .ok (.if_icmp .ge 135, 3) := by decide +kernel
theorem dX7_gatherBool_21 : decode cX7_gatherBool 21 = .ok (.aload_n 0, 1) := by decide +kernel
theorem dX7_gatherBool_22 : decode cX7_gatherBool 22 = .ok (.getfield 30, 3) := by decide +kernel
theorem dX7_gatherBool_25 : decode cX7_gatherBool 25 = .ok (.iload_n 1, 1) := by decide +kernel
theorem dX7_gatherBool_26 : decode cX7_gatherBool 26 = .ok (.iload_n 2, 1) := by decide +kernel
theorem dX7_gatherBool_27 : decode cX7_gatherBool 27 = .ok (.invokevirtual 101, 3) := by decide +kernel
theorem dX7_gatherBool_30 : decode cX7_gatherBool 30 = .ok (.istore_n 3, 1) := by decide +kernel
theorem dX7_gatherBool_31 : decode cX7_gatherBool 31 = .ok (.aload_n 0, 1) := by decide +kernel
theorem dX7_gatherBool_32 : decode cX7_gatherBool 32 = .ok (.getfield 15, 3) := by decide +kernel
theorem dX7_gatherBool_35 : decode cX7_gatherBool 35 = .ok (.aload_n 0, 1) := by decide +kernel
theorem dX7_gatherBool_36 : decode cX7_gatherBool 36 = .ok (.getfield 30, 3) := by decide +kernel
theorem dX7_gatherBool_39 : decode cX7_gatherBool 39 = .ok (.iload_n 1, 1) := by decide +kernel
theorem dX7_gatherBool_40 : decode cX7_gatherBool 40 = .ok (.iload_n 2, 1) := by decide +kernel
theorem dX7_gatherBool_41 : decode cX7_gatherBool 41 = .ok (.invokevirtual 58, 3) := by decide +kernel
theorem dX7_gatherBool_44 : decode cX7_gatherBool 44 = .ok (.iaload, 1) := by decide +kernel
theorem dX7_gatherBool_45 : decode cX7_gatherBool 45 = .ok (.istore 4, 2) := by decide +kernel
theorem dX7_gatherBool_47 : decode cX7_gatherBool 47 = .ok (.aload_n 0, 1) := by decide +kernel
theorem dX7_gatherBool_48 : decode cX7_gatherBool 48 = .ok (.getfield 30, 3) := by decide +kernel
theorem dX7_gatherBool_51 : decode cX7_gatherBool 51 = .ok (.iload_n 1, 1) := by decide +kernel
theorem dX7_gatherBool_52 : decode cX7_gatherBool 52 = .ok (.invokevirtual 55, 3) := by decide +kernel
theorem dX7_gatherBool_55 : decode cX7_gatherBool 55 = .ok (.iload_n 2, 1) := by decide +kernel
theorem dX7_gatherBool_56 : decode cX7_gatherBool 56 = .ok (.isub, 1) := by decide +kernel
theorem dX7_gatherBool_57 : decode cX7_gatherBool 57 = .ok (.iconst 1, 1) := by decide +kernel
theorem dX7_gatherBool_58 : decode cX7_gatherBool 58 = .ok (.isub, 1) := by decide +kernel
theorem dX7_gatherBool_59 : decode cX7_gatherBool 59 = .ok (.istore 5, 2) := by decide +kernel
theorem dX7_gatherBool_61 : decode cX7_gatherBool 61 = .ok (.aload_n 0, 1) := by decide +kernel
theorem dX7_gatherBool_62 : decode cX7_gatherBool 62 = .ok (.getfield 30, 3) := by decide +kernel
theorem dX7_gatherBool_65 : decode cX7_gatherBool 65 = .ok (.iload 4, 2) := by decide +kernel
theorem dX7_gatherBool_67 : decode cX7_gatherBool 67 = .ok (.invokevirtual 62, 3) := by decide +kernel
theorem dX7_gatherBool_70 : decode cX7_gatherBool 70 = .ok (.bipush 7, 2) := by decide +kernel
theorem dX7_gatherBool_72 : decode cX7_gatherBool 72 = .ok (.if_icmp .ne 12, 3) := by decide +kernel
theorem dX7_gatherBool_75 : decode cX7_gatherBool 75 = .ok (.iload_n 3, 1) := by decide +kernel
theorem dX7_gatherBool_76 : decode cX7_gatherBool 76 = .ok (.invokestatic 104, 3) := by decide +kernel
theorem dX7_gatherBool_79 : decode cX7_gatherBool 79 = .ok (.ifCond .eq 68, 3) := by decide +kernel
theorem dX7_gatherBool_82 : decode cX7_gatherBool 82 = .ok (.iconst 0, 1) := by decide +kernel
theorem dX7_gatherBool_83 : decode cX7_gatherBool 83 = .ok (.ireturn, 1) := by decide +kernel
theorem dX7_gatherBool_84 : decode cX7_gatherBool 84 = .ok (.aload_n 0, 1) := by decide +kernel
theorem dX7_gatherBool_85 : decode cX7_gatherBool 85 = .ok (.iload_n 3, 1) := by decide +kernel
theorem dX7_gatherBool_86 : decode cX7_gatherBool 86 = .ok (.iload 4, 2) := by decide +kernel
theorem dX7_gatherBool_88 : decode cX7_gatherBool 88 = .ok (.aload_n 0, 1) := by decide +kernel
theorem dX7_gatherBool_89 : decode cX7_gatherBool 89 = .ok (.getfield 30, 3) := by decide +kernel
theorem dX7_gatherBool_92 : decode cX7_gatherBool 92 = .ok (.iload_n 1, 1) := by decide +kernel
theorem dX7_gatherBool_93 : decode cX7_gatherBool 93 = .ok (.invokevirtual 65, 3) := by decide +kernel
theorem dX7_gatherBool_96 : decode cX7_gatherBool 96 = .ok (.invokevirtual 107, 3) := by decide +kernel
theorem dX7_gatherBool_99 : decode cX7_gatherBool 99 = .ok (.ifCond .eq 38, 3) := by decide +kernel
theorem dX7_gatherBool_102 : decode cX7_gatherBool 102 = .ok (.aload_n 0, 1) := by decide +kernel
theorem dX7_gatherBool_103 : decode cX7_gatherBool 103 = .ok (.getfield 22, 3) := by decide +kernel
theorem dX7_gatherBool_106 : decode cX7_gatherBool 106 = .ok (.invokevirtual 94, 3) := by decide +kernel
theorem dX7_gatherBool_109 : decode cX7_gatherBool 109 = .ok (.aload_n 0, 1) := by decide +kernel
theorem dX7_gatherBool_110 : decode cX7_gatherBool 110 = .ok (.getfield 30, 3) := by decide +kernel
theorem dX7_gatherBool_113 : decode cX7_gatherBool 113 = .ok (.iload 4, 2) := by decide +kernel
theorem dX7_gatherBool_115 : decode cX7_gatherBool 115 = .ok (.invokevirtual 55, 3) := by decide +kernel
theorem dX7_gatherBool_118 : decode cX7_gatherBool 118 = .ok (.iadd, 1) := by decide +kernel
theorem dX7_gatherBool_119 : decode cX7_gatherBool 119 = .ok (.iload 5, 2) := by decide +kernel
theorem dX7_gatherBool_121 : decode cX7_gatherBool 121 = .ok (.iadd, 1) := by decide +kernel
theorem dX7_gatherBool_122 : decode cX7_gatherBool 122 = .ok (.bipush 8, 2) := by decide +kernel
theorem dX7_gatherBool_124 : decode cX7_gatherBool 124 = .ok (.if_icmp .gt 13, 3) := by decide +kernel
theorem dX7_gatherBool_127 : decode cX7_gatherBool 127 = .ok (.aload_n 0, 1) := by decide +kernel
theorem dX7_gatherBool_128 : decode cX7_gatherBool 128 = .ok (.iload_n 3, 1) := by decide +kernel
theorem dX7_gatherBool_129 : decode cX7_gatherBool 129 = .ok (.iload 4, 2) := by decide +kernel
theorem dX7_gatherBool_131 : decode cX7_gatherBool 131 = .ok (.invokevirtual 111, 3) := by decide +kernel
theorem dX7_gatherBool_134 : decode cX7_gatherBool 134 = .ok (.goto 13, 3) := by decide +kernel
theorem dX7_gatherBool_137 : decode cX7_gatherBool 137 = .ok (.aload_n 0, 1) := by decide +kernel
theorem dX7_gatherBool_138 : decode cX7_gatherBool 138 = .ok (.getfield 22, 3) := by decide +kernel
theorem dX7_gatherBool_141 : decode cX7_gatherBool 141 = .ok (.iload_n 3, 1) := by decide +kernel
theorem dX7_gatherBool_142 : decode cX7_gatherBool 142 = .ok (.iload 4, 2) := by decide +kernel
theorem dX7_gatherBool_144 : decode cX7_gatherBool 144 = .ok (.invokevirtual 90, 3) := by decide +kernel
theorem dX7_gatherBool_147 : decode cX7_gatherBool 147 = .ok (.iinc 2 1, 3) := by decide +kernel
theorem dX7_gatherBool_150 : decode cX7_gatherBool 150 = .ok (.goto (-141), 3) := by decide +kernel
theorem dX7_gatherBool_153 : decode cX7_gatherBool 153 = .ok (.iconst 1, 1) := by decide +kernel
theorem dX7_gatherBool_154 : decode cX7_gatherBool 154 = .ok (.ireturn, 1) := by decide +kernel
theorem dX7_canDissolve_0 : decode cX7_canDissolve 0 = .ok (.aload_n 0, 1) := by decide +kernel
theorem dX7_canDissolve_1 : decode cX7_canDissolve 1 = .ok (.getfield 30, 3) := by decide +kernel
theorem dX7_canDissolve_4 : decode cX7_canDissolve 4 = .ok (.iload_n 2, 1) := by decide +kernel
theorem dX7_canDissolve_5 : decode cX7_canDissolve 5 = .ok (.invokevirtual 62, 3) := by decide +kernel
theorem dX7_canDissolve_8 : decode cX7_canDissolve 8 = .ok (.iconst 2, 1) := by decide +kernel
theorem dX7_canDissolve_9 : decode cX7_canDissolve 9 = .ok (.if_icmp .ne 8, 3) := by decide +kernel
theorem dX7_canDissolve_12 : decode cX7_canDissolve 12 = .ok (.iload_n 1, 1) := by decide +kernel
theorem dX7_canDissolve_13 : decode cX7_canDissolve 13 = .ok (.iconst 2, 1) := by decide +kernel
theorem dX7_canDissolve_14 : decode cX7_canDissolve 14 = .ok (.if_icmp .ne 5, 3) := by decide +kernel
theorem dX7_canDissolve_17 : decode cX7_canDissolve 17 = .ok (.iconst 0, 1) := by decide +kernel
theorem dX7_canDissolve_18 : decode cX7_canDissolve 18 = .ok (.ireturn, 1) := by decide +kernel
theorem dX7_canDissolve_19 : decode cX7_canDissolve 19 = .ok (.aload_n 0, 1) := by decide +kernel
theorem dX7_canDissolve_20 : decode cX7_canDissolve 20 = .ok (.getfield 30, 3) := by decide +kernel
theorem dX7_canDissolve_23 : decode cX7_canDissolve 23 = .ok (.iload_n 2, 1) := by decide +kernel
theorem dX7_canDissolve_24 : decode cX7_canDissolve 24 = .ok (.invokevirtual 65, 3) := by decide +kernel
theorem dX7_canDissolve_27 : decode cX7_canDissolve 27 = .ok (.istore 4, 2) := by decide +kernel
theorem dX7_canDissolve_29 : decode cX7_canDissolve 29 = .ok (.aload_n 0, 1) := by decide +kernel
theorem dX7_canDissolve_30 : decode cX7_canDissolve 30 = .ok (.getfield 30, 3) := by decide +kernel
theorem dX7_canDissolve_33 : decode cX7_canDissolve 33 = .ok (.iload_n 2, 1) := by decide +kernel
theorem dX7_canDissolve_34 : decode cX7_canDissolve 34 = .ok (.iconst 3, 1) := by decide +kernel
theorem dX7_canDissolve_35 : decode cX7_canDissolve 35 = .ok (.invokevirtual 114, 3) := by decide +kernel
theorem dX7_canDissolve_38 : decode cX7_canDissolve 38 = .ok (.istore 5, 2) := by decide +kernel
theorem dX7_canDissolve_40 : decode cX7_canDissolve 40 = .ok (.iload_n 1, 1) := by decide +kernel
theorem dX7_canDissolve_41 : decode cX7_canDissolve 41 = .ok (.iconst 3, 1) := by decide +kernel
theorem dX7_canDissolve_42 : decode cX7_canDissolve 42 = .ok (.if_icmp .ne 33, 3) := by decide +kernel
theorem dX7_canDissolve_45 : decode cX7_canDissolve 45 = .ok (.iload_n 3, 1) := by decide +kernel
theorem dX7_canDissolve_46 : decode cX7_canDissolve 46 = .ok (.iconst 1, 1) := by decide +kernel
theorem dX7_canDissolve_47 : decode cX7_canDissolve 47 = .ok (.if_icmp .gt 26, 3) := by decide +kernel
theorem dX7_canDissolve_50 : decode cX7_canDissolve 50 = .ok (.iload 4, 2) := by decide +kernel
theorem dX7_canDissolve_52 : decode cX7_canDissolve 52 = .ok (.iconst 1, 1) := by decide +kernel
theorem dX7_canDissolve_53 : decode cX7_canDissolve 53 = .ok (.if_icmp .gt 20, 3) := by decide +kernel
theorem dX7_canDissolve_56 : decode cX7_canDissolve 56 = .ok (.iload 5, 2) := by decide +kernel
theorem dX7_canDissolve_58 : decode cX7_canDissolve 58 = .ok (.aload_n 0, 1) := by decide +kernel
theorem dX7_canDissolve_59 : decode cX7_canDissolve 59 = .ok (.getfield 30, 3) := by decide +kernel
theorem dX7_canDissolve_62 : decode cX7_canDissolve 62 = .ok (.iload_n 2, 1) := by decide +kernel
theorem dX7_canDissolve_63 : decode cX7_canDissolve 63 = .ok (.invokevirtual 55, 3) := by decide +kernel
theorem dX7_canDissolve_66 : decode cX7_canDissolve 66 = .ok (.if_icmp .ne 7, 3) := by decide +kernel
theorem dX7_canDissolve_69 : decode cX7_canDissolve 69 = .ok (.iconst 1, 1) := by decide +kernel
theorem dX7_canDissolve_70 : decode cX7_canDissolve 70 = .ok (.goto 4, 3) := by decide +kernel
theorem dX7_canDissolve_73 : decode cX7_canDissolve 73 = .ok (.iconst 0, 1) := by decide +kernel
theorem dX7_canDissolve_74 : decode cX7_canDissolve 74 = .ok (.ireturn, 1) := by decide +kernel
theorem dX7_canDissolve_75 : decode cX7_canDissolve 75 = .ok (.iload 4, 2) := by decide +kernel
theorem dX7_canDissolve_77 : decode cX7_canDissolve 77 = .ok (.ifCond .ne 12, 3) := by decide +kernel
theorem dX7_canDissolve_80 : decode cX7_canDissolve 80 = .ok (.iload 5, 2) := by decide +kernel
theorem dX7_canDissolve_82 : decode cX7_canDissolve 82 = .ok (.ifCond .ne 7, 3) := by decide +kernel
theorem dX7_canDissolve_85 : decode cX7_canDissolve 85 = .ok (.iconst 1, 1) := by decide +kernel
theorem dX7_canDissolve_86 : decode cX7_canDissolve 86 = .ok (.goto 4, 3) := by decide +kernel
theorem dX7_canDissolve_89 : decode cX7_canDissolve 89 = .ok (.iconst 0, 1) := by decide +kernel
theorem dX7_canDissolve_90 : decode cX7_canDissolve 90 = .ok (.ireturn, 1) := by decide +kernel
theorem dX7_dissolve_0 : decode cX7_dissolve 0 = .ok (.iconst 0, 1) := by decide +kernel
theorem dX7_dissolve_1 : decode cX7_dissolve 1 = .ok (.istore_n 3, 1) := by decide +kernel
theorem dX7_dissolve_2 : decode cX7_dissolve 2 = .ok (.iload_n 3, 1) := by decide +kernel
theorem dX7_dissolve_3 : decode cX7_dissolve 3 = .ok (.aload_n 0, 1) := by decide +kernel
theorem dX7_dissolve_4 : decode cX7_dissolve 4 = .ok (.getfield 30, 3) := by decide +kernel
theorem dX7_dissolve_7 : decode cX7_dissolve 7 = .ok (.iload_n 2, 1) := by decide +kernel
theorem dX7_dissolve_8 : decode cX7_dissolve 8 = .ok (.invokevirtual 55, 3) := by decide +kernel
theorem dX7_dissolve_11 : decode cX7_dissolve 11 = .ok (.if_icmp .ge 52, 3) := by decide +kernel
theorem dX7_dissolve_14 : decode cX7_dissolve 14 = .ok (.aload_n 0, 1) := by decide +kernel
theorem dX7_dissolve_15 : decode cX7_dissolve 15 = .ok (.getfield 30, 3) := by decide +kernel
theorem dX7_dissolve_18 : decode cX7_dissolve 18 = .ok (.iload_n 2, 1) := by decide +kernel
theorem dX7_dissolve_19 : decode cX7_dissolve 19 = .ok (.iload_n 3, 1) := by decide +kernel
theorem dX7_dissolve_20 : decode cX7_dissolve 20 = .ok (.invokevirtual 101, 3) := by decide +kernel
theorem dX7_dissolve_23 : decode cX7_dissolve 23 = .ok (.istore 4, 2) := by decide +kernel
theorem dX7_dissolve_25 : decode cX7_dissolve 25 = .ok (.aload_n 0, 1) := by decide +kernel
theorem dX7_dissolve_26 : decode cX7_dissolve 26 = .ok (.getfield 22, 3) := by decide +kernel
theorem dX7_dissolve_29 : decode cX7_dissolve 29 = .ok (.iload_n 1, 1) := by decide +kernel
theorem dX7_dissolve_30 : decode cX7_dissolve 30 = .ok (.iconst 1, 1) := by decide +kernel
theorem dX7_dissolve_31 : decode cX7_dissolve 31 = .ok (.if_icmp .ne 12, 3) := by decide +kernel
theorem dX7_dissolve_34 : decode cX7_dissolve 34 = .ok (.iload 4, 2) := by decide +kernel
theorem dX7_dissolve_36 : decode cX7_dissolve 36 = .ok (.ifCond .ne 7, 3) := by decide +kernel
theorem dX7_dissolve_39 : decode cX7_dissolve 39 = .ok (.iconst 1, 1) := by decide +kernel
theorem dX7_dissolve_40 : decode cX7_dissolve 40 = .ok (.goto 5, 3) := by decide +kernel
theorem dX7_dissolve_43 : decode cX7_dissolve 43 = .ok (.iload 4, 2) := by decide +kernel
theorem dX7_dissolve_45 : decode cX7_dissolve 45 = .ok (.aload_n 0, 1) := by decide +kernel
theorem dX7_dissolve_46 : decode cX7_dissolve 46 = .ok (.getfield 30, 3) := by decide +kernel
theorem dX7_dissolve_49 : decode cX7_dissolve 49 = .ok (.iload_n 2, 1) := by decide +kernel
theorem dX7_dissolve_50 : decode cX7_dissolve 50 = .ok (.iload_n 3, 1) := by decide +kernel
theorem dX7_dissolve_51 : decode cX7_dissolve 51 = .ok (.invokevirtual 58, 3) := by decide +kernel
theorem dX7_dissolve_54 : decode cX7_dissolve 54 = .ok (.invokevirtual 90, 3) := by decide +kernel
theorem dX7_dissolve_57 : decode cX7_dissolve 57 = .ok (.iinc 3 1, 3) := by decide +kernel
theorem dX7_dissolve_60 : decode cX7_dissolve 60 = .ok (.goto (-58), 3) := by decide +kernel
theorem dX7_dissolve_63 : decode cX7_dissolve 63 = .ok (.return_, 1) := by decide +kernel
theorem dX7_boolOfRow_0 : decode cX7_boolOfRow 0 = .ok (.iload_n 1, 1) := by decide +kernel
theorem dX7_boolOfRow_1 : decode cX7_boolOfRow 1 = .ok (.istore_n 2, 1) := by decide +kernel
theorem dX7_boolOfRow_2 : decode cX7_boolOfRow 2 = .ok (.aload_n 0, 1) := by decide +kernel
theorem dX7_boolOfRow_3 : decode cX7_boolOfRow 3 = .ok (.getfield 22, 3) := by decide +kernel
theorem dX7_boolOfRow_6 : decode cX7_boolOfRow 6 = .ok (.iconst 3, 1) := by decide +kernel
theorem dX7_boolOfRow_7 : decode cX7_boolOfRow 7 = .ok (.invokevirtual 117, 3) := by decide +kernel
theorem dX7_boolOfRow_10 : decode cX7_boolOfRow 10 = .ok (.istore_n 3, 1) := by decide +kernel
theorem dX7_boolOfRow_11 : decode cX7_boolOfRow 11 = .ok (.iload_n 2, 1) := by decide +kernel
theorem dX7_boolOfRow_12 : decode cX7_boolOfRow 12 = .ok (.iload_n 3, 1) := by decide +kernel
theorem dX7_boolOfRow_13 : decode cX7_boolOfRow 13 = .ok (.if_icmp .le 5, 3) := by decide +kernel
theorem dX7_boolOfRow_16 : decode cX7_boolOfRow 16 = .ok (.iconst (-1), 1) := by decide +kernel
theorem dX7_boolOfRow_17 : decode cX7_boolOfRow 17 = .ok (.ireturn, 1) := by decide +kernel
theorem dX7_boolOfRow_18 : decode cX7_boolOfRow 18 = .ok (.aload_n 0, 1) := by decide +kernel
theorem dX7_boolOfRow_19 : decode cX7_boolOfRow 19 = .ok (.getfield 22, 3) := by decide +kernel
theorem dX7_boolOfRow_22 : decode cX7_boolOfRow 22 = .ok (.iconst 0, 1) := by decide +kernel
theorem dX7_boolOfRow_23 : decode cX7_boolOfRow 23 = .ok (.invokevirtual 117, 3) := by decide +kernel
theorem dX7_boolOfRow_26 : decode cX7_boolOfRow 26 = .ok (.ifCond .ne 26, 3) := by decide +kernel
theorem dX7_boolOfRow_29 : decode cX7_boolOfRow 29 = .ok (.aload_n 0, 1) := by decide +kernel
theorem dX7_boolOfRow_30 : decode cX7_boolOfRow 30 = .ok (.getfield 22, 3) := by decide +kernel
theorem dX7_boolOfRow_33 : decode cX7_boolOfRow 33 = .ok (.iconst 1, 1) := by decide +kernel
theorem dX7_boolOfRow_34 : decode cX7_boolOfRow 34 = .ok (.invokevirtual 117, 3) := by decide +kernel
theorem dX7_boolOfRow_37 : decode cX7_boolOfRow 37 = .ok (.ifCond .ne 15, 3) := by decide +kernel
theorem dX7_boolOfRow_40 : decode cX7_boolOfRow 40 = .ok (.iload_n 3, 1) := by decide +kernel
theorem dX7_boolOfRow_41 : decode cX7_boolOfRow 41 = .ok (.ifCond .ne 5, 3) := by decide +kernel
theorem dX7_boolOfRow_44 : decode cX7_boolOfRow 44 = .ok (.iconst (-1), 1) := by decide +kernel
theorem dX7_boolOfRow_45 : decode cX7_boolOfRow 45 = .ok (.ireturn, 1) := by decide +kernel
theorem dX7_boolOfRow_46 : decode cX7_boolOfRow 46 = .ok (.iload_n 2, 1) := by decide +kernel
theorem dX7_boolOfRow_47 : decode cX7_boolOfRow 47 = .ok (.iconst 1, 1) := by decide +kernel
theorem dX7_boolOfRow_48 : decode cX7_boolOfRow 48 = .ok (.invokestatic 119, 3) := by decide +kernel
theorem dX7_boolOfRow_51 : decode cX7_boolOfRow 51 = .ok (.istore_n 2, 1) := by decide +kernel
theorem dX7_boolOfRow_52 : decode cX7_boolOfRow 52 = .ok (.iload_n 2, 1) := by decide +kernel
theorem dX7_boolOfRow_53 : decode cX7_boolOfRow 53 = .ok (.ifCond .le 17, 3) := by decide +kernel
theorem dX7_boolOfRow_56 : decode cX7_boolOfRow 56 = .ok (.iload_n 2, 1) := by decide +kernel
theorem dX7_boolOfRow_57 : decode cX7_boolOfRow 57 = .ok (.iload_n 3, 1) := by decide +kernel
theorem dX7_boolOfRow_58 : decode cX7_boolOfRow 58 = .ok (.if_icmp .ne 12, 3) := by decide +kernel
theorem dX7_boolOfRow_61 : decode cX7_boolOfRow 61 = .ok (.aload_n 0, 1) := by decide +kernel
theorem dX7_boolOfRow_62 : decode cX7_boolOfRow 62 = .ok (.getfield 22, 3) := by decide +kernel
theorem dX7_boolOfRow_65 : decode cX7_boolOfRow 65 = .ok (.invokevirtual 124, 3) := by decide +kernel
theorem dX7_boolOfRow_68 : decode cX7_boolOfRow 68 = .ok (.iconst 0, 1) := by decide +kernel
theorem dX7_boolOfRow_69 : decode cX7_boolOfRow 69 = .ok (.istore_n 2, 1) := by decide +kernel
theorem dX7_boolOfRow_70 : decode cX7_boolOfRow 70 = .ok (.aload_n 0, 1) := by decide +kernel
theorem dX7_boolOfRow_71 : decode cX7_boolOfRow 71 = .ok (.getfield 22, 3) := by decide +kernel
theorem dX7_boolOfRow_74 : decode cX7_boolOfRow 74 = .ok (.invokevirtual 127, 3) := by decide +kernel
theorem dX7_boolOfRow_77 : decode cX7_boolOfRow 77 = .ok (.ifCond .eq 5, 3) := by decide +kernel
theorem dX7_boolOfRow_80 : decode cX7_boolOfRow 80 = .ok (.iconst (-1), 1) := by decide +kernel
theorem dX7_boolOfRow_81 : decode cX7_boolOfRow 81 = .ok (.ireturn, 1) := by decide +kernel
theorem dX7_boolOfRow_82 : decode cX7_boolOfRow 82 = .ok (.aload_n 0, 1) := by decide +kernel
theorem dX7_boolOfRow_83 : decode cX7_boolOfRow 83 = .ok (.getfield 22, 3) := by decide +kernel
theorem dX7_boolOfRow_86 : decode cX7_boolOfRow 86 = .ok (.invokevirtual 131, 3) := by decide +kernel
theorem dX7_boolOfRow_89 : decode cX7_boolOfRow 89 = .ok (.aload_n 0, 1) := by decide +kernel
theorem dX7_boolOfRow_90 : decode cX7_boolOfRow 90 = .ok (.getfield 22, 3) := by decide +kernel
theorem dX7_boolOfRow_93 : decode cX7_boolOfRow 93 = .ok (.invokevirtual 94, 3) := by decide +kernel
theorem dX7_boolOfRow_96 : decode cX7_boolOfRow 96 = .ok (.iconst 1, 1) := by decide +kernel
theorem dX7_boolOfRow_97 : decode cX7_boolOfRow 97 = .ok (.if_icmp .ne 23, 3) := by decide +kernel
theorem dX7_boolOfRow_100 : decode cX7_boolOfRow 100 = .ok (.aload_n 0, 1) := by decide +kernel
theorem dX7_boolOfRow_101 : decode cX7_boolOfRow 101 = .ok (.getfield 22, 3) := by decide +kernel
theorem dX7_boolOfRow_104 : decode cX7_boolOfRow 104 = .ok (.iconst 0, 1) := by decide +kernel
theorem dX7_boolOfRow_105 : decode cX7_boolOfRow 105 = .ok (.invokevirtual 134, 3) := by decide +kernel
theorem dX7_boolOfRow_108 : decode cX7_boolOfRow 108 = .ok (.ifCond .ne 12, 3) := by decide +kernel
theorem dX7_boolOfRow_111 : decode cX7_boolOfRow 111 = .ok (.aload_n 0, 1) := by decide +kernel
theorem dX7_boolOfRow_112 : decode cX7_boolOfRow 112 = .ok (.getfield 22, 3) := by decide +kernel
theorem dX7_boolOfRow_115 : decode cX7_boolOfRow 115 = .ok (.iconst 0, 1) := by decide +kernel
theorem dX7_boolOfRow_116 : decode cX7_boolOfRow 116 = .ok (.invokevirtual 96, 3) := by decide +kernel
theorem dX7_boolOfRow_119 : decode cX7_boolOfRow 119 = .ok (.ireturn, 1) := by decide +kernel
