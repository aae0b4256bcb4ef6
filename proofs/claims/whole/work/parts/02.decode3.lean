theorem dX7_boolOfRow_120 : decode cX7_boolOfRow 120 = .ok (.aload_n 0, 1) := by decide +kernel
theorem dX7_boolOfRow_121 : decode cX7_boolOfRow 121 = .ok (.iconst 2, 1) := by decide +kernel
theorem dX7_boolOfRow_122 : decode cX7_boolOfRow 122 = .ok (.iload_n 2, 1) := by decide +kernel
theorem dX7_boolOfRow_123 : decode cX7_boolOfRow 123 = .ok (.invokevirtual 98, 3) := by decide +kernel
theorem dX7_boolOfRow_126 : decode cX7_boolOfRow 126 = .ok (.ireturn, 1) := by decide +kernel
theorem dX7_thatIsSo_0 : decode cX7_thatIsSo 0 = .ok (.iconst 0, 1) := by decide +kernel
theorem dX7_thatIsSo_1 : decode cX7_thatIsSo 1 = .ok (.istore 4, 2) := by decide +kernel
theorem dX7_thatIsSo_3 : decode cX7_thatIsSo 3 = .ok (.iload 4, 2) := by decide +kernel
theorem dX7_thatIsSo_5 : decode cX7_thatIsSo 5 = .ok (.aload_n 0, 1) := by decide +kernel
theorem dX7_thatIsSo_6 : decode cX7_thatIsSo 6 = .ok (.getfield 30, 3) := by decide +kernel
theorem dX7_thatIsSo_9 : decode cX7_thatIsSo 9 = .ok (.invokevirtual 34, 3) := by decide +kernel
theorem dX7_thatIsSo_12 : decode cX7_thatIsSo 12 = .ok (.if_icmp .ge 27, 3) := by decide +kernel
theorem dX7_thatIsSo_15 : decode cX7_thatIsSo 15 = .ok (.aload_n 0, 1) := by decide +kernel
theorem dX7_thatIsSo_16 : decode cX7_thatIsSo 16 = .ok (.getfield 30, 3) := by decide +kernel
theorem dX7_thatIsSo_19 : decode cX7_thatIsSo 19 = .ok (.iload 4, 2) := by decide +kernel
theorem dX7_thatIsSo_21 : decode cX7_thatIsSo 21 = .ok (.iload_n 1, 1) := by decide +kernel
theorem dX7_thatIsSo_22 : decode cX7_thatIsSo 22 = .ok (.iload_n 2, 1) := by decide +kernel
theorem dX7_thatIsSo_23 : decode cX7_thatIsSo 23 = .ok (.iload_n 3, 1) := by decide +kernel
theorem dX7_thatIsSo_24 : decode cX7_thatIsSo 24 = .ok (.invokevirtual 136, 3) := by decide +kernel
theorem dX7_thatIsSo_27 : decode cX7_thatIsSo 27 = .ok (.ifCond .eq 6, 3) := by decide +kernel
theorem dX7_thatIsSo_30 : decode cX7_thatIsSo 30 = .ok (.iload 4, 2) := by decide +kernel
theorem dX7_thatIsSo_32 : decode cX7_thatIsSo 32 = .ok (.ireturn, 1) := by decide +kernel
theorem dX7_thatIsSo_33 : decode cX7_thatIsSo 33 = .ok (.iinc 4 1, 3) := by decide +kernel
theorem dX7_thatIsSo_36 : decode cX7_thatIsSo 36 = .ok (.goto (-33), 3) := by decide +kernel
theorem dX7_thatIsSo_39 : decode cX7_thatIsSo 39 = .ok (.aload_n 0, 1) := by decide +kernel
theorem dX7_thatIsSo_40 : decode cX7_thatIsSo 40 = .ok (.getfield 30, 3) := by decide +kernel
theorem dX7_thatIsSo_43 : decode cX7_thatIsSo 43 = .ok (.iload_n 1, 1) := by decide +kernel
theorem dX7_thatIsSo_44 : decode cX7_thatIsSo 44 = .ok (.iload_n 2, 1) := by decide +kernel
theorem dX7_thatIsSo_45 : decode cX7_thatIsSo 45 = .ok (.iload_n 3, 1) := by decide +kernel
theorem dX7_thatIsSo_46 : decode cX7_thatIsSo 46 = .ok (.invokevirtual 140, 3) := by decide +kernel
theorem dX7_thatIsSo_49 : decode cX7_thatIsSo 49 = .ok (.ireturn, 1) := by decide +kernel
theorem dX7_thatIsSoWithRow_0 : decode cX7_thatIsSoWithRow 0 = .ok (.iconst 0, 1) := by decide +kernel
theorem dX7_thatIsSoWithRow_1 : decode cX7_thatIsSoWithRow 1 = .ok (.istore_n 3, 1) := by decide +kernel
theorem dX7_thatIsSoWithRow_2 : decode cX7_thatIsSoWithRow 2 = .ok (.iload_n 3, 1) := by decide +kernel
theorem dX7_thatIsSoWithRow_3 : decode cX7_thatIsSoWithRow 3 = .ok (.aload_n 0, 1) := by decide +kernel
theorem dX7_thatIsSoWithRow_4 : decode cX7_thatIsSoWithRow 4 = .ok (.getfield 30, 3) := by decide +kernel
theorem dX7_thatIsSoWithRow_7 : decode cX7_thatIsSoWithRow 7 = .ok (.invokevirtual 34, 3) := by decide +kernel
theorem dX7_thatIsSoWithRow_10 : decode cX7_thatIsSoWithRow 10 = .ok (.if_icmp .ge 33, 3) := by decide +kernel
theorem dX7_thatIsSoWithRow_13 : decode cX7_thatIsSoWithRow 13 = .ok (.aload_n 0, 1) := by decide +kernel
theorem dX7_thatIsSoWithRow_14 : decode cX7_thatIsSoWithRow 14 = .ok (.getfield 30, 3) := by decide +kernel
theorem dX7_thatIsSoWithRow_17 : decode cX7_thatIsSoWithRow 17 = .ok (.iload_n 3, 1) := by decide +kernel
theorem dX7_thatIsSoWithRow_18 : decode cX7_thatIsSoWithRow 18 = .ok (.iload_n 1, 1) := by decide +kernel
theorem dX7_thatIsSoWithRow_19 : decode cX7_thatIsSoWithRow 19 = .ok (.iload_n 2, 1) := by decide +kernel
theorem dX7_thatIsSoWithRow_20 : decode cX7_thatIsSoWithRow 20 = .ok (.iconst 0, 1) := by decide +kernel
theorem dX7_thatIsSoWithRow_21 : decode cX7_thatIsSoWithRow 21 = .ok (.invokevirtual 136, 3) := by decide +kernel
theorem dX7_thatIsSoWithRow_24 : decode cX7_thatIsSoWithRow 24 = .ok (.ifCond .eq 13, 3) := by decide +kernel
theorem dX7_thatIsSoWithRow_27 : decode cX7_thatIsSoWithRow 27 = .ok (.aload_n 0, 1) := by decide +kernel
theorem dX7_thatIsSoWithRow_28 : decode cX7_thatIsSoWithRow 28 = .ok (.iload_n 3, 1) := by decide +kernel
theorem dX7_thatIsSoWithRow_29 : decode cX7_thatIsSoWithRow 29 = .ok (.invokevirtual 143, 3) := by decide +kernel
theorem dX7_thatIsSoWithRow_32 : decode cX7_thatIsSoWithRow 32 = .ok (.ifCond .eq 5, 3) := by decide +kernel
theorem dX7_thatIsSoWithRow_35 : decode cX7_thatIsSoWithRow 35 = .ok (.iload_n 3, 1) := by decide +kernel
theorem dX7_thatIsSoWithRow_36 : decode cX7_thatIsSoWithRow 36 = .ok (.ireturn, 1) := by decide +kernel
theorem dX7_thatIsSoWithRow_37 : decode cX7_thatIsSoWithRow 37 = .ok (.iinc 3 1, 3) := by decide +kernel
theorem dX7_thatIsSoWithRow_40 : decode cX7_thatIsSoWithRow 40 = .ok (.goto (-38), 3) := by decide +kernel
theorem dX7_thatIsSoWithRow_43 : decode cX7_thatIsSoWithRow 43 = .ok (.aload_n 0, 1) := by decide +kernel
theorem dX7_thatIsSoWithRow_44 : decode cX7_thatIsSoWithRow 44 = .ok (.getfield 30, 3) := by decide +kernel
theorem dX7_thatIsSoWithRow_47 : decode cX7_thatIsSoWithRow 47 = .ok (.iload_n 1, 1) := by decide +kernel
theorem dX7_thatIsSoWithRow_48 : decode cX7_thatIsSoWithRow 48 = .ok (.iload_n 2, 1) := by decide +kernel
theorem dX7_thatIsSoWithRow_49 : decode cX7_thatIsSoWithRow 49 = .ok (.iconst 0, 1) := by decide +kernel
theorem dX7_thatIsSoWithRow_50 : decode cX7_thatIsSoWithRow 50 = .ok (.invokevirtual 140, 3) := by decide +kernel
theorem dX7_thatIsSoWithRow_53 : decode cX7_thatIsSoWithRow 53 = .ok (.istore_n 3, 1) := by decide +kernel
theorem dX7_thatIsSoWithRow_54 : decode cX7_thatIsSoWithRow 54 = .ok (.iconst 0, 1) := by decide +kernel
theorem dX7_thatIsSoWithRow_55 : decode cX7_thatIsSoWithRow 55 = .ok (.istore 4, 2) := by decide +kernel
theorem dX7_thatIsSoWithRow_57 : decode cX7_thatIsSoWithRow 57 = .ok (.iload_n 3, 1) := by decide +kernel
theorem dX7_thatIsSoWithRow_58 : decode cX7_thatIsSoWithRow 58 = .ok (.ifCond .lt 48, 3) := by decide +kernel
theorem dX7_thatIsSoWithRow_61 : decode cX7_thatIsSoWithRow 61 = .ok (.iload 4, 2) := by decide +kernel
theorem dX7_thatIsSoWithRow_63 : decode cX7_thatIsSoWithRow 63 = .ok (.aload_n 0, 1) := by decide +kernel
theorem dX7_thatIsSoWithRow_64 : decode cX7_thatIsSoWithRow 64 = .ok (.getfield 22, 3) := by decide +kernel
theorem dX7_thatIsSoWithRow_67 : decode cX7_thatIsSoWithRow 67 = .ok (.invokevirtual 94, 3) := by decide +kernel
theorem dX7_thatIsSoWithRow_70 : decode cX7_thatIsSoWithRow 70 = .ok (.if_icmp .ge 36, 3) := by decide +kernel
theorem dX7_thatIsSoWithRow_73 : decode cX7_thatIsSoWithRow 73 = .ok (.aload_n 0, 1) := by decide +kernel
theorem dX7_thatIsSoWithRow_74 : decode cX7_thatIsSoWithRow 74 = .ok (.getfield 30, 3) := by decide +kernel
theorem dX7_thatIsSoWithRow_77 : decode cX7_thatIsSoWithRow 77 = .ok (.iload_n 3, 1) := by decide +kernel
theorem dX7_thatIsSoWithRow_78 : decode cX7_thatIsSoWithRow 78 = .ok (.aload_n 0, 1) := by decide +kernel
theorem dX7_thatIsSoWithRow_79 : decode cX7_thatIsSoWithRow 79 = .ok (.getfield 22, 3) := by decide +kernel
theorem dX7_thatIsSoWithRow_82 : decode cX7_thatIsSoWithRow 82 = .ok (.iload 4, 2) := by decide +kernel
theorem dX7_thatIsSoWithRow_84 : decode cX7_thatIsSoWithRow 84 = .ok (.invokevirtual 134, 3) := by decide +kernel
theorem dX7_thatIsSoWithRow_87 : decode cX7_thatIsSoWithRow 87 = .ok (.aload_n 0, 1) := by decide +kernel
theorem dX7_thatIsSoWithRow_88 : decode cX7_thatIsSoWithRow 88 = .ok (.getfield 22, 3) := by decide +kernel
theorem dX7_thatIsSoWithRow_91 : decode cX7_thatIsSoWithRow 91 = .ok (.iload 4, 2) := by decide +kernel
theorem dX7_thatIsSoWithRow_93 : decode cX7_thatIsSoWithRow 93 = .ok (.invokevirtual 96, 3) := by decide +kernel
theorem dX7_thatIsSoWithRow_96 : decode cX7_thatIsSoWithRow 96 = .ok (.invokevirtual 146, 3) := by decide +kernel
theorem dX7_thatIsSoWithRow_99 : decode cX7_thatIsSoWithRow 99 = .ok (.pop, 1) := by decide +kernel
theorem dX7_thatIsSoWithRow_100 : decode cX7_thatIsSoWithRow 100 = .ok (.iinc 4 1, 3) := by decide +kernel
theorem dX7_thatIsSoWithRow_103 : decode cX7_thatIsSoWithRow 103 = .ok (.goto (-46), 3) := by decide +kernel
theorem dX7_thatIsSoWithRow_106 : decode cX7_thatIsSoWithRow 106 = .ok (.iload_n 3, 1) := by decide +kernel
theorem dX7_thatIsSoWithRow_107 : decode cX7_thatIsSoWithRow 107 = .ok (.ireturn, 1) := by decide +kernel
theorem dX7_hasPartsOfRow_0 : decode cX7_hasPartsOfRow 0 = .ok (.aload_n 0, 1) := by decide +kernel
theorem dX7_hasPartsOfRow_1 : decode cX7_hasPartsOfRow 1 = .ok (.getfield 30, 3) := by decide +kernel
theorem dX7_hasPartsOfRow_4 : decode cX7_hasPartsOfRow 4 = .ok (.iload_n 1, 1) := by decide +kernel
theorem dX7_hasPartsOfRow_5 : decode cX7_hasPartsOfRow 5 = .ok (.invokevirtual 55, 3) := by decide +kernel
theorem dX7_hasPartsOfRow_8 : decode cX7_hasPartsOfRow 8 = .ok (.aload_n 0, 1) := by decide +kernel
theorem dX7_hasPartsOfRow_9 : decode cX7_hasPartsOfRow 9 = .ok (.getfield 22, 3) := by decide +kernel
theorem dX7_hasPartsOfRow_12 : decode cX7_hasPartsOfRow 12 = .ok (.invokevirtual 94, 3) := by decide +kernel
theorem dX7_hasPartsOfRow_15 : decode cX7_hasPartsOfRow 15 = .ok (.if_icmp .eq 5, 3) := by decide +kernel
theorem dX7_hasPartsOfRow_18 : decode cX7_hasPartsOfRow 18 = .ok (.iconst 0, 1) := by decide +kernel
theorem dX7_hasPartsOfRow_19 : decode cX7_hasPartsOfRow 19 = .ok (.ireturn, 1) := by decide +kernel
theorem dX7_hasPartsOfRow_20 : decode cX7_hasPartsOfRow 20 = .ok (.iconst 0, 1) := by decide +kernel
theorem dX7_hasPartsOfRow_21 : decode cX7_hasPartsOfRow 21 = .ok (.istore_n 2, 1) := by decide +kernel
theorem dX7_hasPartsOfRow_22 : decode cX7_hasPartsOfRow 22 = .ok (.iload_n 2, 1) := by decide +kernel
theorem dX7_hasPartsOfRow_23 : decode cX7_hasPartsOfRow 23 = .ok (.aload_n 0, 1) := by decide +kernel
theorem dX7_hasPartsOfRow_24 : decode cX7_hasPartsOfRow 24 = .ok (.getfield 22, 3) := by decide +kernel
theorem dX7_hasPartsOfRow_27 : decode cX7_hasPartsOfRow 27 = .ok (.invokevirtual 94, 3) := by decide +kernel
theorem dX7_hasPartsOfRow_30 : decode cX7_hasPartsOfRow 30 = .ok (.if_icmp .ge 51, 3) := by decide +kernel
theorem dX7_hasPartsOfRow_33 : decode cX7_hasPartsOfRow 33 = .ok (.aload_n 0, 1) := by decide +kernel
theorem dX7_hasPartsOfRow_34 : decode cX7_hasPartsOfRow 34 = .ok (.getfield 30, 3) := by decide +kernel
theorem dX7_hasPartsOfRow_37 : decode cX7_hasPartsOfRow 37 = .ok (.iload_n 1, 1) := by decide +kernel
theorem dX7_hasPartsOfRow_38 : decode cX7_hasPartsOfRow 38 = .ok (.iload_n 2, 1) := by decide +kernel
theorem dX7_hasPartsOfRow_39 : decode cX7_hasPartsOfRow 39 = .ok (.invokevirtual 101, 3) := by decide +kernel
theorem dX7_hasPartsOfRow_42 : decode cX7_hasPartsOfRow 42 = .ok (.aload_n 0, 1) := by decide +kernel
theorem dX7_hasPartsOfRow_43 : decode cX7_hasPartsOfRow 43 = .ok (.getfield 22, 3) := by decide +kernel
theorem dX7_hasPartsOfRow_46 : decode cX7_hasPartsOfRow 46 = .ok (.iload_n 2, 1) := by decide +kernel
theorem dX7_hasPartsOfRow_47 : decode cX7_hasPartsOfRow 47 = .ok (.invokevirtual 134, 3) := by decide +kernel
theorem dX7_hasPartsOfRow_50 : decode cX7_hasPartsOfRow 50 = .ok (.if_icmp .ne 23, 3) := by decide +kernel
theorem dX7_hasPartsOfRow_53 : decode cX7_hasPartsOfRow 53 = .ok (.aload_n 0, 1) := by decide +kernel
theorem dX7_hasPartsOfRow_54 : decode cX7_hasPartsOfRow 54 = .ok (.getfield 30, 3) := by decide +kernel
theorem dX7_hasPartsOfRow_57 : decode cX7_hasPartsOfRow 57 = .ok (.iload_n 1, 1) := by decide +kernel
theorem dX7_hasPartsOfRow_58 : decode cX7_hasPartsOfRow 58 = .ok (.iload_n 2, 1) := by decide +kernel
theorem dX7_hasPartsOfRow_59 : decode cX7_hasPartsOfRow 59 = .ok (.invokevirtual 58, 3) := by decide +kernel
theorem dX7_hasPartsOfRow_62 : decode cX7_hasPartsOfRow 62 = .ok (.aload_n 0, 1) := by decide +kernel
theorem dX7_hasPartsOfRow_63 : decode cX7_hasPartsOfRow 63 = .ok (.getfield 22, 3) := by decide +kernel
theorem dX7_hasPartsOfRow_66 : decode cX7_hasPartsOfRow 66 = .ok (.iload_n 2, 1) := by decide +kernel
theorem dX7_hasPartsOfRow_67 : decode cX7_hasPartsOfRow 67 = .ok (.invokevirtual 96, 3) := by decide +kernel
theorem dX7_hasPartsOfRow_70 : decode cX7_hasPartsOfRow 70 = .ok (.if_icmp .eq 5, 3) := by decide +kernel
theorem dX7_hasPartsOfRow_73 : decode cX7_hasPartsOfRow 73 = .ok (.iconst 0, 1) := by decide +kernel
theorem dX7_hasPartsOfRow_74 : decode cX7_hasPartsOfRow 74 = .ok (.ireturn, 1) := by decide +kernel
theorem dX7_hasPartsOfRow_75 : decode cX7_hasPartsOfRow 75 = .ok (.iinc 2 1, 3) := by decide +kernel
theorem dX7_hasPartsOfRow_78 : decode cX7_hasPartsOfRow 78 = .ok (.goto (-56), 3) := by decide +kernel
theorem dX7_hasPartsOfRow_81 : decode cX7_hasPartsOfRow 81 = .ok (.iconst 1, 1) := by decide +kernel
theorem dX7_hasPartsOfRow_82 : decode cX7_hasPartsOfRow 82 = .ok (.ireturn, 1) := by decide +kernel
theorem dX8_init_0 : decode cX8_init 0 = .ok (.aload_n 0, 1) := by decide +kernel
theorem dX8_init_1 : decode cX8_init 1 = .ok (.invokespecial 3, 3) := by decide +kernel
theorem dX8_init_4 : decode cX8_init 4 = .ok (.aload_n 0, 1) := by decide +kernel
theorem dX8_init_5 : decode cX8_init 5 = .ok (.sipush 640, 3) := by decide +kernel
theorem dX8_init_8 : decode cX8_init 8 = .ok (.newarray .long, 2) := by decide +kernel
theorem dX8_init_10 : decode cX8_init 10 = .ok (.putfield 9, 3) := by decide +kernel
theorem dX8_init_13 : decode cX8_init 13 = .ok (.return_, 1) := by decide +kernel
theorem dX8_has_0 : decode cX8_has 0 = .ok (.aload_n 0, 1) := by decide +kernel
theorem dX8_has_1 : decode cX8_has 1 = .ok (.getfield 9, 3) := by decide +kernel
theorem dX8_has_4 : decode cX8_has 4 = .ok (.iload_n 1, 1) := by decide +kernel
theorem dX8_has_5 : decode cX8_has 5 = .ok (.bipush 8, 2) := by decide +kernel
theorem dX8_has_7 : decode cX8_has 7 = .ok (.imul, 1) := by decide +kernel
theorem dX8_has_8 : decode cX8_has 8 = .ok (.iload_n 2, 1) := by decide +kernel
theorem dX8_has_9 : decode cX8_has 9 = .ok (.bipush 6, 2) := by decide +kernel
theorem dX8_has_11 : decode cX8_has 11 = .ok (.ishr, 1) := by decide +kernel
theorem dX8_has_12 : decode cX8_has 12 = .ok (.iadd, 1) := by decide +kernel
theorem dX8_has_13 : decode cX8_has 13 = .ok (.laload, 1) := by decide +kernel
theorem dX8_has_14 : decode cX8_has 14 = .ok (.iload_n 2, 1) := by decide +kernel
theorem dX8_has_15 : decode cX8_has 15 = .ok (.bipush 63, 2) := by decide +kernel
theorem dX8_has_17 : decode cX8_has 17 = .ok (.iand, 1) := by decide +kernel
theorem dX8_has_18 : decode cX8_has 18 = .ok (.lushr, 1) := by decide +kernel
theorem dX8_has_19 : decode cX8_has 19 = .ok (.lconst 1, 1) := by decide +kernel
theorem dX8_has_20 : decode cX8_has 20 = .ok (.land, 1) := by decide +kernel
theorem dX8_has_21 : decode cX8_has 21 = .ok (.lconst 0, 1) := by decide +kernel
theorem dX8_has_22 : decode cX8_has 22 = .ok (.lcmp, 1) := by decide +kernel
theorem dX8_has_23 : decode cX8_has 23 = .ok (.ifCond .eq 7, 3) := by decide +kernel
theorem dX8_has_26 : decode cX8_has 26 = .ok (.iconst 1, 1) := by decide +kernel
theorem dX8_has_27 : decode cX8_has 27 = .ok (.goto 4, 3) := by decide +kernel
theorem dX8_has_30 : decode cX8_has 30 = .ok (.iconst 0, 1) := by decide +kernel
theorem dX8_has_31 : decode cX8_has 31 = .ok (.ireturn, 1) := by decide +kernel
theorem dX8_add_0 : decode cX8_add 0 = .ok (.aload_n 0, 1) := by decide +kernel
theorem dX8_add_1 : decode cX8_add 1 = .ok (.getfield 9, 3) := by decide +kernel
theorem dX8_add_4 : decode cX8_add 4 = .ok (.iload_n 1, 1) := by decide +kernel
theorem dX8_add_5 : decode cX8_add 5 = .ok (.bipush 8, 2) := by decide +kernel
theorem dX8_add_7 : decode cX8_add 7 = .ok (.imul, 1) := by decide +kernel
theorem dX8_add_8 : decode cX8_add 8 = .ok (.iload_n 2, 1) := by decide +kernel
theorem dX8_add_9 : decode cX8_add 9 = .ok (.bipush 6, 2) := by decide +kernel
theorem dX8_add_11 : decode cX8_add 11 = .ok (.ishr, 1) := by decide +kernel
theorem dX8_add_12 : decode cX8_add 12 = .ok (.iadd, 1) := by decide +kernel
theorem dX8_add_13 : decode cX8_add 13 = .ok (.dup2, 1) := by decide +kernel
theorem dX8_add_14 : decode cX8_add 14 = .ok (.laload, 1) := by decide +kernel
theorem dX8_add_15 : decode cX8_add 15 = .ok (.lconst 1, 1) := by decide +kernel
theorem dX8_add_16 : decode cX8_add 16 = .ok (.iload_n 2, 1) := by decide +kernel
theorem dX8_add_17 : decode cX8_add 17 = .ok (.bipush 63, 2) := by decide +kernel
theorem dX8_add_19 : decode cX8_add 19 = .ok (.iand, 1) := by decide +kernel
theorem dX8_add_20 : decode cX8_add 20 = .ok (.lshl, 1) := by decide +kernel
theorem dX8_add_21 : decode cX8_add 21 = .ok (.lor, 1) := by decide +kernel
theorem dX8_add_22 : decode cX8_add 22 = .ok (.lastore, 1) := by decide +kernel
theorem dX8_add_23 : decode cX8_add 23 = .ok (.return_, 1) := by decide +kernel
theorem dX8_clear_0 : decode cX8_clear 0 = .ok (.iconst 0, 1) := by decide +kernel
theorem dX8_clear_1 : decode cX8_clear 1 = .ok (.istore_n 2, 1) := by decide +kernel
theorem dX8_clear_2 : decode cX8_clear 2 = .ok (.iload_n 2, 1) := by decide +kernel
theorem dX8_clear_3 : decode cX8_clear 3 = .ok (.bipush 8, 2) := by decide +kernel
theorem dX8_clear_5 : decode cX8_clear 5 = .ok (.if_icmp .ge 21, 3) := by decide +kernel
theorem dX8_clear_8 : decode cX8_clear 8 = .ok (.aload_n 0, 1) := by decide +kernel
theorem dX8_clear_9 : decode cX8_clear 9 = .ok (.getfield 9, 3) := by decide +kernel
theorem dX8_clear_12 : decode cX8_clear 12 = .ok (.iload_n 1, 1) := by decide +kernel
theorem dX8_clear_13 : decode cX8_clear 13 = .ok (.bipush 8, 2) := by decide +kernel
theorem dX8_clear_15 : decode cX8_clear 15 = .ok (.imul, 1) := by decide +kernel
theorem dX8_clear_16 : decode cX8_clear 16 = .ok (.iload_n 2, 1) := by decide +kernel
theorem dX8_clear_17 : decode cX8_clear 17 = .ok (.iadd, 1) := by decide +kernel
theorem dX8_clear_18 : decode cX8_clear 18 = .ok (.lconst 0, 1) := by decide +kernel
theorem dX8_clear_19 : decode cX8_clear 19 = .ok (.lastore, 1) := by decide +kernel
theorem dX8_clear_20 : decode cX8_clear 20 = .ok (.iinc 2 1, 3) := by decide +kernel
theorem dX8_clear_23 : decode cX8_clear 23 = .ok (.goto (-21), 3) := by decide +kernel
theorem dX8_clear_26 : decode cX8_clear 26 = .ok (.return_, 1) := by decide +kernel
theorem dX8_join_0 : decode cX8_join 0 = .ok (.iconst 0, 1) := by decide +kernel
theorem dX8_join_1 : decode cX8_join 1 = .ok (.istore 4, 2) := by decide +kernel
theorem dX8_join_3 : decode cX8_join 3 = .ok (.iload 4, 2) := by decide +kernel
theorem dX8_join_5 : decode cX8_join 5 = .ok (.bipush 8, 2) := by decide +kernel
theorem dX8_join_7 : decode cX8_join 7 = .ok (.if_icmp .ge 36, 3) := by decide +kernel
theorem dX8_join_10 : decode cX8_join 10 = .ok (.aload_n 0, 1) := by decide +kernel
theorem dX8_join_11 : decode cX8_join 11 = .ok (.getfield 9, 3) := by decide +kernel
theorem dX8_join_14 : decode cX8_join 14 = .ok (.iload_n 1, 1) := by decide +kernel
theorem dX8_join_15 : decode cX8_join 15 = .ok (.bipush 8, 2) := by decide +kernel
theorem dX8_join_17 : decode cX8_join 17 = .ok (.imul, 1) := by decide +kernel
theorem dX8_join_18 : decode cX8_join 18 = .ok (.iload 4, 2) := by decide +kernel
theorem dX8_join_20 : decode cX8_join 20 = .ok (.iadd, 1) := by decide +kernel
theorem dX8_join_21 : decode cX8_join 21 = .ok (.dup2, 1) := by decide +kernel
theorem dX8_join_22 : decode cX8_join 22 = .ok (.laload, 1) := by decide +kernel
theorem dX8_join_23 : decode cX8_join 23 = .ok (.aload_n 2, 1) := by decide +kernel
theorem dX8_join_24 : decode cX8_join 24 = .ok (.getfield 9, 3) := by decide +kernel
theorem dX8_join_27 : decode cX8_join 27 = .ok (.iload_n 3, 1) := by decide +kernel
theorem dX8_join_28 : decode cX8_join 28 = .ok (.bipush 8, 2) := by decide +kernel
theorem dX8_join_30 : decode cX8_join 30 = .ok (.imul, 1) := by decide +kernel
theorem dX8_join_31 : decode cX8_join 31 = .ok (.iload 4, 2) := by decide +kernel
theorem dX8_join_33 : decode cX8_join 33 = .ok (.iadd, 1) := by decide +kernel
theorem dX8_join_34 : decode cX8_join 34 = .ok (.laload, 1) := by decide +kernel
theorem dX8_join_35 : decode cX8_join 35 = .ok (.lor, 1) := by decide +kernel
theorem dX8_join_36 : decode cX8_join 36 = .ok (.lastore, 1) := by decide +kernel
theorem dX8_join_37 : decode cX8_join 37 = .ok (.iinc 4 1, 3) := by decide +kernel
theorem dX8_join_40 : decode cX8_join 40 = .ok (.goto (-37), 3) := by decide +kernel
theorem dX8_join_43 : decode cX8_join 43 = .ok (.return_, 1) := by decide +kernel
theorem dX8_word_0 : decode cX8_word 0 = .ok (.aload_n 0, 1) := by decide +kernel
theorem dX8_word_1 : decode cX8_word 1 = .ok (.getfield 9, 3) := by decide +kernel
theorem dX8_word_4 : decode cX8_word 4 = .ok (.iload_n 1, 1) := by decide +kernel
theorem dX8_word_5 : decode cX8_word 5 = .ok (.bipush 8, 2) := by decide +kernel
theorem dX8_word_7 : decode cX8_word 7 = .ok (.imul, 1) := by decide +kernel
theorem dX8_word_8 : decode cX8_word 8 = .ok (.iload_n 2, 1) := by decide +kernel
theorem dX8_word_9 : decode cX8_word 9 = .ok (.iadd, 1) := by decide +kernel
theorem dX8_word_10 : decode cX8_word 10 = .ok (.laload, 1) := by decide +kernel
theorem dX8_word_11 : decode cX8_word 11 = .ok (.lreturn, 1) := by decide +kernel
theorem dX8_setWord_0 : decode cX8_setWord 0 = .ok (.aload_n 0, 1) := by decide +kernel
theorem dX8_setWord_1 : decode cX8_setWord 1 = .ok (.getfield 9, 3) := by decide +kernel
theorem dX8_setWord_4 : decode cX8_setWord 4 = .ok (.iload_n 1, 1) := by decide +kernel
theorem dX8_setWord_5 : decode cX8_setWord 5 = .ok (.bipush 8, 2) := by decide +kernel
theorem dX8_setWord_7 : decode cX8_setWord 7 = .ok (.imul, 1) := by decide +kernel
theorem dX8_setWord_8 : decode cX8_setWord 8 = .ok (.iload_n 2, 1) := by decide +kernel
theorem dX8_setWord_9 : decode cX8_setWord 9 = .ok (.iadd, 1) := by decide +kernel
theorem dX8_setWord_10 : decode cX8_setWord 10 = .ok (.lload_n 3, 1) := by decide +kernel
theorem dX8_setWord_11 : decode cX8_setWord 11 = .ok (.lastore, 1) := by decide +kernel
theorem dX8_setWord_12 : decode cX8_setWord 12 = .ok (.return_, 1) := by decide +kernel
theorem dX9_init_0 : decode cX9_init 0 = .ok (.aload_n 0, 1) := by decide +kernel
theorem dX9_init_1 : decode cX9_init 1 = .ok (.invokespecial 3, 3) := by decide +kernel
theorem dX9_init_4 : decode cX9_init 4 = .ok (.aload_n 0, 1) := by decide +kernel
theorem dX9_init_5 : decode cX9_init 5 = .ok (.new 9, 3) := by decide +kernel
theorem dX9_init_8 : decode cX9_init 8 = .ok (.dup, 1) := by decide +kernel
theorem dX9_init_9 : decode cX9_init 9 = .ok (.invokespecial 11, 3) := by decide +kernel
theorem dX9_init_12 : decode cX9_init 12 = .ok (.putfield 12, 3) := by decide +kernel
theorem dX9_init_15 : decode cX9_init 15 = .ok (.aload_n 0, 1) := by decide +kernel
theorem dX9_init_16 : decode cX9_init 16 = .ok (.bipush 80, 2) := by decide +kernel
theorem dX9_init_18 : decode cX9_init 18 = .ok (.newarray .boolean, 2) := by decide +kernel
theorem dX9_init_20 : decode cX9_init 20 = .ok (.putfield 18, 3) := by decide +kernel
theorem dX9_init_23 : decode cX9_init 23 = .ok (.aload_n 0, 1) := by decide +kernel
theorem dX9_init_24 : decode cX9_init 24 = .ok (.bipush 80, 2) := by decide +kernel
theorem dX9_init_26 : decode cX9_init 26 = .ok (.newarray .int, 2) := by decide +kernel
theorem dX9_init_28 : decode cX9_init 28 = .ok (.putfield 22, 3) := by decide +kernel
theorem dX9_init_31 : decode cX9_init 31 = .ok (.aload_n 0, 1) := by decide +kernel
theorem dX9_init_32 : decode cX9_init 32 = .ok (.bipush 80, 2) := by decide +kernel
theorem dX9_init_34 : decode cX9_init 34 = .ok (.newarray .boolean, 2) := by decide +kernel
theorem dX9_init_36 : decode cX9_init 36 = .ok (.putfield 26, 3) := by decide +kernel
theorem dX9_init_39 : decode cX9_init 39 = .ok (.aload_n 0, 1) := by decide +kernel
theorem dX9_init_40 : decode cX9_init 40 = .ok (.aload_n 1, 1) := by decide +kernel
theorem dX9_init_41 : decode cX9_init 41 = .ok (.putfield 29, 3) := by decide +kernel
theorem dX9_init_44 : decode cX9_init 44 = .ok (.return_, 1) := by decide +kernel
theorem dX9_isThere_0 : decode cX9_isThere 0 = .ok (.aload_n 0, 1) := by decide +kernel
theorem dX9_isThere_1 : decode cX9_isThere 1 = .ok (.getfield 18, 3) := by decide +kernel
theorem dX9_isThere_4 : decode cX9_isThere 4 = .ok (.iload_n 1, 1) := by decide +kernel
theorem dX9_isThere_5 : decode cX9_isThere 5 = .ok (.baload, 1) := by decide +kernel
theorem dX9_isThere_6 : decode cX9_isThere 6 = .ok (.ireturn, 1) := by decide +kernel
theorem dX9_size_0 : decode cX9_size 0 = .ok (.aload_n 0, 1) := by decide +kernel
theorem dX9_size_1 : decode cX9_size 1 = .ok (.getfield 22, 3) := by decide +kernel
theorem dX9_size_4 : decode cX9_size 4 = .ok (.iload_n 1, 1) := by decide +kernel
theorem dX9_size_5 : decode cX9_size 5 = .ok (.iaload, 1) := by decide +kernel
theorem dX9_size_6 : decode cX9_size 6 = .ok (.ireturn, 1) := by decide +kernel
theorem dX9_rows_0 : decode cX9_rows 0 = .ok (.aload_n 0, 1) := by decide +kernel
theorem dX9_rows_1 : decode cX9_rows 1 = .ok (.getfield 12, 3) := by decide +kernel
theorem dX9_rows_4 : decode cX9_rows 4 = .ok (.areturn, 1) := by decide +kernel
theorem dX9_begin_0 : decode cX9_begin 0 = .ok (.aload_n 0, 1) := by decide +kernel
theorem dX9_begin_1 : decode cX9_begin 1 = .ok (.getfield 18, 3) := by decide +kernel
theorem dX9_begin_4 : decode cX9_begin 4 = .ok (.iload_n 1, 1) := by decide +kernel
theorem dX9_begin_5 : decode cX9_begin 5 = .ok (.iconst 1, 1) := by decide +kernel
theorem dX9_begin_6 : decode cX9_begin 6 = .ok (.bastore, 1) := by decide +kernel
theorem dX9_begin_7 : decode cX9_begin 7 = .ok (.aload_n 0, 1) := by decide +kernel
theorem dX9_begin_8 : decode cX9_begin 8 = .ok (.getfield 22, 3) := by decide +kernel
theorem dX9_begin_11 : decode cX9_begin 11 = .ok (.iload_n 1, 1) := by decide +kernel
theorem dX9_begin_12 : decode cX9_begin 12 = .ok (.iconst 0, 1) := by decide +kernel
theorem dX9_begin_13 : decode cX9_begin 13 = .ok (.iastore, 1) := by decide +kernel
theorem dX9_begin_14 : decode cX9_begin 14 = .ok (.aload_n 0, 1) := by decide +kernel
theorem dX9_begin_15 : decode cX9_begin 15 = .ok (.getfield 12, 3) := by decide +kernel
theorem dX9_begin_18 : decode cX9_begin 18 = .ok (.iload_n 1, 1) := by decide +kernel
theorem dX9_begin_19 : decode cX9_begin 19 = .ok (.invokevirtual 33, 3) := by decide +kernel
theorem dX9_begin_22 : decode cX9_begin 22 = .ok (.return_, 1) := by decide +kernel
theorem dX9_add_0 : decode cX9_add 0 = .ok (.aload_n 0, 1) := by decide +kernel
theorem dX9_add_1 : decode cX9_add 1 = .ok (.getfield 12, 3) := by decide +kernel
theorem dX9_add_4 : decode cX9_add 4 = .ok (.iload_n 1, 1) := by decide +kernel
theorem dX9_add_5 : decode cX9_add 5 = .ok (.iload_n 2, 1) := by decide +kernel
theorem dX9_add_6 : decode cX9_add 6 = .ok (.invokevirtual 37, 3) := by decide +kernel
theorem dX9_add_9 : decode cX9_add 9 = .ok (.aload_n 0, 1) := by decide +kernel
theorem dX9_add_10 : decode cX9_add 10 = .ok (.getfield 22, 3) := by decide +kernel
theorem dX9_add_13 : decode cX9_add 13 = .ok (.iload_n 1, 1) := by decide +kernel
theorem dX9_add_14 : decode cX9_add 14 = .ok (.dup2, 1) := by decide +kernel
theorem dX9_add_15 : decode cX9_add 15 = .ok (.iaload, 1) := by decide +kernel
theorem dX9_add_16 : decode cX9_add 16 = .ok (.iconst 1, 1) := by decide +kernel
theorem dX9_add_17 : decode cX9_add 17 = .ok (.iadd, 1) := by decide +kernel
theorem dX9_add_18 : decode cX9_add 18 = .ok (.iastore, 1) := by decide +kernel
theorem dX9_add_19 : decode cX9_add 19 = .ok (.return_, 1) := by decide +kernel
theorem dX9_count_0 : decode cX9_count 0 = .ok (.iconst 0, 1) := by decide +kernel
theorem dX9_count_1 : decode cX9_count 1 = .ok (.istore_n 1, 1) := by decide +kernel
theorem dX9_count_2 : decode cX9_count 2 = .ok (.iconst 0, 1) := by decide +kernel
theorem dX9_count_3 : decode cX9_count 3 = .ok (.istore_n 2, 1) := by decide +kernel
theorem dX9_count_4 : decode cX9_count 4 = .ok (.iload_n 2, 1) := by decide +kernel
theorem dX9_count_5 : decode cX9_count 5 = .ok (.bipush 80, 2) := by decide +kernel
theorem dX9_count_7 : decode cX9_count 7 = .ok (.if_icmp .ge 21, 3) := by decide +kernel
theorem dX9_count_10 : decode cX9_count 10 = .ok (.aload_n 0, 1) := by decide +kernel
theorem dX9_count_11 : decode cX9_count 11 = .ok (.getfield 18, 3) := by decide +kernel
theorem dX9_count_14 : decode cX9_count 14 = .ok (.iload_n 2, 1) := by decide +kernel
theorem dX9_count_15 : decode cX9_count 15 = .ok (.baload, 1) := by decide +kernel
theorem dX9_count_16 : decode cX9_count 16 = .ok (.ifCond .eq 6, 3) := by decide +kernel
theorem dX9_count_19 : decode cX9_count 19 = .ok (.iinc 1 1, 3) := by decide +kernel
theorem dX9_count_22 : decode cX9_count 22 = .ok (.iinc 2 1, 3) := by decide +kernel
theorem dX9_count_25 : decode cX9_count 25 = .ok (.goto (-21), 3) := by decide +kernel
theorem dX9_count_28 : decode cX9_count 28 = .ok (.iload_n 1, 1) := by decide +kernel
theorem dX9_count_29 : decode cX9_count 29 = .ok (.ireturn, 1) := by decide +kernel
theorem dX9_dropThoseAbove_0 : decode cX9_dropThoseAbove 0 = .ok (.iconst 0, 1) := by decide +kernel
theorem dX9_dropThoseAbove_1 : decode cX9_dropThoseAbove 1 = .ok (.istore_n 2, 1) := by decide +kernel
theorem dX9_dropThoseAbove_2 : decode cX9_dropThoseAbove 2 = .ok (.iload_n 2, 1) := by decide +kernel
theorem dX9_dropThoseAbove_3 : decode cX9_dropThoseAbove 3 = .ok (.aload_n 0, 1) := by decide +kernel
theorem dX9_dropThoseAbove_4 : decode cX9_dropThoseAbove 4 = .ok (.getfield 29, 3) := by decide +kernel
theorem dX9_dropThoseAbove_7 : decode cX9_dropThoseAbove 7 = .ok (.invokevirtual 41, 3) := by decide +kernel
theorem dX9_dropThoseAbove_10 : decode cX9_dropThoseAbove 10 = .ok (.if_icmp .ge 62, 3) := by decide +kernel
theorem dX9_dropThoseAbove_13 : decode cX9_dropThoseAbove 13 = .ok (.aload_n 0, 1) := by decide +kernel
theorem dX9_dropThoseAbove_14 : decode cX9_dropThoseAbove 14 = .ok (.getfield 26, 3) := by decide +kernel
theorem dX9_dropThoseAbove_17 : decode cX9_dropThoseAbove 17 = .ok (.iload_n 2, 1) := by decide +kernel
theorem dX9_dropThoseAbove_18 : decode cX9_dropThoseAbove 18 = .ok (.iload_n 2, 1) := by decide +kernel
theorem dX9_dropThoseAbove_19 : decode cX9_dropThoseAbove 19 = .ok (.iload_n 1, 1) := by decide +kernel
theorem dX9_dropThoseAbove_20 : decode cX9_dropThoseAbove 20 = .ok (.if_icmp .eq 11, 3) := by decide +kernel
theorem dX9_dropThoseAbove_23 : decode cX9_dropThoseAbove 23 = .ok (.aload_n 0, 1) := by decide +kernel
theorem dX9_dropThoseAbove_24 : decode cX9_dropThoseAbove 24 = .ok (.iload_n 2, 1) := by decide +kernel
theorem dX9_dropThoseAbove_25 : decode cX9_dropThoseAbove 25 = .ok (.invokevirtual 47, 3) := by decide +kernel
theorem dX9_dropThoseAbove_28 : decode cX9_dropThoseAbove 28 = .ok (.ifCond .eq 7, 3) := by decide +kernel
theorem dX9_dropThoseAbove_31 : decode cX9_dropThoseAbove 31 = .ok (.iconst 1, 1) := by decide +kernel
theorem dX9_dropThoseAbove_32 : decode cX9_dropThoseAbove 32 = .ok (.goto 4, 3) := by decide +kernel
theorem dX9_dropThoseAbove_35 : decode cX9_dropThoseAbove 35 = .ok (.iconst 0, 1) := by decide +kernel
theorem dX9_dropThoseAbove_36 : decode cX9_dropThoseAbove 36 = .ok (.bastore, 1) := by decide +kernel
theorem dX9_dropThoseAbove_37 : decode cX9_dropThoseAbove 37 = .ok (.aload_n 0, 1) := by decide +kernel
theorem dX9_dropThoseAbove_38 : decode cX9_dropThoseAbove 38 = .ok (.getfield 18, 3) := by decide +kernel
theorem dX9_dropThoseAbove_41 : decode cX9_dropThoseAbove 41 = .ok (.iload_n 2, 1) := by decide +kernel
theorem dX9_dropThoseAbove_42 : decode cX9_dropThoseAbove 42 = .ok (.aload_n 0, 1) := by decide +kernel
theorem dX9_dropThoseAbove_43 : decode cX9_dropThoseAbove 43 = .ok (.getfield 18, 3) := by decide +kernel
theorem dX9_dropThoseAbove_46 : decode cX9_dropThoseAbove 46 = .ok (.iload_n 2, 1) := by decide +kernel
theorem dX9_dropThoseAbove_47 : decode cX9_dropThoseAbove 47 = .ok (.baload, 1) := by decide +kernel
theorem dX9_dropThoseAbove_48 : decode cX9_dropThoseAbove 48 = .ok (.ifCond .eq 16, 3) := by decide +kernel
theorem dX9_dropThoseAbove_51 : decode cX9_dropThoseAbove 51 = .ok (.aload_n 0, 1) := by decide +kernel
theorem dX9_dropThoseAbove_52 : decode cX9_dropThoseAbove 52 = .ok (.getfield 26, 3) := by decide +kernel
theorem dX9_dropThoseAbove_55 : decode cX9_dropThoseAbove 55 = .ok (.iload_n 2, 1) := by decide +kernel
theorem dX9_dropThoseAbove_56 : decode cX9_dropThoseAbove 56 = .ok (.baload, 1) := by decide +kernel
theorem dX9_dropThoseAbove_57 : decode cX9_dropThoseAbove 57 = .ok (.ifCond .ne 7, 3) := by decide +kernel
theorem dX9_dropThoseAbove_60 : decode cX9_dropThoseAbove 60 = .ok (.iconst 1, 1) := by decide +kernel
theorem dX9_dropThoseAbove_61 : decode cX9_dropThoseAbove 61 = .ok (.goto 4, 3) := by decide +kernel
theorem dX9_dropThoseAbove_64 : decode cX9_dropThoseAbove 64 = .ok (.iconst 0, 1) := by decide +kernel
theorem dX9_dropThoseAbove_65 : decode cX9_dropThoseAbove 65 = .ok (.bastore, 1) := by decide +kernel
theorem dX9_dropThoseAbove_66 : decode cX9_dropThoseAbove 66 = .ok (.iinc 2 1, 3) := by decide +kernel
theorem dX9_dropThoseAbove_69 : decode cX9_dropThoseAbove 69 = .ok (.goto (-67), 3) := by decide +kernel
theorem dX9_dropThoseAbove_72 : decode cX9_dropThoseAbove 72 = .ok (.return_, 1) := by decide +kernel
theorem dX9_dropThoseOverList_0 : decode cX9_dropThoseOverList 0 = .ok (.iconst 0, 1) := by decide +kernel
theorem dX9_dropThoseOverList_1 : decode cX9_dropThoseOverList 1 = .ok (.istore_n 2, 1) := by decide +kernel
theorem dX9_dropThoseOverList_2 : decode cX9_dropThoseOverList 2 = .ok (.iload_n 2, 1) := by decide +kernel
theorem dX9_dropThoseOverList_3 : decode cX9_dropThoseOverList 3 = .ok (.aload_n 0, 1) := by decide +kernel
theorem dX9_dropThoseOverList_4 : decode cX9_dropThoseOverList 4 = .ok (.getfield 29, 3) := by decide +kernel
theorem dX9_dropThoseOverList_7 : decode cX9_dropThoseOverList 7 = .ok (.invokevirtual 41, 3) := by decide +kernel
theorem dX9_dropThoseOverList_10 : decode cX9_dropThoseOverList 10 = .ok (.if_icmp .ge 71, 3) := by decide +kernel
theorem dX9_dropThoseOverList_13 : decode cX9_dropThoseOverList 13 = .ok (.aload_n 0, 1) := by decide +kernel
theorem dX9_dropThoseOverList_14 : decode cX9_dropThoseOverList 14 = .ok (.getfield 26, 3) := by decide +kernel
theorem dX9_dropThoseOverList_17 : decode cX9_dropThoseOverList 17 = .ok (.iload_n 2, 1) := by decide +kernel
theorem dX9_dropThoseOverList_18 : decode cX9_dropThoseOverList 18 = .ok (.aload_n 0, 1) := by decide +kernel
theorem dX9_dropThoseOverList_19 : decode cX9_dropThoseOverList 19 = .ok (.getfield 29, 3) := by decide +kernel
theorem dX9_dropThoseOverList_22 : decode cX9_dropThoseOverList 22 = .ok (.iload_n 2, 1) := by decide +kernel
theorem dX9_dropThoseOverList_23 : decode cX9_dropThoseOverList 23 = .ok (.iconst 0, 1) := by decide +kernel
theorem dX9_dropThoseOverList_24 : decode cX9_dropThoseOverList 24 = .ok (.iload_n 1, 1) := by decide +kernel
theorem dX9_dropThoseOverList_25 : decode cX9_dropThoseOverList 25 = .ok (.iconst 0, 1) := by decide +kernel
theorem dX9_dropThoseOverList_26 : decode cX9_dropThoseOverList 26 = .ok (.invokevirtual 51, 3) := by decide +kernel
theorem dX9_dropThoseOverList_29 : decode cX9_dropThoseOverList 29 = .ok (.ifCond .ne 11, 3) := by decide +kernel
theorem dX9_dropThoseOverList_32 : decode cX9_dropThoseOverList 32 = .ok (.aload_n 0, 1) := by decide +kernel
theorem dX9_dropThoseOverList_33 : decode cX9_dropThoseOverList 33 = .ok (.iload_n 2, 1) := by decide +kernel
theorem dX9_dropThoseOverList_34 : decode cX9_dropThoseOverList 34 = .ok (.invokevirtual 47, 3) := by decide +kernel
theorem dX9_dropThoseOverList_37 : decode cX9_dropThoseOverList 37 = .ok (.ifCond .eq 7, 3) := by decide +kernel
theorem dX9_dropThoseOverList_40 : decode cX9_dropThoseOverList 40 = .ok (.iconst 1, 1) := by decide +kernel
theorem dX9_dropThoseOverList_41 : decode cX9_dropThoseOverList 41 = .ok (.goto 4, 3) := by decide +kernel
theorem dX9_dropThoseOverList_44 : decode cX9_dropThoseOverList 44 = .ok (.iconst 0, 1) := by decide +kernel
theorem dX9_dropThoseOverList_45 : decode cX9_dropThoseOverList 45 = .ok (.bastore, 1) := by decide +kernel
theorem dX9_dropThoseOverList_46 : decode cX9_dropThoseOverList 46 = .ok (.aload_n 0, 1) := by decide +kernel
theorem dX9_dropThoseOverList_47 : decode cX9_dropThoseOverList 47 = .ok (.getfield 18, 3) := by decide +kernel
theorem dX9_dropThoseOverList_50 : decode cX9_dropThoseOverList 50 = .ok (.iload_n 2, 1) := by decide +kernel
theorem dX9_dropThoseOverList_51 : decode cX9_dropThoseOverList 51 = .ok (.aload_n 0, 1) := by decide +kernel
theorem dX9_dropThoseOverList_52 : decode cX9_dropThoseOverList 52 = .ok (.getfield 18, 3) := by decide +kernel
theorem dX9_dropThoseOverList_55 : decode cX9_dropThoseOverList 55 = .ok (.iload_n 2, 1) := by decide +kernel
theorem dX9_dropThoseOverList_56 : decode cX9_dropThoseOverList 56 = .ok (.baload, 1) := by decide +kernel
theorem dX9_dropThoseOverList_57 : decode cX9_dropThoseOverList 57 = .ok (.ifCond .eq 16, 3) := by decide +kernel
theorem dX9_dropThoseOverList_60 : decode cX9_dropThoseOverList 60 = .ok (.aload_n 0, 1) := by decide +kernel
theorem dX9_dropThoseOverList_61 : decode cX9_dropThoseOverList 61 = .ok (.getfield 26, 3) := by decide +kernel
theorem dX9_dropThoseOverList_64 : decode cX9_dropThoseOverList 64 = .ok (.iload_n 2, 1) := by decide +kernel
theorem dX9_dropThoseOverList_65 : decode cX9_dropThoseOverList 65 = .ok (.baload, 1) := by decide +kernel
theorem dX9_dropThoseOverList_66 : decode cX9_dropThoseOverList 66 = .ok (.ifCond .ne 7, 3) := by decide +kernel
theorem dX9_dropThoseOverList_69 : decode cX9_dropThoseOverList 69 = .ok (.iconst 1, 1) := by decide +kernel
theorem dX9_dropThoseOverList_70 : decode cX9_dropThoseOverList 70 = .ok (.goto 4, 3) := by decide +kernel
theorem dX9_dropThoseOverList_73 : decode cX9_dropThoseOverList 73 = .ok (.iconst 0, 1) := by decide +kernel
theorem dX9_dropThoseOverList_74 : decode cX9_dropThoseOverList 74 = .ok (.bastore, 1) := by decide +kernel
theorem dX9_dropThoseOverList_75 : decode cX9_dropThoseOverList 75 = .ok (.iinc 2 1, 3) := by decide +kernel
theorem dX9_dropThoseOverList_78 : decode cX9_dropThoseOverList 78 = .ok (.goto (-76), 3) := by decide +kernel
theorem dX9_dropThoseOverList_81 : decode cX9_dropThoseOverList 81 = .ok (.return_, 1) := by decide +kernel
theorem dX9_touchesByParts_0 : decode cX9_touchesByParts 0 = .ok (.iconst 0, 1) := by decide +kernel
theorem dX9_touchesByParts_1 : decode cX9_touchesByParts 1 = .ok (.istore_n 2, 1) := by decide +kernel
theorem dX9_touchesByParts_2 : decode cX9_touchesByParts 2 = .ok (.iload_n 2, 1) := by decide +kernel
theorem dX9_touchesByParts_3 : decode cX9_touchesByParts 3 = .ok (.aload_n 0, 1) := by decide +kernel
theorem dX9_touchesByParts_4 : decode cX9_touchesByParts 4 = .ok (.getfield 29, 3) := by decide +kernel
theorem dX9_touchesByParts_7 : decode cX9_touchesByParts 7 = .ok (.iload_n 1, 1) := by decide +kernel
theorem dX9_touchesByParts_8 : decode cX9_touchesByParts 8 = .ok (.invokevirtual 55, 3) := by decide +kernel
theorem dX9_touchesByParts_11 : decode cX9_touchesByParts 11 = .ok (.if_icmp .ge 28, 3) := by decide +kernel
theorem dX9_touchesByParts_14 : decode cX9_touchesByParts 14 = .ok (.aload_n 0, 1) := by decide +kernel
theorem dX9_touchesByParts_15 : decode cX9_touchesByParts 15 = .ok (.getfield 26, 3) := by decide +kernel
theorem dX9_touchesByParts_18 : decode cX9_touchesByParts 18 = .ok (.aload_n 0, 1) := by decide +kernel
theorem dX9_touchesByParts_19 : decode cX9_touchesByParts 19 = .ok (.getfield 29, 3) := by decide +kernel
theorem dX9_touchesByParts_22 : decode cX9_touchesByParts 22 = .ok (.iload_n 1, 1) := by decide +kernel
theorem dX9_touchesByParts_23 : decode cX9_touchesByParts 23 = .ok (.iload_n 2, 1) := by decide +kernel
theorem dX9_touchesByParts_24 : decode cX9_touchesByParts 24 = .ok (.invokevirtual 59, 3) := by decide +kernel
theorem dX9_touchesByParts_27 : decode cX9_touchesByParts 27 = .ok (.baload, 1) := by decide +kernel
theorem dX9_touchesByParts_28 : decode cX9_touchesByParts 28 = .ok (.ifCond .eq 5, 3) := by decide +kernel
theorem dX9_touchesByParts_31 : decode cX9_touchesByParts 31 = .ok (.iconst 1, 1) := by decide +kernel
theorem dX9_touchesByParts_32 : decode cX9_touchesByParts 32 = .ok (.ireturn, 1) := by decide +kernel
theorem dX9_touchesByParts_33 : decode cX9_touchesByParts 33 = .ok (.iinc 2 1, 3) := by decide +kernel
theorem dX9_touchesByParts_36 : decode cX9_touchesByParts 36 = .ok (.goto (-34), 3) := by decide +kernel
theorem dX9_touchesByParts_39 : decode cX9_touchesByParts 39 = .ok (.iconst 0, 1) := by decide +kernel
theorem dX9_touchesByParts_40 : decode cX9_touchesByParts 40 = .ok (.ireturn, 1) := by decide +kernel
theorem dX10_init_0 : decode cX10_init 0 = .ok (.aload_n 0, 1) := by decide +kernel
theorem dX10_init_1 : decode cX10_init 1 = .ok (.invokespecial 3, 3) := by decide +kernel
theorem dX10_init_4 : decode cX10_init 4 = .ok (.aload_n 0, 1) := by decide +kernel
theorem dX10_init_5 : decode cX10_init 5 = .ok (.new 9, 3) := by decide +kernel
theorem dX10_init_8 : decode cX10_init 8 = .ok (.dup, 1) := by decide +kernel
theorem dX10_init_9 : decode cX10_init 9 = .ok (.invokespecial 11, 3) := by decide +kernel
theorem dX10_init_12 : decode cX10_init 12 = .ok (.putfield 12, 3) := by decide +kernel
theorem dX10_init_15 : decode cX10_init 15 = .ok (.aload_n 0, 1) := by decide +kernel
theorem dX10_init_16 : decode cX10_init 16 = .ok (.new 16, 3) := by decide +kernel
theorem dX10_init_19 : decode cX10_init 19 = .ok (.dup, 1) := by decide +kernel
theorem dX10_init_20 : decode cX10_init 20 = .ok (.invokespecial 18, 3) := by decide +kernel
theorem dX10_init_23 : decode cX10_init 23 = .ok (.putfield 19, 3) := by decide +kernel
theorem dX10_init_26 : decode cX10_init 26 = .ok (.aload_n 0, 1) := by decide +kernel
theorem dX10_init_27 : decode cX10_init 27 = .ok (.new 23, 3) := by decide +kernel
theorem dX10_init_30 : decode cX10_init 30 = .ok (.dup, 1) := by decide +kernel
theorem dX10_init_31 : decode cX10_init 31 = .ok (.aload_n 0, 1) := by decide +kernel
theorem dX10_init_32 : decode cX10_init 32 = .ok (.getfield 19, 3) := by decide +kernel
theorem dX10_init_35 : decode cX10_init 35 = .ok (.invokespecial 25, 3) := by decide +kernel
theorem dX10_init_38 : decode cX10_init 38 = .ok (.putfield 28, 3) := by decide +kernel
theorem dX10_init_41 : decode cX10_init 41 = .ok (.aload_n 0, 1) := by decide +kernel
theorem dX10_init_42 : decode cX10_init 42 = .ok (.new 32, 3) := by decide +kernel
theorem dX10_init_45 : decode cX10_init 45 = .ok (.dup, 1) := by decide +kernel
theorem dX10_init_46 : decode cX10_init 46 = .ok (.aload_n 0, 1) := by decide +kernel
theorem dX10_init_47 : decode cX10_init 47 = .ok (.getfield 12, 3) := by decide +kernel
theorem dX10_init_50 : decode cX10_init 50 = .ok (.aload_n 0, 1) := by decide +kernel
theorem dX10_init_51 : decode cX10_init 51 = .ok (.getfield 19, 3) := by decide +kernel
theorem dX10_init_54 : decode cX10_init 54 = .ok (.aload_n 0, 1) := by decide +kernel
theorem dX10_init_55 : decode cX10_init 55 = .ok (.getfield 28, 3) := by decide +kernel
theorem dX10_init_58 : decode cX10_init 58 = .ok (.invokespecial 34, 3) := by decide +kernel
theorem dX10_init_61 : decode cX10_init 61 = .ok (.putfield 37, 3) := by decide +kernel
theorem dX10_init_64 : decode cX10_init 64 = .ok (.aload_n 0, 1) := by decide +kernel
theorem dX10_init_65 : decode cX10_init 65 = .ok (.new 41, 3) := by decide +kernel
theorem dX10_init_68 : decode cX10_init 68 = .ok (.dup, 1) := by decide +kernel
theorem dX10_init_69 : decode cX10_init 69 = .ok (.aload_n 0, 1) := by decide +kernel
theorem dX10_init_70 : decode cX10_init 70 = .ok (.getfield 12, 3) := by decide +kernel
theorem dX10_init_73 : decode cX10_init 73 = .ok (.aload_n 0, 1) := by decide +kernel
theorem dX10_init_74 : decode cX10_init 74 = .ok (.getfield 19, 3) := by decide +kernel
theorem dX10_init_77 : decode cX10_init 77 = .ok (.aload_n 0, 1) := by decide +kernel
theorem dX10_init_78 : decode cX10_init 78 = .ok (.getfield 28, 3) := by decide +kernel
theorem dX10_init_81 : decode cX10_init 81 = .ok (.aload_n 0, 1) := by decide +kernel
theorem dX10_init_82 : decode cX10_init 82 = .ok (.getfield 37, 3) := by decide +kernel
theorem dX10_init_85 : decode cX10_init 85 = .ok (.invokespecial 43, 3) := by decide +kernel
theorem dX10_init_88 : decode cX10_init 88 = .ok (.putfield 46, 3) := by decide +kernel
theorem dX10_init_91 : decode cX10_init 91 = .ok (.aload_n 0, 1) := by decide +kernel
theorem dX10_init_92 : decode cX10_init 92 = .ok (.new 50, 3) := by decide +kernel
theorem dX10_init_95 : decode cX10_init 95 = .ok (.dup, 1) := by decide +kernel
theorem dX10_init_96 : decode cX10_init 96 = .ok (.invokespecial 52, 3) := by decide +kernel
theorem dX10_init_99 : decode cX10_init 99 = .ok (.putfield 53, 3) := by decide +kernel
theorem dX10_init_102 : decode cX10_init 102 = .ok (.aload_n 0, 1) := by decide +kernel
theorem dX10_init_103 : decode cX10_init 103 = .ok (.new 57, 3) := by decide +kernel
theorem dX10_init_106 : decode cX10_init 106 = .ok (.dup, 1) := by decide +kernel
theorem dX10_init_107 : decode cX10_init 107 = .ok (.invokespecial 59, 3) := by decide +kernel
theorem dX10_init_110 : decode cX10_init 110 = .ok (.putfield 60, 3) := by decide +kernel
theorem dX10_init_113 : decode cX10_init 113 = .ok (.aload_n 0, 1) := by decide +kernel
theorem dX10_init_114 : decode cX10_init 114 = .ok (.new 64, 3) := by decide +kernel
theorem dX10_init_117 : decode cX10_init 117 = .ok (.dup, 1) := by decide +kernel
theorem dX10_init_118 : decode cX10_init 118 = .ok (.aload_n 0, 1) := by decide +kernel
theorem dX10_init_119 : decode cX10_init 119 = .ok (.getfield 12, 3) := by decide +kernel
theorem dX10_init_122 : decode cX10_init 122 = .ok (.aload_n 0, 1) := by decide +kernel
theorem dX10_init_123 : decode cX10_init 123 = .ok (.getfield 19, 3) := by decide +kernel
theorem dX10_init_126 : decode cX10_init 126 = .ok (.invokespecial 66, 3) := by decide +kernel
theorem dX10_init_129 : decode cX10_init 129 = .ok (.putfield 69, 3) := by decide +kernel
theorem dX10_init_132 : decode cX10_init 132 = .ok (.return_, 1) := by decide +kernel
theorem dX10_put_0 : decode cX10_put 0 = .ok (.iload_n 1, 1) := by decide +kernel
theorem dX10_put_1 : decode cX10_put 1 = .ok (.invokestatic 73, 3) := by decide +kernel
theorem dX10_put_4 : decode cX10_put 4 = .ok (.ifCond .eq 19, 3) := by decide +kernel
theorem dX10_put_7 : decode cX10_put 7 = .ok (.iload_n 2, 1) := by decide +kernel
theorem dX10_put_8 : decode cX10_put 8 = .ok (.invokestatic 77, 3) := by decide +kernel
theorem dX10_put_11 : decode cX10_put 11 = .ok (.ifCond .eq 12, 3) := by decide +kernel
theorem dX10_put_14 : decode cX10_put 14 = .ok (.iload_n 3, 1) := by decide +kernel
theorem dX10_put_15 : decode cX10_put 15 = .ok (.ldc 80, 2) := by decide +kernel
theorem dX10_put_17 : decode cX10_put 17 = .ok (.invokestatic 81, 3) := by decide +kernel
theorem dX10_put_20 : decode cX10_put 20 = .ok (.ifCond .ne 6, 3) := by decide +kernel
theorem dX10_put_23 : decode cX10_put 23 = .ok (.bipush (-2), 2) := by decide +kernel
theorem dX10_put_25 : decode cX10_put 25 = .ok (.ireturn, 1) := by decide +kernel
theorem dX10_put_26 : decode cX10_put 26 = .ok (.aload_n 0, 1) := by decide +kernel
theorem dX10_put_27 : decode cX10_put 27 = .ok (.getfield 12, 3) := by decide +kernel
theorem dX10_put_30 : decode cX10_put 30 = .ok (.iload_n 1, 1) := by decide +kernel
theorem dX10_put_31 : decode cX10_put 31 = .ok (.iload_n 2, 1) := by decide +kernel
theorem dX10_put_32 : decode cX10_put 32 = .ok (.iload_n 3, 1) := by decide +kernel
theorem dX10_put_33 : decode cX10_put 33 = .ok (.invokevirtual 85, 3) := by decide +kernel
theorem dX10_put_36 : decode cX10_put 36 = .ok (.ifCond .ne 6, 3) := by decide +kernel
theorem dX10_put_39 : decode cX10_put 39 = .ok (.bipush (-3), 2) := by decide +kernel
theorem dX10_put_41 : decode cX10_put 41 = .ok (.ireturn, 1) := by decide +kernel
theorem dX10_put_42 : decode cX10_put 42 = .ok (.aload_n 0, 1) := by decide +kernel
theorem dX10_put_43 : decode cX10_put 43 = .ok (.iload_n 1, 1) := by decide +kernel
theorem dX10_put_44 : decode cX10_put 44 = .ok (.invokevirtual 89, 3) := by decide +kernel
theorem dX10_put_47 : decode cX10_put 47 = .ok (.aload_n 0, 1) := by decide +kernel
theorem dX10_put_48 : decode cX10_put 48 = .ok (.getfield 12, 3) := by decide +kernel
theorem dX10_put_51 : decode cX10_put 51 = .ok (.iload_n 1, 1) := by decide +kernel
theorem dX10_put_52 : decode cX10_put 52 = .ok (.invokevirtual 93, 3) := by decide +kernel
theorem dX10_put_55 : decode cX10_put 55 = .ok (.ireturn, 1) := by decide +kernel
theorem dX10_take_0 : decode cX10_take 0 = .ok (.iload_n 1, 1) := by decide +kernel
theorem dX10_take_1 : decode cX10_take 1 = .ok (.invokestatic 73, 3) := by decide +kernel
theorem dX10_take_4 : decode cX10_take 4 = .ok (.ifCond .eq 10, 3) := by decide +kernel
theorem dX10_take_7 : decode cX10_take 7 = .ok (.iload_n 2, 1) := by decide +kernel
theorem dX10_take_8 : decode cX10_take 8 = .ok (.invokestatic 77, 3) := by decide +kernel
theorem dX10_take_11 : decode cX10_take 11 = .ok (.ifCond .ne 6, 3) := by decide +kernel
theorem dX10_take_14 : decode cX10_take 14 = .ok (.bipush (-2), 2) := by decide +kernel
theorem dX10_take_16 : decode cX10_take 16 = .ok (.ireturn, 1) := by decide +kernel
theorem dX10_take_17 : decode cX10_take 17 = .ok (.aload_n 0, 1) := by decide +kernel
theorem dX10_take_18 : decode cX10_take 18 = .ok (.getfield 12, 3) := by decide +kernel
theorem dX10_take_21 : decode cX10_take 21 = .ok (.iload_n 1, 1) := by decide +kernel
theorem dX10_take_22 : decode cX10_take 22 = .ok (.iload_n 2, 1) := by decide +kernel
theorem dX10_take_23 : decode cX10_take 23 = .ok (.invokevirtual 97, 3) := by decide +kernel
theorem dX10_take_26 : decode cX10_take 26 = .ok (.iconst (-1), 1) := by decide +kernel
theorem dX10_take_27 : decode cX10_take 27 = .ok (.if_icmp .ne 6, 3) := by decide +kernel
theorem dX10_take_30 : decode cX10_take 30 = .ok (.bipush (-4), 2) := by decide +kernel
theorem dX10_take_32 : decode cX10_take 32 = .ok (.ireturn, 1) := by decide +kernel
theorem dX10_take_33 : decode cX10_take 33 = .ok (.aload_n 0, 1) := by decide +kernel
theorem dX10_take_34 : decode cX10_take 34 = .ok (.getfield 12, 3) := by decide +kernel
theorem dX10_take_37 : decode cX10_take 37 = .ok (.iload_n 1, 1) := by decide +kernel
theorem dX10_take_38 : decode cX10_take 38 = .ok (.iload_n 2, 1) := by decide +kernel
theorem dX10_take_39 : decode cX10_take 39 = .ok (.invokevirtual 101, 3) := by decide +kernel
theorem dX10_take_42 : decode cX10_take 42 = .ok (.istore_n 3, 1) := by decide +kernel
theorem dX10_take_43 : decode cX10_take 43 = .ok (.aload_n 0, 1) := by decide +kernel
theorem dX10_take_44 : decode cX10_take 44 = .ok (.getfield 12, 3) := by decide +kernel
theorem dX10_take_47 : decode cX10_take 47 = .ok (.iload_n 1, 1) := by decide +kernel
theorem dX10_take_48 : decode cX10_take 48 = .ok (.iload_n 2, 1) := by decide +kernel
theorem dX10_take_49 : decode cX10_take 49 = .ok (.invokevirtual 104, 3) := by decide +kernel
theorem dX10_take_52 : decode cX10_take 52 = .ok (.aload_n 0, 1) := by decide +kernel
theorem dX10_take_53 : decode cX10_take 53 = .ok (.iload_n 1, 1) := by decide +kernel
theorem dX10_take_54 : decode cX10_take 54 = .ok (.invokevirtual 89, 3) := by decide +kernel
theorem dX10_take_57 : decode cX10_take 57 = .ok (.iload_n 3, 1) := by decide +kernel
theorem dX10_take_58 : decode cX10_take 58 = .ok (.ireturn, 1) := by decide +kernel
theorem dX10_node_0 : decode cX10_node 0 = .ok (.aload_n 0, 1) := by decide +kernel
theorem dX10_node_1 : decode cX10_node 1 = .ok (.iload_n 1, 1) := by decide +kernel
theorem dX10_node_2 : decode cX10_node 2 = .ok (.iload_n 2, 1) := by decide +kernel
theorem dX10_node_3 : decode cX10_node 3 = .ok (.iload_n 3, 1) := by decide +kernel
theorem dX10_node_4 : decode cX10_node 4 = .ok (.invokevirtual 108, 3) := by decide +kernel
theorem dX10_node_7 : decode cX10_node 7 = .ok (.ifCond .ne 6, 3) := by decide +kernel
theorem dX10_node_10 : decode cX10_node 10 = .ok (.bipush (-2), 2) := by decide +kernel
theorem dX10_node_12 : decode cX10_node 12 = .ok (.ireturn, 1) := by decide +kernel
theorem dX10_node_13 : decode cX10_node 13 = .ok (.aload_n 0, 1) := by decide +kernel
theorem dX10_node_14 : decode cX10_node 14 = .ok (.getfield 19, 3) := by decide +kernel
theorem dX10_node_17 : decode cX10_node 17 = .ok (.iload_n 1, 1) := by decide +kernel
theorem dX10_node_18 : decode cX10_node 18 = .ok (.iload_n 1, 1) := by decide +kernel
theorem dX10_node_19 : decode cX10_node 19 = .ok (.bipush 7, 2) := by decide +kernel
theorem dX10_node_21 : decode cX10_node 21 = .ok (.if_icmp .ne 7, 3) := by decide +kernel
theorem dX10_node_24 : decode cX10_node 24 = .ok (.iconst 0, 1) := by decide +kernel
theorem dX10_node_25 : decode cX10_node 25 = .ok (.goto 4, 3) := by decide +kernel
theorem dX10_node_28 : decode cX10_node 28 = .ok (.iload_n 2, 1) := by decide +kernel
theorem dX10_node_29 : decode cX10_node 29 = .ok (.iload_n 1, 1) := by decide +kernel
theorem dX10_node_30 : decode cX10_node 30 = .ok (.invokestatic 111, 3) := by decide +kernel
theorem dX10_node_33 : decode cX10_node 33 = .ok (.ifCond .eq 7, 3) := by decide +kernel
theorem dX10_node_36 : decode cX10_node 36 = .ok (.iload_n 3, 1) := by decide +kernel
theorem dX10_node_37 : decode cX10_node 37 = .ok (.goto 4, 3) := by decide +kernel
theorem dX10_node_40 : decode cX10_node 40 = .ok (.iconst 0, 1) := by decide +kernel
theorem dX10_node_41 : decode cX10_node 41 = .ok (.invokevirtual 114, 3) := by decide +kernel
theorem dX10_node_44 : decode cX10_node 44 = .ok (.ireturn, 1) := by decide +kernel
theorem dX10_part_0 : decode cX10_part 0 = .ok (.aload_n 0, 1) := by decide +kernel
theorem dX10_part_1 : decode cX10_part 1 = .ok (.getfield 19, 3) := by decide +kernel
theorem dX10_part_4 : decode cX10_part 4 = .ok (.iload_n 1, 1) := by decide +kernel
theorem dX10_part_5 : decode cX10_part 5 = .ok (.invokevirtual 118, 3) := by decide +kernel
theorem dX10_part_8 : decode cX10_part 8 = .ok (.ifCond .eq 27, 3) := by decide +kernel
theorem dX10_part_11 : decode cX10_part 11 = .ok (.aload_n 0, 1) := by decide +kernel
theorem dX10_part_12 : decode cX10_part 12 = .ok (.getfield 19, 3) := by decide +kernel
theorem dX10_part_15 : decode cX10_part 15 = .ok (.iload_n 1, 1) := by decide +kernel
theorem dX10_part_16 : decode cX10_part 16 = .ok (.invokevirtual 121, 3) := by decide +kernel
theorem dX10_part_19 : decode cX10_part 19 = .ok (.iload_n 2, 1) := by decide +kernel
theorem dX10_part_20 : decode cX10_part 20 = .ok (.invokestatic 124, 3) := by decide +kernel
theorem dX10_part_23 : decode cX10_part 23 = .ok (.ifCond .eq 12, 3) := by decide +kernel
theorem dX10_part_26 : decode cX10_part 26 = .ok (.iload_n 3, 1) := by decide +kernel
theorem dX10_part_27 : decode cX10_part 27 = .ok (.ifCond .lt 8, 3) := by decide +kernel
theorem dX10_part_30 : decode cX10_part 30 = .ok (.iload_n 3, 1) := by decide +kernel
theorem dX10_part_31 : decode cX10_part 31 = .ok (.iload_n 1, 1) := by decide +kernel
theorem dX10_part_32 : decode cX10_part 32 = .ok (.if_icmp .lt 6, 3) := by decide +kernel
theorem dX10_part_35 : decode cX10_part 35 = .ok (.bipush (-2), 2) := by decide +kernel
theorem dX10_part_37 : decode cX10_part 37 = .ok (.ireturn, 1) := by decide +kernel
theorem dX10_part_38 : decode cX10_part 38 = .ok (.aload_n 0, 1) := by decide +kernel
theorem dX10_part_39 : decode cX10_part 39 = .ok (.getfield 19, 3) := by decide +kernel
theorem dX10_part_42 : decode cX10_part 42 = .ok (.iload_n 1, 1) := by decide +kernel
theorem dX10_part_43 : decode cX10_part 43 = .ok (.iload_n 2, 1) := by decide +kernel
theorem dX10_part_44 : decode cX10_part 44 = .ok (.iload_n 3, 1) := by decide +kernel
theorem dX10_part_45 : decode cX10_part 45 = .ok (.invokevirtual 127, 3) := by decide +kernel
theorem dX10_part_48 : decode cX10_part 48 = .ok (.ifCond .ne 6, 3) := by decide +kernel
theorem dX10_part_51 : decode cX10_part 51 = .ok (.bipush (-3), 2) := by decide +kernel
theorem dX10_part_53 : decode cX10_part 53 = .ok (.ireturn, 1) := by decide +kernel
theorem dX10_part_54 : decode cX10_part 54 = .ok (.aload_n 0, 1) := by decide +kernel
theorem dX10_part_55 : decode cX10_part 55 = .ok (.getfield 28, 3) := by decide +kernel
theorem dX10_part_58 : decode cX10_part 58 = .ok (.iload_n 1, 1) := by decide +kernel
theorem dX10_part_59 : decode cX10_part 59 = .ok (.invokevirtual 130, 3) := by decide +kernel
theorem dX10_part_62 : decode cX10_part 62 = .ok (.aload_n 0, 1) := by decide +kernel
theorem dX10_part_63 : decode cX10_part 63 = .ok (.getfield 37, 3) := by decide +kernel
theorem dX10_part_66 : decode cX10_part 66 = .ok (.iload_n 1, 1) := by decide +kernel
theorem dX10_part_67 : decode cX10_part 67 = .ok (.invokevirtual 133, 3) := by decide +kernel
theorem dX10_part_70 : decode cX10_part 70 = .ok (.aload_n 0, 1) := by decide +kernel
theorem dX10_part_71 : decode cX10_part 71 = .ok (.getfield 19, 3) := by decide +kernel
theorem dX10_part_74 : decode cX10_part 74 = .ok (.iload_n 1, 1) := by decide +kernel
theorem dX10_part_75 : decode cX10_part 75 = .ok (.invokevirtual 136, 3) := by decide +kernel
theorem dX10_part_78 : decode cX10_part 78 = .ok (.ireturn, 1) := by decide +kernel
theorem dX10_told_0 : decode cX10_told 0 = .ok (.aload_n 0, 1) := by decide +kernel
theorem dX10_told_1 : decode cX10_told 1 = .ok (.getfield 19, 3) := by decide +kernel
theorem dX10_told_4 : decode cX10_told 4 = .ok (.iload_n 1, 1) := by decide +kernel
theorem dX10_told_5 : decode cX10_told 5 = .ok (.invokevirtual 118, 3) := by decide +kernel
theorem dX10_told_8 : decode cX10_told 8 = .ok (.ifCond .ne 6, 3) := by decide +kernel
theorem dX10_told_11 : decode cX10_told 11 = .ok (.bipush (-2), 2) := by decide +kernel
theorem dX10_told_13 : decode cX10_told 13 = .ok (.ireturn, 1) := by decide +kernel
theorem dX10_told_14 : decode cX10_told 14 = .ok (.iload_n 2, 1) := by decide +kernel
theorem dX10_told_15 : decode cX10_told 15 = .ok (.tableswitch 127 0 6 #[41, 50, 59, 68, 77, 94, 103], 41) := by decide +kernel
theorem dX10_told_56 : decode cX10_told 56 = .ok (.aload_n 0, 1) := by decide +kernel
theorem dX10_told_57 : decode cX10_told 57 = .ok (.getfield 19, 3) := by decide +kernel
theorem dX10_told_60 : decode cX10_told 60 = .ok (.iload_n 1, 1) := by decide +kernel
theorem dX10_told_61 : decode cX10_told 61 = .ok (.invokevirtual 121, 3) := by decide +kernel
theorem dX10_told_64 : decode cX10_told 64 = .ok (.ireturn, 1) := by decide +kernel
theorem dX10_told_65 : decode cX10_told 65 = .ok (.aload_n 0, 1) := by decide +kernel
theorem dX10_told_66 : decode cX10_told 66 = .ok (.getfield 19, 3) := by decide +kernel
theorem dX10_told_69 : decode cX10_told 69 = .ok (.iload_n 1, 1) := by decide +kernel
theorem dX10_told_70 : decode cX10_told 70 = .ok (.invokevirtual 137, 3) := by decide +kernel
theorem dX10_told_73 : decode cX10_told 73 = .ok (.ireturn, 1) := by decide +kernel
theorem dX10_told_74 : decode cX10_told 74 = .ok (.aload_n 0, 1) := by decide +kernel
theorem dX10_told_75 : decode cX10_told 75 = .ok (.getfield 19, 3) := by decide +kernel
theorem dX10_told_78 : decode cX10_told 78 = .ok (.iload_n 1, 1) := by decide +kernel
theorem dX10_told_79 : decode cX10_told 79 = .ok (.invokevirtual 140, 3) := by decide +kernel
theorem dX10_told_82 : decode cX10_told 82 = .ok (.ireturn, 1) := by decide +kernel
theorem dX10_told_83 : decode cX10_told 83 = .ok (.aload_n 0, 1) := by decide +kernel
theorem dX10_told_84 : decode cX10_told 84 = .ok (.getfield 19, 3) := by decide +kernel
theorem dX10_told_87 : decode cX10_told 87 = .ok (.iload_n 1, 1) := by decide +kernel
theorem dX10_told_88 : decode cX10_told 88 = .ok (.invokevirtual 136, 3) := by decide +kernel
theorem dX10_told_91 : decode cX10_told 91 = .ok (.ireturn, 1) := by decide +kernel
theorem dX10_told_92 : decode cX10_told 92 = .ok (.aload_n 0, 1) := by decide +kernel
theorem dX10_told_93 : decode cX10_told 93 = .ok (.getfield 37, 3) := by decide +kernel
theorem dX10_told_96 : decode cX10_told 96 = .ok (.iload_n 1, 1) := by decide +kernel
theorem dX10_told_97 : decode cX10_told 97 = .ok (.invokevirtual 143, 3) := by decide +kernel
theorem dX10_told_100 : decode cX10_told 100 = .ok (.aload_n 0, 1) := by decide +kernel
theorem dX10_told_101 : decode cX10_told 101 = .ok (.getfield 37, 3) := by decide +kernel
theorem dX10_told_104 : decode cX10_told 104 = .ok (.iload_n 1, 1) := by decide +kernel
theorem dX10_told_105 : decode cX10_told 105 = .ok (.invokevirtual 146, 3) := by decide +kernel
theorem dX10_told_108 : decode cX10_told 108 = .ok (.ireturn, 1) := by decide +kernel
theorem dX10_told_109 : decode cX10_told 109 = .ok (.aload_n 0, 1) := by decide +kernel
theorem dX10_told_110 : decode cX10_told 110 = .ok (.getfield 19, 3) := by decide +kernel
theorem dX10_told_113 : decode cX10_told 113 = .ok (.iload_n 1, 1) := by decide +kernel
theorem dX10_told_114 : decode cX10_told 114 = .ok (.invokevirtual 149, 3) := by decide +kernel
theorem dX10_told_117 : decode cX10_told 117 = .ok (.ireturn, 1) := by decide +kernel
theorem dX10_told_118 : decode cX10_told 118 = .ok (.aload_n 0, 1) := by decide +kernel
theorem dX10_told_119 : decode cX10_told 119 = .ok (.getfield 28, 3) := by decide +kernel
theorem dX10_told_122 : decode cX10_told 122 = .ok (.iload_n 1, 1) := by decide +kernel
theorem dX10_told_123 : decode cX10_told 123 = .ok (.invokevirtual 152, 3) := by decide +kernel
theorem dX10_told_126 : decode cX10_told 126 = .ok (.ifCond .eq 14, 3) := by decide +kernel
theorem dX10_told_129 : decode cX10_told 129 = .ok (.aload_n 0, 1) := by decide +kernel
theorem dX10_told_130 : decode cX10_told 130 = .ok (.getfield 28, 3) := by decide +kernel
theorem dX10_told_133 : decode cX10_told 133 = .ok (.iload_n 1, 1) := by decide +kernel
theorem dX10_told_134 : decode cX10_told 134 = .ok (.invokevirtual 155, 3) := by decide +kernel
theorem dX10_told_137 : decode cX10_told 137 = .ok (.goto 4, 3) := by decide +kernel
theorem dX10_told_140 : decode cX10_told 140 = .ok (.iconst (-1), 1) := by decide +kernel
theorem dX10_told_141 : decode cX10_told 141 = .ok (.ireturn, 1) := by decide +kernel
theorem dX10_told_142 : decode cX10_told 142 = .ok (.bipush (-2), 2) := by decide +kernel
theorem dX10_told_144 : decode cX10_told 144 = .ok (.ireturn, 1) := by decide +kernel
theorem dX10_partOf_0 : decode cX10_partOf 0 = .ok (.aload_n 0, 1) := by decide +kernel
theorem dX10_partOf_1 : decode cX10_partOf 1 = .ok (.getfield 19, 3) := by decide +kernel
theorem dX10_partOf_4 : decode cX10_partOf 4 = .ok (.iload_n 1, 1) := by decide +kernel
theorem dX10_partOf_5 : decode cX10_partOf 5 = .ok (.invokevirtual 118, 3) := by decide +kernel
theorem dX10_partOf_8 : decode cX10_partOf 8 = .ok (.ifCond .eq 19, 3) := by decide +kernel
theorem dX10_partOf_11 : decode cX10_partOf 11 = .ok (.iload_n 2, 1) := by decide +kernel
theorem dX10_partOf_12 : decode cX10_partOf 12 = .ok (.ifCond .lt 15, 3) := by decide +kernel
theorem dX10_partOf_15 : decode cX10_partOf 15 = .ok (.iload_n 2, 1) := by decide +kernel
theorem dX10_partOf_16 : decode cX10_partOf 16 = .ok (.aload_n 0, 1) := by decide +kernel
theorem dX10_partOf_17 : decode cX10_partOf 17 = .ok (.getfield 19, 3) := by decide +kernel
theorem dX10_partOf_20 : decode cX10_partOf 20 = .ok (.iload_n 1, 1) := by decide +kernel
theorem dX10_partOf_21 : decode cX10_partOf 21 = .ok (.invokevirtual 136, 3) := by decide +kernel
theorem dX10_partOf_24 : decode cX10_partOf 24 = .ok (.if_icmp .lt 6, 3) := by decide +kernel
theorem dX10_partOf_27 : decode cX10_partOf 27 = .ok (.bipush (-2), 2) := by decide +kernel
theorem dX10_partOf_29 : decode cX10_partOf 29 = .ok (.ireturn, 1) := by decide +kernel
theorem dX10_partOf_30 : decode cX10_partOf 30 = .ok (.iload_n 3, 1) := by decide +kernel
theorem dX10_partOf_31 : decode cX10_partOf 31 = .ok (.lookupswitch 45 #[(0, 25), (1, 35)], 25) := by decide +kernel
theorem dX10_partOf_56 : decode cX10_partOf 56 = .ok (.aload_n 0, 1) := by decide +kernel
theorem dX10_partOf_57 : decode cX10_partOf 57 = .ok (.getfield 19, 3) := by decide +kernel
theorem dX10_partOf_60 : decode cX10_partOf 60 = .ok (.iload_n 1, 1) := by decide +kernel
theorem dX10_partOf_61 : decode cX10_partOf 61 = .ok (.iload_n 2, 1) := by decide +kernel
theorem dX10_partOf_62 : decode cX10_partOf 62 = .ok (.invokevirtual 156, 3) := by decide +kernel
theorem dX10_partOf_65 : decode cX10_partOf 65 = .ok (.ireturn, 1) := by decide +kernel
theorem dX10_partOf_66 : decode cX10_partOf 66 = .ok (.aload_n 0, 1) := by decide +kernel
theorem dX10_partOf_67 : decode cX10_partOf 67 = .ok (.getfield 19, 3) := by decide +kernel
theorem dX10_partOf_70 : decode cX10_partOf 70 = .ok (.iload_n 1, 1) := by decide +kernel
theorem dX10_partOf_71 : decode cX10_partOf 71 = .ok (.iload_n 2, 1) := by decide +kernel
theorem dX10_partOf_72 : decode cX10_partOf 72 = .ok (.invokevirtual 159, 3) := by decide +kernel
theorem dX10_partOf_75 : decode cX10_partOf 75 = .ok (.ireturn, 1) := by decide +kernel
theorem dX10_partOf_76 : decode cX10_partOf 76 = .ok (.bipush (-2), 2) := by decide +kernel
theorem dX10_partOf_78 : decode cX10_partOf 78 = .ok (.ireturn, 1) := by decide +kernel
theorem dX10_may_0 : decode cX10_may 0 = .ok (.aload_n 0, 1) := by decide +kernel
theorem dX10_may_1 : decode cX10_may 1 = .ok (.getfield 19, 3) := by decide +kernel
theorem dX10_may_4 : decode cX10_may 4 = .ok (.iload_n 1, 1) := by decide +kernel
theorem dX10_may_5 : decode cX10_may 5 = .ok (.invokevirtual 118, 3) := by decide +kernel
theorem dX10_may_8 : decode cX10_may 8 = .ok (.ifCond .eq 10, 3) := by decide +kernel
theorem dX10_may_11 : decode cX10_may 11 = .ok (.iload_n 2, 1) := by decide +kernel
theorem dX10_may_12 : decode cX10_may 12 = .ok (.invokestatic 77, 3) := by decide +kernel
theorem dX10_may_15 : decode cX10_may 15 = .ok (.ifCond .ne 5, 3) := by decide +kernel
theorem dX10_may_18 : decode cX10_may 18 = .ok (.iconst 0, 1) := by decide +kernel
theorem dX10_may_19 : decode cX10_may 19 = .ok (.ireturn, 1) := by decide +kernel
theorem dX10_may_20 : decode cX10_may 20 = .ok (.aload_n 0, 1) := by decide +kernel
theorem dX10_may_21 : decode cX10_may 21 = .ok (.getfield 37, 3) := by decide +kernel
theorem dX10_may_24 : decode cX10_may 24 = .ok (.iload_n 1, 1) := by decide +kernel
theorem dX10_may_25 : decode cX10_may 25 = .ok (.invokevirtual 143, 3) := by decide +kernel
theorem dX10_may_28 : decode cX10_may 28 = .ok (.aload_n 0, 1) := by decide +kernel
theorem dX10_may_29 : decode cX10_may 29 = .ok (.getfield 37, 3) := by decide +kernel
theorem dX10_may_32 : decode cX10_may 32 = .ok (.iload_n 1, 1) := by decide +kernel
theorem dX10_may_33 : decode cX10_may 33 = .ok (.iload_n 2, 1) := by decide +kernel
theorem dX10_may_34 : decode cX10_may 34 = .ok (.invokevirtual 162, 3) := by decide +kernel
theorem dX10_may_37 : decode cX10_may 37 = .ok (.ireturn, 1) := by decide +kernel
theorem dX10_sure_0 : decode cX10_sure 0 = .ok (.aload_n 0, 1) := by decide +kernel
theorem dX10_sure_1 : decode cX10_sure 1 = .ok (.getfield 19, 3) := by decide +kernel
theorem dX10_sure_4 : decode cX10_sure 4 = .ok (.iload_n 1, 1) := by decide +kernel
theorem dX10_sure_5 : decode cX10_sure 5 = .ok (.invokevirtual 118, 3) := by decide +kernel
theorem dX10_sure_8 : decode cX10_sure 8 = .ok (.ifCond .eq 10, 3) := by decide +kernel
theorem dX10_sure_11 : decode cX10_sure 11 = .ok (.iload_n 2, 1) := by decide +kernel
theorem dX10_sure_12 : decode cX10_sure 12 = .ok (.invokestatic 77, 3) := by decide +kernel
theorem dX10_sure_15 : decode cX10_sure 15 = .ok (.ifCond .ne 5, 3) := by decide +kernel
theorem dX10_sure_18 : decode cX10_sure 18 = .ok (.iconst 0, 1) := by decide +kernel
theorem dX10_sure_19 : decode cX10_sure 19 = .ok (.ireturn, 1) := by decide +kernel
theorem dX10_sure_20 : decode cX10_sure 20 = .ok (.aload_n 0, 1) := by decide +kernel
theorem dX10_sure_21 : decode cX10_sure 21 = .ok (.getfield 37, 3) := by decide +kernel
theorem dX10_sure_24 : decode cX10_sure 24 = .ok (.iload_n 1, 1) := by decide +kernel
theorem dX10_sure_25 : decode cX10_sure 25 = .ok (.invokevirtual 143, 3) := by decide +kernel
theorem dX10_sure_28 : decode cX10_sure 28 = .ok (.aload_n 0, 1) := by decide +kernel
theorem dX10_sure_29 : decode cX10_sure 29 = .ok (.getfield 37, 3) := by decide +kernel
theorem dX10_sure_32 : decode cX10_sure 32 = .ok (.iload_n 1, 1) := by decide +kernel
theorem dX10_sure_33 : decode cX10_sure 33 = .ok (.iload_n 2, 1) := by decide +kernel
theorem dX10_sure_34 : decode cX10_sure 34 = .ok (.invokevirtual 165, 3) := by decide +kernel
theorem dX10_sure_37 : decode cX10_sure 37 = .ok (.ireturn, 1) := by decide +kernel
theorem dX10_look_0 : decode cX10_look 0 = .ok (.aload_n 0, 1) := by decide +kernel
theorem dX10_look_1 : decode cX10_look 1 = .ok (.getfield 19, 3) := by decide +kernel
theorem dX10_look_4 : decode cX10_look 4 = .ok (.iload_n 1, 1) := by decide +kernel
theorem dX10_look_5 : decode cX10_look 5 = .ok (.invokevirtual 118, 3) := by decide +kernel
theorem dX10_look_8 : decode cX10_look 8 = .ok (.ifCond .eq 10, 3) := by decide +kernel
theorem dX10_look_11 : decode cX10_look 11 = .ok (.iload_n 2, 1) := by decide +kernel
theorem dX10_look_12 : decode cX10_look 12 = .ok (.invokestatic 77, 3) := by decide +kernel
theorem dX10_look_15 : decode cX10_look 15 = .ok (.ifCond .ne 6, 3) := by decide +kernel
theorem dX10_look_18 : decode cX10_look 18 = .ok (.bipush (-2), 2) := by decide +kernel
theorem dX10_look_20 : decode cX10_look 20 = .ok (.ireturn, 1) := by decide +kernel
theorem dX10_look_21 : decode cX10_look 21 = .ok (.aload_n 0, 1) := by decide +kernel
theorem dX10_look_22 : decode cX10_look 22 = .ok (.getfield 37, 3) := by decide +kernel
theorem dX10_look_25 : decode cX10_look 25 = .ok (.iload_n 1, 1) := by decide +kernel
theorem dX10_look_26 : decode cX10_look 26 = .ok (.invokevirtual 143, 3) := by decide +kernel
theorem dX10_look_29 : decode cX10_look 29 = .ok (.aload_n 0, 1) := by decide +kernel
theorem dX10_look_30 : decode cX10_look 30 = .ok (.getfield 46, 3) := by decide +kernel
theorem dX10_look_33 : decode cX10_look 33 = .ok (.iload_n 1, 1) := by decide +kernel
theorem dX10_look_34 : decode cX10_look 34 = .ok (.iload_n 2, 1) := by decide +kernel
theorem dX10_look_35 : decode cX10_look 35 = .ok (.invokevirtual 168, 3) := by decide +kernel
theorem dX10_look_38 : decode cX10_look 38 = .ok (.ifCond .ne 5, 3) := by decide +kernel
theorem dX10_look_41 : decode cX10_look 41 = .ok (.iconst 0, 1) := by decide +kernel
theorem dX10_look_42 : decode cX10_look 42 = .ok (.ireturn, 1) := by decide +kernel
theorem dX10_look_43 : decode cX10_look 43 = .ok (.aload_n 0, 1) := by decide +kernel
theorem dX10_look_44 : decode cX10_look 44 = .ok (.aload_n 0, 1) := by decide +kernel
theorem dX10_look_45 : decode cX10_look 45 = .ok (.getfield 46, 3) := by decide +kernel
theorem dX10_look_48 : decode cX10_look 48 = .ok (.iload_n 1, 1) := by decide +kernel
theorem dX10_look_49 : decode cX10_look 49 = .ok (.invokevirtual 171, 3) := by decide +kernel
theorem dX10_look_52 : decode cX10_look 52 = .ok (.putfield 175, 3) := by decide +kernel
theorem dX10_look_55 : decode cX10_look 55 = .ok (.iconst 1, 1) := by decide +kernel
theorem dX10_look_56 : decode cX10_look 56 = .ok (.ireturn, 1) := by decide +kernel
theorem dX10_scored_0 : decode cX10_scored 0 = .ok (.aload_n 0, 1) := by decide +kernel
theorem dX10_scored_1 : decode cX10_scored 1 = .ok (.getfield 175, 3) := by decide +kernel
theorem dX10_scored_4 : decode cX10_scored 4 = .ok (.lreturn, 1) := by decide +kernel
theorem dX10_run_0 : decode cX10_run 0 = .ok (.aload_n 0, 1) := by decide +kernel
theorem dX10_run_1 : decode cX10_run 1 = .ok (.getfield 19, 3) := by decide +kernel
theorem dX10_run_4 : decode cX10_run 4 = .ok (.iload_n 1, 1) := by decide +kernel
theorem dX10_run_5 : decode cX10_run 5 = .ok (.invokevirtual 118, 3) := by decide +kernel
theorem dX10_run_8 : decode cX10_run 8 = .ok (.ifCond .ne 6, 3) := by decide +kernel
theorem dX10_run_11 : decode cX10_run 11 = .ok (.bipush (-2), 2) := by decide +kernel
theorem dX10_run_13 : decode cX10_run 13 = .ok (.ireturn, 1) := by decide +kernel
theorem dX10_run_14 : decode cX10_run 14 = .ok (.aload_n 0, 1) := by decide +kernel
theorem dX10_run_15 : decode cX10_run 15 = .ok (.getfield 37, 3) := by decide +kernel
theorem dX10_run_18 : decode cX10_run 18 = .ok (.iload_n 1, 1) := by decide +kernel
theorem dX10_run_19 : decode cX10_run 19 = .ok (.invokevirtual 143, 3) := by decide +kernel
theorem dX10_run_22 : decode cX10_run 22 = .ok (.aload_n 0, 1) := by decide +kernel
theorem dX10_run_23 : decode cX10_run 23 = .ok (.getfield 53, 3) := by decide +kernel
theorem dX10_run_26 : decode cX10_run 26 = .ok (.invokevirtual 179, 3) := by decide +kernel
theorem dX10_run_29 : decode cX10_run 29 = .ok (.iconst 0, 1) := by decide +kernel
theorem dX10_run_30 : decode cX10_run 30 = .ok (.istore_n 2, 1) := by decide +kernel
theorem dX10_run_31 : decode cX10_run 31 = .ok (.iload_n 2, 1) := by decide +kernel
theorem dX10_run_32 : decode cX10_run 32 = .ok (.sipush 512, 3) := by decide +kernel
theorem dX10_run_35 : decode cX10_run 35 = .ok (.if_icmp .ge 37, 3) := by decide +kernel
theorem dX10_run_38 : decode cX10_run 38 = .ok (.aload_n 0, 1) := by decide +kernel
theorem dX10_run_39 : decode cX10_run 39 = .ok (.getfield 46, 3) := by decide +kernel
theorem dX10_run_42 : decode cX10_run 42 = .ok (.iload_n 1, 1) := by decide +kernel
theorem dX10_run_43 : decode cX10_run 43 = .ok (.iload_n 2, 1) := by decide +kernel
theorem dX10_run_44 : decode cX10_run 44 = .ok (.invokevirtual 168, 3) := by decide +kernel
theorem dX10_run_47 : decode cX10_run 47 = .ok (.ifCond .eq 19, 3) := by decide +kernel
theorem dX10_run_50 : decode cX10_run 50 = .ok (.aload_n 0, 1) := by decide +kernel
theorem dX10_run_51 : decode cX10_run 51 = .ok (.getfield 53, 3) := by decide +kernel
theorem dX10_run_54 : decode cX10_run 54 = .ok (.iload_n 2, 1) := by decide +kernel
theorem dX10_run_55 : decode cX10_run 55 = .ok (.aload_n 0, 1) := by decide +kernel
theorem dX10_run_56 : decode cX10_run 56 = .ok (.getfield 46, 3) := by decide +kernel
theorem dX10_run_59 : decode cX10_run 59 = .ok (.iload_n 1, 1) := by decide +kernel
theorem dX10_run_60 : decode cX10_run 60 = .ok (.invokevirtual 171, 3) := by decide +kernel
theorem dX10_run_63 : decode cX10_run 63 = .ok (.invokevirtual 182, 3) := by decide +kernel
theorem dX10_run_66 : decode cX10_run 66 = .ok (.iinc 2 1, 3) := by decide +kernel
theorem dX10_run_69 : decode cX10_run 69 = .ok (.goto (-38), 3) := by decide +kernel
theorem dX10_run_72 : decode cX10_run 72 = .ok (.aload_n 0, 1) := by decide +kernel
theorem dX10_run_73 : decode cX10_run 73 = .ok (.getfield 53, 3) := by decide +kernel
theorem dX10_run_76 : decode cX10_run 76 = .ok (.invokevirtual 185, 3) := by decide +kernel
theorem dX10_run_79 : decode cX10_run 79 = .ok (.ireturn, 1) := by decide +kernel
theorem dX10_found_0 : decode cX10_found 0 = .ok (.aload_n 0, 1) := by decide +kernel
theorem dX10_found_1 : decode cX10_found 1 = .ok (.getfield 53, 3) := by decide +kernel
theorem dX10_found_4 : decode cX10_found 4 = .ok (.iload_n 1, 1) := by decide +kernel
theorem dX10_found_5 : decode cX10_found 5 = .ok (.invokevirtual 188, 3) := by decide +kernel
theorem dX10_found_8 : decode cX10_found 8 = .ok (.ifCond .eq 14, 3) := by decide +kernel
theorem dX10_found_11 : decode cX10_found 11 = .ok (.aload_n 0, 1) := by decide +kernel
theorem dX10_found_12 : decode cX10_found 12 = .ok (.getfield 53, 3) := by decide +kernel
theorem dX10_found_15 : decode cX10_found 15 = .ok (.iload_n 1, 1) := by decide +kernel
theorem dX10_found_16 : decode cX10_found 16 = .ok (.invokevirtual 189, 3) := by decide +kernel
theorem dX10_found_19 : decode cX10_found 19 = .ok (.goto 4, 3) := by decide +kernel
theorem dX10_found_22 : decode cX10_found 22 = .ok (.iconst (-1), 1) := by decide +kernel
theorem dX10_found_23 : decode cX10_found 23 = .ok (.ireturn, 1) := by decide +kernel
theorem dX10_score_0 : decode cX10_score 0 = .ok (.aload_n 0, 1) := by decide +kernel
theorem dX10_score_1 : decode cX10_score 1 = .ok (.getfield 53, 3) := by decide +kernel
theorem dX10_score_4 : decode cX10_score 4 = .ok (.iload_n 1, 1) := by decide +kernel
theorem dX10_score_5 : decode cX10_score 5 = .ok (.invokevirtual 188, 3) := by decide +kernel
theorem dX10_score_8 : decode cX10_score 8 = .ok (.ifCond .eq 14, 3) := by decide +kernel
theorem dX10_score_11 : decode cX10_score 11 = .ok (.aload_n 0, 1) := by decide +kernel
theorem dX10_score_12 : decode cX10_score 12 = .ok (.getfield 53, 3) := by decide +kernel
theorem dX10_score_15 : decode cX10_score 15 = .ok (.iload_n 1, 1) := by decide +kernel
theorem dX10_score_16 : decode cX10_score 16 = .ok (.invokevirtual 192, 3) := by decide +kernel
theorem dX10_score_19 : decode cX10_score 19 = .ok (.goto 4, 3) := by decide +kernel
theorem dX10_score_22 : decode cX10_score 22 = .ok (.lconst 0, 1) := by decide +kernel
theorem dX10_score_23 : decode cX10_score 23 = .ok (.lreturn, 1) := by decide +kernel
theorem dX10_keep_0 : decode cX10_keep 0 = .ok (.aload_n 0, 1) := by decide +kernel
theorem dX10_keep_1 : decode cX10_keep 1 = .ok (.getfield 19, 3) := by decide +kernel
theorem dX10_keep_4 : decode cX10_keep 4 = .ok (.iload_n 1, 1) := by decide +kernel
theorem dX10_keep_5 : decode cX10_keep 5 = .ok (.invokevirtual 118, 3) := by decide +kernel
theorem dX10_keep_8 : decode cX10_keep 8 = .ok (.ifCond .eq 16, 3) := by decide +kernel
theorem dX10_keep_11 : decode cX10_keep 11 = .ok (.aload_n 0, 1) := by decide +kernel
theorem dX10_keep_12 : decode cX10_keep 12 = .ok (.getfield 19, 3) := by decide +kernel
theorem dX10_keep_15 : decode cX10_keep 15 = .ok (.iload_n 1, 1) := by decide +kernel
theorem dX10_keep_16 : decode cX10_keep 16 = .ok (.invokevirtual 121, 3) := by decide +kernel
theorem dX10_keep_19 : decode cX10_keep 19 = .ok (.bipush 6, 2) := by decide +kernel
theorem dX10_keep_21 : decode cX10_keep 21 = .ok (.if_icmp .eq 6, 3) := by decide +kernel
theorem dX10_keep_24 : decode cX10_keep 24 = .ok (.bipush (-2), 2) := by decide +kernel
theorem dX10_keep_26 : decode cX10_keep 26 = .ok (.ireturn, 1) := by decide +kernel
theorem dX10_keep_27 : decode cX10_keep 27 = .ok (.aload_n 0, 1) := by decide +kernel
theorem dX10_keep_28 : decode cX10_keep 28 = .ok (.getfield 28, 3) := by decide +kernel
theorem dX10_keep_31 : decode cX10_keep 31 = .ok (.iload_n 1, 1) := by decide +kernel
theorem dX10_keep_32 : decode cX10_keep 32 = .ok (.invokevirtual 152, 3) := by decide +kernel
theorem dX10_keep_35 : decode cX10_keep 35 = .ok (.ifCond .eq 6, 3) := by decide +kernel
theorem dX10_keep_38 : decode cX10_keep 38 = .ok (.bipush (-4), 2) := by decide +kernel
theorem dX10_keep_40 : decode cX10_keep 40 = .ok (.ireturn, 1) := by decide +kernel
theorem dX10_keep_41 : decode cX10_keep 41 = .ok (.aload_n 0, 1) := by decide +kernel
theorem dX10_keep_42 : decode cX10_keep 42 = .ok (.getfield 19, 3) := by decide +kernel
theorem dX10_keep_45 : decode cX10_keep 45 = .ok (.iload_n 1, 1) := by decide +kernel
theorem dX10_keep_46 : decode cX10_keep 46 = .ok (.iconst 0, 1) := by decide +kernel
theorem dX10_keep_47 : decode cX10_keep 47 = .ok (.invokevirtual 159, 3) := by decide +kernel
theorem dX10_keep_50 : decode cX10_keep 50 = .ok (.istore_n 2, 1) := by decide +kernel
theorem dX10_keep_51 : decode cX10_keep 51 = .ok (.aload_n 0, 1) := by decide +kernel
theorem dX10_keep_52 : decode cX10_keep 52 = .ok (.getfield 37, 3) := by decide +kernel
theorem dX10_keep_55 : decode cX10_keep 55 = .ok (.iload_n 2, 1) := by decide +kernel
theorem dX10_keep_56 : decode cX10_keep 56 = .ok (.invokevirtual 143, 3) := by decide +kernel
theorem dX10_keep_59 : decode cX10_keep 59 = .ok (.aload_n 0, 1) := by decide +kernel
theorem dX10_keep_60 : decode cX10_keep 60 = .ok (.getfield 28, 3) := by decide +kernel
theorem dX10_keep_63 : decode cX10_keep 63 = .ok (.iload_n 1, 1) := by decide +kernel
theorem dX10_keep_64 : decode cX10_keep 64 = .ok (.invokevirtual 195, 3) := by decide +kernel
theorem dX10_keep_67 : decode cX10_keep 67 = .ok (.iconst 0, 1) := by decide +kernel
theorem dX10_keep_68 : decode cX10_keep 68 = .ok (.istore_n 3, 1) := by decide +kernel
theorem dX10_keep_69 : decode cX10_keep 69 = .ok (.iload_n 3, 1) := by decide +kernel
theorem dX10_keep_70 : decode cX10_keep 70 = .ok (.sipush 512, 3) := by decide +kernel
theorem dX10_keep_73 : decode cX10_keep 73 = .ok (.if_icmp .ge 30, 3) := by decide +kernel
theorem dX10_keep_76 : decode cX10_keep 76 = .ok (.aload_n 0, 1) := by decide +kernel
theorem dX10_keep_77 : decode cX10_keep 77 = .ok (.getfield 46, 3) := by decide +kernel
theorem dX10_keep_80 : decode cX10_keep 80 = .ok (.iload_n 2, 1) := by decide +kernel
theorem dX10_keep_81 : decode cX10_keep 81 = .ok (.iload_n 3, 1) := by decide +kernel
theorem dX10_keep_82 : decode cX10_keep 82 = .ok (.invokevirtual 168, 3) := by decide +kernel
theorem dX10_keep_85 : decode cX10_keep 85 = .ok (.ifCond .eq 12, 3) := by decide +kernel
theorem dX10_keep_88 : decode cX10_keep 88 = .ok (.aload_n 0, 1) := by decide +kernel
theorem dX10_keep_89 : decode cX10_keep 89 = .ok (.getfield 28, 3) := by decide +kernel
theorem dX10_keep_92 : decode cX10_keep 92 = .ok (.iload_n 1, 1) := by decide +kernel
theorem dX10_keep_93 : decode cX10_keep 93 = .ok (.iload_n 3, 1) := by decide +kernel
theorem dX10_keep_94 : decode cX10_keep 94 = .ok (.invokevirtual 198, 3) := by decide +kernel
theorem dX10_keep_97 : decode cX10_keep 97 = .ok (.iinc 3 1, 3) := by decide +kernel
theorem dX10_keep_100 : decode cX10_keep 100 = .ok (.goto (-31), 3) := by decide +kernel
theorem dX10_keep_103 : decode cX10_keep 103 = .ok (.aload_n 0, 1) := by decide +kernel
theorem dX10_keep_104 : decode cX10_keep 104 = .ok (.getfield 37, 3) := by decide +kernel
theorem dX10_keep_107 : decode cX10_keep 107 = .ok (.iload_n 1, 1) := by decide +kernel
theorem dX10_keep_108 : decode cX10_keep 108 = .ok (.invokevirtual 133, 3) := by decide +kernel
theorem dX10_keep_111 : decode cX10_keep 111 = .ok (.aload_n 0, 1) := by decide +kernel
theorem dX10_keep_112 : decode cX10_keep 112 = .ok (.getfield 28, 3) := by decide +kernel
theorem dX10_keep_115 : decode cX10_keep 115 = .ok (.iload_n 1, 1) := by decide +kernel
theorem dX10_keep_116 : decode cX10_keep 116 = .ok (.invokevirtual 155, 3) := by decide +kernel
theorem dX10_keep_119 : decode cX10_keep 119 = .ok (.ireturn, 1) := by decide +kernel
theorem dX10_open_0 : decode cX10_open 0 = .ok (.aload_n 0, 1) := by decide +kernel
theorem dX10_open_1 : decode cX10_open 1 = .ok (.getfield 19, 3) := by decide +kernel
theorem dX10_open_4 : decode cX10_open 4 = .ok (.iload_n 1, 1) := by decide +kernel
theorem dX10_open_5 : decode cX10_open 5 = .ok (.invokevirtual 118, 3) := by decide +kernel
theorem dX10_open_8 : decode cX10_open 8 = .ok (.ifCond .ne 6, 3) := by decide +kernel
theorem dX10_open_11 : decode cX10_open 11 = .ok (.bipush (-2), 2) := by decide +kernel
theorem dX10_open_13 : decode cX10_open 13 = .ok (.ireturn, 1) := by decide +kernel
theorem dX10_open_14 : decode cX10_open 14 = .ok (.aload_n 0, 1) := by decide +kernel
theorem dX10_open_15 : decode cX10_open 15 = .ok (.getfield 60, 3) := by decide +kernel
theorem dX10_open_18 : decode cX10_open 18 = .ok (.iload_n 1, 1) := by decide +kernel
theorem dX10_open_19 : decode cX10_open 19 = .ok (.invokevirtual 200, 3) := by decide +kernel
theorem dX10_open_22 : decode cX10_open 22 = .ok (.ireturn, 1) := by decide +kernel
theorem dX10_next_0 : decode cX10_next 0 = .ok (.aload_n 0, 1) := by decide +kernel
theorem dX10_next_1 : decode cX10_next 1 = .ok (.getfield 60, 3) := by decide +kernel
theorem dX10_next_4 : decode cX10_next 4 = .ok (.iload_n 1, 1) := by decide +kernel
theorem dX10_next_5 : decode cX10_next 5 = .ok (.invokevirtual 203, 3) := by decide +kernel
theorem dX10_next_8 : decode cX10_next 8 = .ok (.ifCond .eq 10, 3) := by decide +kernel
theorem dX10_next_11 : decode cX10_next 11 = .ok (.iload_n 2, 1) := by decide +kernel
theorem dX10_next_12 : decode cX10_next 12 = .ok (.invokestatic 77, 3) := by decide +kernel
theorem dX10_next_15 : decode cX10_next 15 = .ok (.ifCond .ne 6, 3) := by decide +kernel
theorem dX10_next_18 : decode cX10_next 18 = .ok (.bipush (-2), 2) := by decide +kernel
theorem dX10_next_20 : decode cX10_next 20 = .ok (.ireturn, 1) := by decide +kernel
theorem dX10_next_21 : decode cX10_next 21 = .ok (.aload_n 0, 1) := by decide +kernel
theorem dX10_next_22 : decode cX10_next 22 = .ok (.getfield 60, 3) := by decide +kernel
theorem dX10_next_25 : decode cX10_next 25 = .ok (.iload_n 1, 1) := by decide +kernel
theorem dX10_next_26 : decode cX10_next 26 = .ok (.invokevirtual 206, 3) := by decide +kernel
theorem dX10_next_29 : decode cX10_next 29 = .ok (.istore_n 3, 1) := by decide +kernel
theorem dX10_next_30 : decode cX10_next 30 = .ok (.aload_n 0, 1) := by decide +kernel
theorem dX10_next_31 : decode cX10_next 31 = .ok (.getfield 37, 3) := by decide +kernel
theorem dX10_next_34 : decode cX10_next 34 = .ok (.iload_n 3, 1) := by decide +kernel
theorem dX10_next_35 : decode cX10_next 35 = .ok (.invokevirtual 143, 3) := by decide +kernel
theorem dX10_next_38 : decode cX10_next 38 = .ok (.iload_n 2, 1) := by decide +kernel
theorem dX10_next_39 : decode cX10_next 39 = .ok (.aload_n 0, 1) := by decide +kernel
theorem dX10_next_40 : decode cX10_next 40 = .ok (.getfield 60, 3) := by decide +kernel
theorem dX10_next_43 : decode cX10_next 43 = .ok (.iload_n 1, 1) := by decide +kernel
theorem dX10_next_44 : decode cX10_next 44 = .ok (.invokevirtual 209, 3) := by decide +kernel
theorem dX10_next_47 : decode cX10_next 47 = .ok (.iconst 1, 1) := by decide +kernel
theorem dX10_next_48 : decode cX10_next 48 = .ok (.iadd, 1) := by decide +kernel
theorem dX10_next_49 : decode cX10_next 49 = .ok (.invokestatic 212, 3) := by decide +kernel
theorem dX10_next_52 : decode cX10_next 52 = .ok (.istore 4, 2) := by decide +kernel
theorem dX10_next_54 : decode cX10_next 54 = .ok (.iload 4, 2) := by decide +kernel
theorem dX10_next_56 : decode cX10_next 56 = .ok (.sipush 512, 3) := by decide +kernel
theorem dX10_next_59 : decode cX10_next 59 = .ok (.if_icmp .ge 35, 3) := by decide +kernel
theorem dX10_next_62 : decode cX10_next 62 = .ok (.aload_n 0, 1) := by decide +kernel
theorem dX10_next_63 : decode cX10_next 63 = .ok (.getfield 46, 3) := by decide +kernel
theorem dX10_next_66 : decode cX10_next 66 = .ok (.iload_n 3, 1) := by decide +kernel
theorem dX10_next_67 : decode cX10_next 67 = .ok (.iload 4, 2) := by decide +kernel
theorem dX10_next_69 : decode cX10_next 69 = .ok (.invokevirtual 168, 3) := by decide +kernel
theorem dX10_next_72 : decode cX10_next 72 = .ok (.ifCond .eq 16, 3) := by decide +kernel
theorem dX10_next_75 : decode cX10_next 75 = .ok (.aload_n 0, 1) := by decide +kernel
theorem dX10_next_76 : decode cX10_next 76 = .ok (.getfield 60, 3) := by decide +kernel
theorem dX10_next_79 : decode cX10_next 79 = .ok (.iload_n 1, 1) := by decide +kernel
theorem dX10_next_80 : decode cX10_next 80 = .ok (.iload 4, 2) := by decide +kernel
theorem dX10_next_82 : decode cX10_next 82 = .ok (.invokevirtual 217, 3) := by decide +kernel
theorem dX10_next_85 : decode cX10_next 85 = .ok (.iload 4, 2) := by decide +kernel
theorem dX10_next_87 : decode cX10_next 87 = .ok (.ireturn, 1) := by decide +kernel
theorem dX10_next_88 : decode cX10_next 88 = .ok (.iinc 4 1, 3) := by decide +kernel
theorem dX10_next_91 : decode cX10_next 91 = .ok (.goto (-37), 3) := by decide +kernel
theorem dX10_next_94 : decode cX10_next 94 = .ok (.aload_n 0, 1) := by decide +kernel
theorem dX10_next_95 : decode cX10_next 95 = .ok (.getfield 60, 3) := by decide +kernel
theorem dX10_next_98 : decode cX10_next 98 = .ok (.iload_n 1, 1) := by decide +kernel
theorem dX10_next_99 : decode cX10_next 99 = .ok (.invokevirtual 220, 3) := by decide +kernel
theorem dX10_next_102 : decode cX10_next 102 = .ok (.iconst (-1), 1) := by decide +kernel
theorem dX10_next_103 : decode cX10_next 103 = .ok (.ireturn, 1) := by decide +kernel
theorem dX10_close_0 : decode cX10_close 0 = .ok (.aload_n 0, 1) := by decide +kernel
theorem dX10_close_1 : decode cX10_close 1 = .ok (.getfield 60, 3) := by decide +kernel
theorem dX10_close_4 : decode cX10_close 4 = .ok (.iload_n 1, 1) := by decide +kernel
theorem dX10_close_5 : decode cX10_close 5 = .ok (.invokevirtual 203, 3) := by decide +kernel
theorem dX10_close_8 : decode cX10_close 8 = .ok (.ifCond .ne 6, 3) := by decide +kernel
theorem dX10_close_11 : decode cX10_close 11 = .ok (.bipush (-2), 2) := by decide +kernel
theorem dX10_close_13 : decode cX10_close 13 = .ok (.ireturn, 1) := by decide +kernel
theorem dX10_close_14 : decode cX10_close 14 = .ok (.aload_n 0, 1) := by decide +kernel
theorem dX10_close_15 : decode cX10_close 15 = .ok (.getfield 60, 3) := by decide +kernel
theorem dX10_close_18 : decode cX10_close 18 = .ok (.iload_n 1, 1) := by decide +kernel
theorem dX10_close_19 : decode cX10_close 19 = .ok (.invokevirtual 223, 3) := by decide +kernel
theorem dX10_close_22 : decode cX10_close 22 = .ok (.ireturn, 1) := by decide +kernel
theorem dX10_rewrite_0 : decode cX10_rewrite 0 = .ok (.aload_n 0, 1) := by decide +kernel
theorem dX10_rewrite_1 : decode cX10_rewrite 1 = .ok (.getfield 19, 3) := by decide +kernel
theorem dX10_rewrite_4 : decode cX10_rewrite 4 = .ok (.iload_n 1, 1) := by decide +kernel
theorem dX10_rewrite_5 : decode cX10_rewrite 5 = .ok (.invokevirtual 118, 3) := by decide +kernel
theorem dX10_rewrite_8 : decode cX10_rewrite 8 = .ok (.ifCond .ne 6, 3) := by decide +kernel
theorem dX10_rewrite_11 : decode cX10_rewrite 11 = .ok (.bipush (-2), 2) := by decide +kernel
theorem dX10_rewrite_13 : decode cX10_rewrite 13 = .ok (.ireturn, 1) := by decide +kernel
theorem dX10_rewrite_14 : decode cX10_rewrite 14 = .ok (.aload_n 0, 1) := by decide +kernel
theorem dX10_rewrite_15 : decode cX10_rewrite 15 = .ok (.getfield 69, 3) := by decide +kernel
theorem dX10_rewrite_18 : decode cX10_rewrite 18 = .ok (.iload_n 1, 1) := by decide +kernel
theorem dX10_rewrite_19 : decode cX10_rewrite 19 = .ok (.invokevirtual 226, 3) := by decide +kernel
theorem dX10_rewrite_22 : decode cX10_rewrite 22 = .ok (.ireturn, 1) := by decide +kernel
theorem dX10_sum_0 : decode cX10_sum 0 = .ok (.iload_n 1, 1) := by decide +kernel
theorem dX10_sum_1 : decode cX10_sum 1 = .ok (.tableswitch 75 0 4 #[35, 43, 51, 59, 67], 35) := by decide +kernel
theorem dX10_sum_36 : decode cX10_sum 36 = .ok (.aload_n 0, 1) := by decide +kernel
theorem dX10_sum_37 : decode cX10_sum 37 = .ok (.getfield 19, 3) := by decide +kernel
theorem dX10_sum_40 : decode cX10_sum 40 = .ok (.invokevirtual 229, 3) := by decide +kernel
theorem dX10_sum_43 : decode cX10_sum 43 = .ok (.ireturn, 1) := by decide +kernel
theorem dX10_sum_44 : decode cX10_sum 44 = .ok (.aload_n 0, 1) := by decide +kernel
theorem dX10_sum_45 : decode cX10_sum 45 = .ok (.getfield 12, 3) := by decide +kernel
theorem dX10_sum_48 : decode cX10_sum 48 = .ok (.invokevirtual 232, 3) := by decide +kernel
theorem dX10_sum_51 : decode cX10_sum 51 = .ok (.ireturn, 1) := by decide +kernel
theorem dX10_sum_52 : decode cX10_sum 52 = .ok (.aload_n 0, 1) := by decide +kernel
theorem dX10_sum_53 : decode cX10_sum 53 = .ok (.getfield 19, 3) := by decide +kernel
theorem dX10_sum_56 : decode cX10_sum 56 = .ok (.invokevirtual 235, 3) := by decide +kernel
theorem dX10_sum_59 : decode cX10_sum 59 = .ok (.ireturn, 1) := by decide +kernel
theorem dX10_sum_60 : decode cX10_sum 60 = .ok (.aload_n 0, 1) := by decide +kernel
theorem dX10_sum_61 : decode cX10_sum 61 = .ok (.getfield 60, 3) := by decide +kernel
theorem dX10_sum_64 : decode cX10_sum 64 = .ok (.invokevirtual 238, 3) := by decide +kernel
theorem dX10_sum_67 : decode cX10_sum 67 = .ok (.ireturn, 1) := by decide +kernel
theorem dX10_sum_68 : decode cX10_sum 68 = .ok (.aload_n 0, 1) := by decide +kernel
theorem dX10_sum_69 : decode cX10_sum 69 = .ok (.getfield 28, 3) := by decide +kernel
theorem dX10_sum_72 : decode cX10_sum 72 = .ok (.invokevirtual 241, 3) := by decide +kernel
theorem dX10_sum_75 : decode cX10_sum 75 = .ok (.ireturn, 1) := by decide +kernel
theorem dX10_sum_76 : decode cX10_sum 76 = .ok (.bipush (-2), 2) := by decide +kernel
theorem dX10_sum_78 : decode cX10_sum 78 = .ok (.ireturn, 1) := by decide +kernel
theorem dX10_listHasChanged_0 : decode cX10_listHasChanged 0 = .ok (.aload_n 0, 1) := by decide +kernel
theorem dX10_listHasChanged_1 : decode cX10_listHasChanged 1 = .ok (.getfield 28, 3) := by decide +kernel
theorem dX10_listHasChanged_4 : decode cX10_listHasChanged 4 = .ok (.iload_n 1, 1) := by decide +kernel
theorem dX10_listHasChanged_5 : decode cX10_listHasChanged 5 = .ok (.invokevirtual 242, 3) := by decide +kernel
theorem dX10_listHasChanged_8 : decode cX10_listHasChanged 8 = .ok (.aload_n 0, 1) := by decide +kernel
theorem dX10_listHasChanged_9 : decode cX10_listHasChanged 9 = .ok (.getfield 37, 3) := by decide +kernel
theorem dX10_listHasChanged_12 : decode cX10_listHasChanged 12 = .ok (.iconst 0, 1) := by decide +kernel
theorem dX10_listHasChanged_13 : decode cX10_listHasChanged 13 = .ok (.invokevirtual 133, 3) := by decide +kernel
theorem dX10_listHasChanged_16 : decode cX10_listHasChanged 16 = .ok (.return_, 1) := by decide +kernel
theorem dX10_areNumbersOf_0 : decode cX10_areNumbersOf 0 = .ok (.iload_n 1, 1) := by decide +kernel
theorem dX10_areNumbersOf_1 : decode cX10_areNumbersOf 1 = .ok (.tableswitch 161 0 7 #[47, 52, 77, 84, 91, 117, 150, 159], 47) := by decide +kernel
theorem dX10_areNumbersOf_48 : decode cX10_areNumbersOf 48 = .ok (.iload_n 2, 1) := by decide +kernel
theorem dX10_areNumbersOf_49 : decode cX10_areNumbersOf 49 = .ok (.invokestatic 73, 3) := by decide +kernel
theorem dX10_areNumbersOf_52 : decode cX10_areNumbersOf 52 = .ok (.ireturn, 1) := by decide +kernel
theorem dX10_areNumbersOf_53 : decode cX10_areNumbersOf 53 = .ok (.iload_n 2, 1) := by decide +kernel
theorem dX10_areNumbersOf_54 : decode cX10_areNumbersOf 54 = .ok (.invokestatic 77, 3) := by decide +kernel
theorem dX10_areNumbersOf_57 : decode cX10_areNumbersOf 57 = .ok (.ifCond .eq 19, 3) := by decide +kernel
theorem dX10_areNumbersOf_60 : decode cX10_areNumbersOf 60 = .ok (.iload_n 3, 1) := by decide +kernel
theorem dX10_areNumbersOf_61 : decode cX10_areNumbersOf 61 = .ok (.invokestatic 77, 3) := by decide +kernel
theorem dX10_areNumbersOf_64 : decode cX10_areNumbersOf 64 = .ok (.ifCond .eq 12, 3) := by decide +kernel
theorem dX10_areNumbersOf_67 : decode cX10_areNumbersOf 67 = .ok (.iload_n 2, 1) := by decide +kernel
theorem dX10_areNumbersOf_68 : decode cX10_areNumbersOf 68 = .ok (.iload_n 3, 1) := by decide +kernel
theorem dX10_areNumbersOf_69 : decode cX10_areNumbersOf 69 = .ok (.if_icmp .gt 7, 3) := by decide +kernel
theorem dX10_areNumbersOf_72 : decode cX10_areNumbersOf 72 = .ok (.iconst 1, 1) := by decide +kernel
theorem dX10_areNumbersOf_73 : decode cX10_areNumbersOf 73 = .ok (.goto 4, 3) := by decide +kernel
theorem dX10_areNumbersOf_76 : decode cX10_areNumbersOf 76 = .ok (.iconst 0, 1) := by decide +kernel
theorem dX10_areNumbersOf_77 : decode cX10_areNumbersOf 77 = .ok (.ireturn, 1) := by decide +kernel
theorem dX10_areNumbersOf_78 : decode cX10_areNumbersOf 78 = .ok (.iload_n 2, 1) := by decide +kernel
theorem dX10_areNumbersOf_79 : decode cX10_areNumbersOf 79 = .ok (.bipush 8, 2) := by decide +kernel
theorem dX10_areNumbersOf_81 : decode cX10_areNumbersOf 81 = .ok (.invokestatic 81, 3) := by decide +kernel
theorem dX10_areNumbersOf_84 : decode cX10_areNumbersOf 84 = .ok (.ireturn, 1) := by decide +kernel
theorem dX10_areNumbersOf_85 : decode cX10_areNumbersOf 85 = .ok (.iload_n 2, 1) := by decide +kernel
theorem dX10_areNumbersOf_86 : decode cX10_areNumbersOf 86 = .ok (.bipush 100, 2) := by decide +kernel
theorem dX10_areNumbersOf_88 : decode cX10_areNumbersOf 88 = .ok (.invokestatic 81, 3) := by decide +kernel
theorem dX10_areNumbersOf_91 : decode cX10_areNumbersOf 91 = .ok (.ireturn, 1) := by decide +kernel
theorem dX10_areNumbersOf_92 : decode cX10_areNumbersOf 92 = .ok (.aload_n 0, 1) := by decide +kernel
theorem dX10_areNumbersOf_93 : decode cX10_areNumbersOf 93 = .ok (.getfield 19, 3) := by decide +kernel
theorem dX10_areNumbersOf_96 : decode cX10_areNumbersOf 96 = .ok (.iload_n 2, 1) := by decide +kernel
theorem dX10_areNumbersOf_97 : decode cX10_areNumbersOf 97 = .ok (.invokevirtual 118, 3) := by decide +kernel
theorem dX10_areNumbersOf_100 : decode cX10_areNumbersOf 100 = .ok (.ifCond .eq 16, 3) := by decide +kernel
theorem dX10_areNumbersOf_103 : decode cX10_areNumbersOf 103 = .ok (.iload_n 3, 1) := by decide +kernel
theorem dX10_areNumbersOf_104 : decode cX10_areNumbersOf 104 = .ok (.ldc 80, 2) := by decide +kernel
theorem dX10_areNumbersOf_106 : decode cX10_areNumbersOf 106 = .ok (.invokestatic 81, 3) := by decide +kernel
theorem dX10_areNumbersOf_109 : decode cX10_areNumbersOf 109 = .ok (.ifCond .eq 7, 3) := by decide +kernel
theorem dX10_areNumbersOf_112 : decode cX10_areNumbersOf 112 = .ok (.iconst 1, 1) := by decide +kernel
theorem dX10_areNumbersOf_113 : decode cX10_areNumbersOf 113 = .ok (.goto 4, 3) := by decide +kernel
theorem dX10_areNumbersOf_116 : decode cX10_areNumbersOf 116 = .ok (.iconst 0, 1) := by decide +kernel
theorem dX10_areNumbersOf_117 : decode cX10_areNumbersOf 117 = .ok (.ireturn, 1) := by decide +kernel
theorem dX10_areNumbersOf_118 : decode cX10_areNumbersOf 118 = .ok (.aload_n 0, 1) := by decide +kernel
theorem dX10_areNumbersOf_119 : decode cX10_areNumbersOf 119 = .ok (.getfield 19, 3) := by decide +kernel
theorem dX10_areNumbersOf_122 : decode cX10_areNumbersOf 122 = .ok (.iload_n 2, 1) := by decide +kernel
theorem dX10_areNumbersOf_123 : decode cX10_areNumbersOf 123 = .ok (.invokevirtual 118, 3) := by decide +kernel
theorem dX10_areNumbersOf_126 : decode cX10_areNumbersOf 126 = .ok (.ifCond .eq 23, 3) := by decide +kernel
theorem dX10_areNumbersOf_129 : decode cX10_areNumbersOf 129 = .ok (.iload_n 3, 1) := by decide +kernel
theorem dX10_areNumbersOf_130 : decode cX10_areNumbersOf 130 = .ok (.ldc 245, 2) := by decide +kernel
theorem dX10_areNumbersOf_132 : decode cX10_areNumbersOf 132 = .ok (.invokestatic 81, 3) := by decide +kernel
theorem dX10_areNumbersOf_135 : decode cX10_areNumbersOf 135 = .ok (.ifCond .eq 14, 3) := by decide +kernel
theorem dX10_areNumbersOf_138 : decode cX10_areNumbersOf 138 = .ok (.iload_n 3, 1) := by decide +kernel
theorem dX10_areNumbersOf_139 : decode cX10_areNumbersOf 139 = .ok (.invokestatic 246, 3) := by decide +kernel
theorem dX10_areNumbersOf_142 : decode cX10_areNumbersOf 142 = .ok (.ifCond .le 7, 3) := by decide +kernel
theorem dX10_areNumbersOf_145 : decode cX10_areNumbersOf 145 = .ok (.iconst 1, 1) := by decide +kernel
theorem dX10_areNumbersOf_146 : decode cX10_areNumbersOf 146 = .ok (.goto 4, 3) := by decide +kernel
theorem dX10_areNumbersOf_149 : decode cX10_areNumbersOf 149 = .ok (.iconst 0, 1) := by decide +kernel
theorem dX10_areNumbersOf_150 : decode cX10_areNumbersOf 150 = .ok (.ireturn, 1) := by decide +kernel
theorem dX10_areNumbersOf_151 : decode cX10_areNumbersOf 151 = .ok (.aload_n 0, 1) := by decide +kernel
theorem dX10_areNumbersOf_152 : decode cX10_areNumbersOf 152 = .ok (.getfield 19, 3) := by decide +kernel
theorem dX10_areNumbersOf_155 : decode cX10_areNumbersOf 155 = .ok (.iload_n 2, 1) := by decide +kernel
theorem dX10_areNumbersOf_156 : decode cX10_areNumbersOf 156 = .ok (.invokevirtual 118, 3) := by decide +kernel
theorem dX10_areNumbersOf_159 : decode cX10_areNumbersOf 159 = .ok (.ireturn, 1) := by decide +kernel
theorem dX10_areNumbersOf_160 : decode cX10_areNumbersOf 160 = .ok (.iconst 1, 1) := by decide +kernel
theorem dX10_areNumbersOf_161 : decode cX10_areNumbersOf 161 = .ok (.ireturn, 1) := by decide +kernel
theorem dX10_areNumbersOf_162 : decode cX10_areNumbersOf 162 = .ok (.iconst 0, 1) := by decide +kernel
theorem dX10_areNumbersOf_163 : decode cX10_areNumbersOf 163 = .ok (.ireturn, 1) := by decide +kernel
theorem dX10_hasSecondNumber_0 : decode cX10_hasSecondNumber 0 = .ok (.iload_n 0, 1) := by decide +kernel
theorem dX10_hasSecondNumber_1 : decode cX10_hasSecondNumber 1 = .ok (.iconst 1, 1) := by decide +kernel
theorem dX10_hasSecondNumber_2 : decode cX10_hasSecondNumber 2 = .ok (.if_icmp .eq 13, 3) := by decide +kernel
theorem dX10_hasSecondNumber_5 : decode cX10_hasSecondNumber 5 = .ok (.iload_n 0, 1) := by decide +kernel
theorem dX10_hasSecondNumber_6 : decode cX10_hasSecondNumber 6 = .ok (.iconst 4, 1) := by decide +kernel
theorem dX10_hasSecondNumber_7 : decode cX10_hasSecondNumber 7 = .ok (.if_icmp .eq 8, 3) := by decide +kernel
theorem dX10_hasSecondNumber_10 : decode cX10_hasSecondNumber 10 = .ok (.iload_n 0, 1) := by decide +kernel
theorem dX10_hasSecondNumber_11 : decode cX10_hasSecondNumber 11 = .ok (.iconst 5, 1) := by decide +kernel
theorem dX10_hasSecondNumber_12 : decode cX10_hasSecondNumber 12 = .ok (.if_icmp .ne 7, 3) := by decide +kernel
theorem dX10_hasSecondNumber_15 : decode cX10_hasSecondNumber 15 = .ok (.iconst 1, 1) := by decide +kernel
theorem dX10_hasSecondNumber_16 : decode cX10_hasSecondNumber 16 = .ok (.goto 4, 3) := by decide +kernel
theorem dX10_hasSecondNumber_19 : decode cX10_hasSecondNumber 19 = .ok (.iconst 0, 1) := by decide +kernel
theorem dX10_hasSecondNumber_20 : decode cX10_hasSecondNumber 20 = .ok (.ireturn, 1) := by decide +kernel
theorem dX10_isRoleOf_0 : decode cX10_isRoleOf 0 = .ok (.iload_n 0, 1) := by decide +kernel
theorem dX10_isRoleOf_1 : decode cX10_isRoleOf 1 = .ok (.iconst 2, 1) := by decide +kernel
theorem dX10_isRoleOf_2 : decode cX10_isRoleOf 2 = .ok (.if_icmp .ne 11, 3) := by decide +kernel
theorem dX10_isRoleOf_5 : decode cX10_isRoleOf 5 = .ok (.iload_n 1, 1) := by decide +kernel
theorem dX10_isRoleOf_6 : decode cX10_isRoleOf 6 = .ok (.iconst 3, 1) := by decide +kernel
theorem dX10_isRoleOf_7 : decode cX10_isRoleOf 7 = .ok (.invokestatic 81, 3) := by decide +kernel
theorem dX10_isRoleOf_10 : decode cX10_isRoleOf 10 = .ok (.ifCond .ne 13, 3) := by decide +kernel
theorem dX10_isRoleOf_13 : decode cX10_isRoleOf 13 = .ok (.iload_n 0, 1) := by decide +kernel
theorem dX10_isRoleOf_14 : decode cX10_isRoleOf 14 = .ok (.iconst 3, 1) := by decide +kernel
theorem dX10_isRoleOf_15 : decode cX10_isRoleOf 15 = .ok (.if_icmp .ne 12, 3) := by decide +kernel
theorem dX10_isRoleOf_18 : decode cX10_isRoleOf 18 = .ok (.iload_n 1, 1) := by decide +kernel
theorem dX10_isRoleOf_19 : decode cX10_isRoleOf 19 = .ok (.iconst 3, 1) := by decide +kernel
theorem dX10_isRoleOf_20 : decode cX10_isRoleOf 20 = .ok (.if_icmp .ne 7, 3) := by decide +kernel
theorem dX10_isRoleOf_23 : decode cX10_isRoleOf 23 = .ok (.iconst 1, 1) := by decide +kernel
theorem dX10_isRoleOf_24 : decode cX10_isRoleOf 24 = .ok (.goto 4, 3) := by decide +kernel
theorem dX10_isRoleOf_27 : decode cX10_isRoleOf 27 = .ok (.iconst 0, 1) := by decide +kernel
theorem dX10_isRoleOf_28 : decode cX10_isRoleOf 28 = .ok (.ireturn, 1) := by decide +kernel
theorem dX10_isNeeded_0 : decode cX10_isNeeded 0 = .ok (.iload_n 0, 1) := by decide +kernel
theorem dX10_isNeeded_1 : decode cX10_isNeeded 1 = .ok (.ifCond .eq 8, 3) := by decide +kernel
theorem dX10_isNeeded_4 : decode cX10_isNeeded 4 = .ok (.iload_n 0, 1) := by decide +kernel
theorem dX10_isNeeded_5 : decode cX10_isNeeded 5 = .ok (.iconst 1, 1) := by decide +kernel
theorem dX10_isNeeded_6 : decode cX10_isNeeded 6 = .ok (.if_icmp .ne 7, 3) := by decide +kernel
theorem dX10_isNeeded_9 : decode cX10_isNeeded 9 = .ok (.iconst 1, 1) := by decide +kernel
theorem dX10_isNeeded_10 : decode cX10_isNeeded 10 = .ok (.goto 4, 3) := by decide +kernel
theorem dX10_isNeeded_13 : decode cX10_isNeeded 13 = .ok (.iconst 0, 1) := by decide +kernel
theorem dX10_isNeeded_14 : decode cX10_isNeeded 14 = .ok (.ireturn, 1) := by decide +kernel
theorem dX10_modulusOf_0 : decode cX10_modulusOf 0 = .ok (.iload_n 0, 1) := by decide +kernel
theorem dX10_modulusOf_1 : decode cX10_modulusOf 1 = .ok (.sipush 1000, 3) := by decide +kernel
theorem dX10_modulusOf_4 : decode cX10_modulusOf 4 = .ok (.idiv, 1) := by decide +kernel
theorem dX10_modulusOf_5 : decode cX10_modulusOf 5 = .ok (.sipush 1000, 3) := by decide +kernel
theorem dX10_modulusOf_8 : decode cX10_modulusOf 8 = .ok (.irem, 1) := by decide +kernel
theorem dX10_modulusOf_9 : decode cX10_modulusOf 9 = .ok (.ireturn, 1) := by decide +kernel
theorem dX10_isList_0 : decode cX10_isList 0 = .ok (.iload_n 0, 1) := by decide +kernel
theorem dX10_isList_1 : decode cX10_isList 1 = .ok (.bipush 15, 2) := by decide +kernel
theorem dX10_isList_3 : decode cX10_isList 3 = .ok (.invokestatic 81, 3) := by decide +kernel
theorem dX10_isList_6 : decode cX10_isList 6 = .ok (.ireturn, 1) := by decide +kernel
theorem dX10_isObject_0 : decode cX10_isObject 0 = .ok (.iload_n 0, 1) := by decide +kernel
theorem dX10_isObject_1 : decode cX10_isObject 1 = .ok (.sipush 511, 3) := by decide +kernel
theorem dX10_isObject_4 : decode cX10_isObject 4 = .ok (.invokestatic 81, 3) := by decide +kernel
theorem dX10_isObject_7 : decode cX10_isObject 7 = .ok (.ireturn, 1) := by decide +kernel
theorem dX10_isWithin_0 : decode cX10_isWithin 0 = .ok (.iload_n 0, 1) := by decide +kernel
theorem dX10_isWithin_1 : decode cX10_isWithin 1 = .ok (.ifCond .lt 12, 3) := by decide +kernel
theorem dX10_isWithin_4 : decode cX10_isWithin 4 = .ok (.iload_n 0, 1) := by decide +kernel
theorem dX10_isWithin_5 : decode cX10_isWithin 5 = .ok (.iload_n 1, 1) := by decide +kernel
theorem dX10_isWithin_6 : decode cX10_isWithin 6 = .ok (.if_icmp .gt 7, 3) := by decide +kernel
theorem dX10_isWithin_9 : decode cX10_isWithin 9 = .ok (.iconst 1, 1) := by decide +kernel
theorem dX10_isWithin_10 : decode cX10_isWithin 10 = .ok (.goto 4, 3) := by decide +kernel
theorem dX10_isWithin_13 : decode cX10_isWithin 13 = .ok (.iconst 0, 1) := by decide +kernel
theorem dX10_isWithin_14 : decode cX10_isWithin 14 = .ok (.ireturn, 1) := by decide +kernel
theorem dX11_init_0 : decode cX11_init 0 = .ok (.aload_n 0, 1) := by decide +kernel
theorem dX11_init_1 : decode cX11_init 1 = .ok (.invokespecial 1, 3) := by decide +kernel
theorem dX11_init_4 : decode cX11_init 4 = .ok (.aload_n 0, 1) := by decide +kernel
theorem dX11_init_5 : decode cX11_init 5 = .ok (.sipush 8192, 3) := by decide +kernel
theorem dX11_init_8 : decode cX11_init 8 = .ok (.newarray .int, 2) := by decide +kernel
theorem dX11_init_10 : decode cX11_init 10 = .ok (.putfield 7, 3) := by decide +kernel
theorem dX11_init_13 : decode cX11_init 13 = .ok (.aload_n 0, 1) := by decide +kernel
theorem dX11_init_14 : decode cX11_init 14 = .ok (.bipush 16, 2) := by decide +kernel
theorem dX11_init_16 : decode cX11_init 16 = .ok (.newarray .int, 2) := by decide +kernel
theorem dX11_init_18 : decode cX11_init 18 = .ok (.putfield 13, 3) := by decide +kernel
theorem dX11_init_21 : decode cX11_init 21 = .ok (.aload_n 0, 1) := by decide +kernel
theorem dX11_init_22 : decode cX11_init 22 = .ok (.bipush 80, 2) := by decide +kernel
theorem dX11_init_24 : decode cX11_init 24 = .ok (.newarray .int, 2) := by decide +kernel
theorem dX11_init_26 : decode cX11_init 26 = .ok (.putfield 16, 3) := by decide +kernel
theorem dX11_init_29 : decode cX11_init 29 = .ok (.aload_n 0, 1) := by decide +kernel
theorem dX11_init_30 : decode cX11_init 30 = .ok (.bipush 80, 2) := by decide +kernel
theorem dX11_init_32 : decode cX11_init 32 = .ok (.newarray .int, 2) := by decide +kernel
theorem dX11_init_34 : decode cX11_init 34 = .ok (.putfield 19, 3) := by decide +kernel
theorem dX11_init_37 : decode cX11_init 37 = .ok (.aload_n 0, 1) := by decide +kernel
theorem dX11_init_38 : decode cX11_init 38 = .ok (.bipush 80, 2) := by decide +kernel
theorem dX11_init_40 : decode cX11_init 40 = .ok (.newarray .int, 2) := by decide +kernel
theorem dX11_init_42 : decode cX11_init 42 = .ok (.putfield 22, 3) := by decide +kernel
theorem dX11_init_45 : decode cX11_init 45 = .ok (.aload_n 0, 1) := by decide +kernel
theorem dX11_init_46 : decode cX11_init 46 = .ok (.bipush 80, 2) := by decide +kernel
theorem dX11_init_48 : decode cX11_init 48 = .ok (.newarray .int, 2) := by decide +kernel
theorem dX11_init_50 : decode cX11_init 50 = .ok (.putfield 25, 3) := by decide +kernel
theorem dX11_init_53 : decode cX11_init 53 = .ok (.aload_n 0, 1) := by decide +kernel
theorem dX11_init_54 : decode cX11_init 54 = .ok (.sipush 640, 3) := by decide +kernel
theorem dX11_init_57 : decode cX11_init 57 = .ok (.newarray .int, 2) := by decide +kernel
theorem dX11_init_59 : decode cX11_init 59 = .ok (.putfield 28, 3) := by decide +kernel
theorem dX11_init_62 : decode cX11_init 62 = .ok (.aload_n 0, 1) := by decide +kernel
theorem dX11_init_63 : decode cX11_init 63 = .ok (.sipush 640, 3) := by decide +kernel
theorem dX11_init_66 : decode cX11_init 66 = .ok (.newarray .int, 2) := by decide +kernel
theorem dX11_init_68 : decode cX11_init 68 = .ok (.putfield 31, 3) := by decide +kernel
theorem dX11_init_71 : decode cX11_init 71 = .ok (.aload_n 0, 1) := by decide +kernel
theorem dX11_init_72 : decode cX11_init 72 = .ok (.bipush 80, 2) := by decide +kernel
theorem dX11_init_74 : decode cX11_init 74 = .ok (.newarray .int, 2) := by decide +kernel
theorem dX11_init_76 : decode cX11_init 76 = .ok (.putfield 34, 3) := by decide +kernel
theorem dX11_init_79 : decode cX11_init 79 = .ok (.aload_n 0, 1) := by decide +kernel
theorem dX11_init_80 : decode cX11_init 80 = .ok (.bipush 80, 2) := by decide +kernel
theorem dX11_init_82 : decode cX11_init 82 = .ok (.newarray .int, 2) := by decide +kernel
theorem dX11_init_84 : decode cX11_init 84 = .ok (.putfield 37, 3) := by decide +kernel
theorem dX11_init_87 : decode cX11_init 87 = .ok (.aload_n 0, 1) := by decide +kernel
theorem dX11_init_88 : decode cX11_init 88 = .ok (.ldc 40, 2) := by decide +kernel
theorem dX11_init_90 : decode cX11_init 90 = .ok (.newarray .boolean, 2) := by decide +kernel
theorem dX11_init_92 : decode cX11_init 92 = .ok (.putfield 41, 3) := by decide +kernel
theorem dX11_init_95 : decode cX11_init 95 = .ok (.aload_n 0, 1) := by decide +kernel
theorem dX11_init_96 : decode cX11_init 96 = .ok (.bipush 8, 2) := by decide +kernel
theorem dX11_init_98 : decode cX11_init 98 = .ok (.newarray .int, 2) := by decide +kernel
theorem dX11_init_100 : decode cX11_init 100 = .ok (.putfield 45, 3) := by decide +kernel
theorem dX11_init_103 : decode cX11_init 103 = .ok (.aload_n 0, 1) := by decide +kernel
theorem dX11_init_104 : decode cX11_init 104 = .ok (.bipush 8, 2) := by decide +kernel
theorem dX11_init_106 : decode cX11_init 106 = .ok (.newarray .int, 2) := by decide +kernel
theorem dX11_init_108 : decode cX11_init 108 = .ok (.putfield 48, 3) := by decide +kernel
theorem dX11_init_111 : decode cX11_init 111 = .ok (.aload_n 0, 1) := by decide +kernel
theorem dX11_init_112 : decode cX11_init 112 = .ok (.bipush 8, 2) := by decide +kernel
theorem dX11_init_114 : decode cX11_init 114 = .ok (.newarray .boolean, 2) := by decide +kernel
theorem dX11_init_116 : decode cX11_init 116 = .ok (.putfield 51, 3) := by decide +kernel
theorem dX11_init_119 : decode cX11_init 119 = .ok (.aload_n 0, 1) := by decide +kernel
theorem dX11_init_120 : decode cX11_init 120 = .ok (.bipush 8, 2) := by decide +kernel
theorem dX11_init_122 : decode cX11_init 122 = .ok (.newarray .int, 2) := by decide +kernel
theorem dX11_init_124 : decode cX11_init 124 = .ok (.putfield 54, 3) := by decide +kernel
theorem dX11_init_127 : decode cX11_init 127 = .ok (.aload_n 0, 1) := by decide +kernel
theorem dX11_init_128 : decode cX11_init 128 = .ok (.bipush 80, 2) := by decide +kernel
theorem dX11_init_130 : decode cX11_init 130 = .ok (.newarray .boolean, 2) := by decide +kernel
theorem dX11_init_132 : decode cX11_init 132 = .ok (.putfield 57, 3) := by decide +kernel
theorem dX11_init_135 : decode cX11_init 135 = .ok (.aload_n 0, 1) := by decide +kernel
theorem dX11_init_136 : decode cX11_init 136 = .ok (.bipush 80, 2) := by decide +kernel
theorem dX11_init_138 : decode cX11_init 138 = .ok (.newarray .int, 2) := by decide +kernel
theorem dX11_init_140 : decode cX11_init 140 = .ok (.putfield 60, 3) := by decide +kernel
theorem dX11_init_143 : decode cX11_init 143 = .ok (.aload_n 0, 1) := by decide +kernel
theorem dX11_init_144 : decode cX11_init 144 = .ok (.bipush 80, 2) := by decide +kernel
theorem dX11_init_146 : decode cX11_init 146 = .ok (.newarray .boolean, 2) := by decide +kernel
theorem dX11_init_148 : decode cX11_init 148 = .ok (.putfield 63, 3) := by decide +kernel
theorem dX11_init_151 : decode cX11_init 151 = .ok (.aload_n 0, 1) := by decide +kernel
theorem dX11_init_152 : decode cX11_init 152 = .ok (.bipush 80, 2) := by decide +kernel
theorem dX11_init_154 : decode cX11_init 154 = .ok (.newarray .boolean, 2) := by decide +kernel
theorem dX11_init_156 : decode cX11_init 156 = .ok (.putfield 66, 3) := by decide +kernel
theorem dX11_init_159 : decode cX11_init 159 = .ok (.aload_n 0, 1) := by decide +kernel
theorem dX11_init_160 : decode cX11_init 160 = .ok (.bipush 80, 2) := by decide +kernel
theorem dX11_init_162 : decode cX11_init 162 = .ok (.newarray .int, 2) := by decide +kernel
theorem dX11_init_164 : decode cX11_init 164 = .ok (.putfield 69, 3) := by decide +kernel
theorem dX11_init_167 : decode cX11_init 167 = .ok (.aload_n 0, 1) := by decide +kernel
theorem dX11_init_168 : decode cX11_init 168 = .ok (.bipush 80, 2) := by decide +kernel
theorem dX11_init_170 : decode cX11_init 170 = .ok (.newarray .long, 2) := by decide +kernel
theorem dX11_init_172 : decode cX11_init 172 = .ok (.putfield 72, 3) := by decide +kernel
theorem dX11_init_175 : decode cX11_init 175 = .ok (.aload_n 0, 1) := by decide +kernel
theorem dX11_init_176 : decode cX11_init 176 = .ok (.sipush 640, 3) := by decide +kernel
theorem dX11_init_179 : decode cX11_init 179 = .ok (.newarray .int, 2) := by decide +kernel
theorem dX11_init_181 : decode cX11_init 181 = .ok (.putfield 76, 3) := by decide +kernel
theorem dX11_init_184 : decode cX11_init 184 = .ok (.aload_n 0, 1) := by decide +kernel
theorem dX11_init_185 : decode cX11_init 185 = .ok (.bipush 80, 2) := by decide +kernel
theorem dX11_init_187 : decode cX11_init 187 = .ok (.newarray .int, 2) := by decide +kernel
theorem dX11_init_189 : decode cX11_init 189 = .ok (.putfield 79, 3) := by decide +kernel
theorem dX11_init_192 : decode cX11_init 192 = .ok (.aload_n 0, 1) := by decide +kernel
theorem dX11_init_193 : decode cX11_init 193 = .ok (.bipush 90, 2) := by decide +kernel
theorem dX11_init_195 : decode cX11_init 195 = .ok (.newarray .int, 2) := by decide +kernel
theorem dX11_init_197 : decode cX11_init 197 = .ok (.putfield 82, 3) := by decide +kernel
theorem dX11_init_200 : decode cX11_init 200 = .ok (.aload_n 0, 1) := by decide +kernel
theorem dX11_init_201 : decode cX11_init 201 = .ok (.sipush 512, 3) := by decide +kernel
theorem dX11_init_204 : decode cX11_init 204 = .ok (.newarray .int, 2) := by decide +kernel
theorem dX11_init_206 : decode cX11_init 206 = .ok (.putfield 85, 3) := by decide +kernel
theorem dX11_init_209 : decode cX11_init 209 = .ok (.aload_n 0, 1) := by decide +kernel
theorem dX11_init_210 : decode cX11_init 210 = .ok (.sipush 512, 3) := by decide +kernel
theorem dX11_init_213 : decode cX11_init 213 = .ok (.newarray .long, 2) := by decide +kernel
theorem dX11_init_215 : decode cX11_init 215 = .ok (.putfield 88, 3) := by decide +kernel
theorem dX11_init_218 : decode cX11_init 218 = .ok (.aload_n 0, 1) := by decide +kernel
theorem dX11_init_219 : decode cX11_init 219 = .ok (.bipush 80, 2) := by decide +kernel
theorem dX11_init_221 : decode cX11_init 221 = .ok (.newarray .int, 2) := by decide +kernel
theorem dX11_init_223 : decode cX11_init 223 = .ok (.putfield 91, 3) := by decide +kernel
theorem dX11_init_226 : decode cX11_init 226 = .ok (.aload_n 0, 1) := by decide +kernel
theorem dX11_init_227 : decode cX11_init 227 = .ok (.bipush 80, 2) := by decide +kernel
theorem dX11_init_229 : decode cX11_init 229 = .ok (.newarray .int, 2) := by decide +kernel
theorem dX11_init_231 : decode cX11_init 231 = .ok (.putfield 94, 3) := by decide +kernel
theorem dX11_init_234 : decode cX11_init 234 = .ok (.aload_n 0, 1) := by decide +kernel
theorem dX11_init_235 : decode cX11_init 235 = .ok (.bipush 80, 2) := by decide +kernel
theorem dX11_init_237 : decode cX11_init 237 = .ok (.newarray .int, 2) := by decide +kernel
theorem dX11_init_239 : decode cX11_init 239 = .ok (.putfield 97, 3) := by decide +kernel
theorem dX11_init_242 : decode cX11_init 242 = .ok (.aload_n 0, 1) := by decide +kernel
theorem dX11_init_243 : decode cX11_init 243 = .ok (.bipush 80, 2) := by decide +kernel
theorem dX11_init_245 : decode cX11_init 245 = .ok (.newarray .boolean, 2) := by decide +kernel
theorem dX11_init_247 : decode cX11_init 247 = .ok (.putfield 100, 3) := by decide +kernel
theorem dX11_init_250 : decode cX11_init 250 = .ok (.iconst 0, 1) := by decide +kernel
theorem dX11_init_251 : decode cX11_init 251 = .ok (.istore_n 1, 1) := by decide +kernel
theorem dX11_init_252 : decode cX11_init 252 = .ok (.iload_n 1, 1) := by decide +kernel
theorem dX11_init_253 : decode cX11_init 253 = .ok (.sipush 8192, 3) := by decide +kernel
theorem dX11_init_256 : decode cX11_init 256 = .ok (.if_icmp .ge 16, 3) := by decide +kernel
theorem dX11_init_259 : decode cX11_init 259 = .ok (.aload_n 0, 1) := by decide +kernel
theorem dX11_init_260 : decode cX11_init 260 = .ok (.getfield 7, 3) := by decide +kernel
theorem dX11_init_263 : decode cX11_init 263 = .ok (.iload_n 1, 1) := by decide +kernel
theorem dX11_init_264 : decode cX11_init 264 = .ok (.iconst (-1), 1) := by decide +kernel
theorem dX11_init_265 : decode cX11_init 265 = .ok (.iastore, 1) := by decide +kernel
theorem dX11_init_266 : decode cX11_init 266 = .ok (.iinc 1 1, 3) := by decide +kernel
theorem dX11_init_269 : decode cX11_init 269 = .ok (.goto (-17), 3) := by decide +kernel
theorem dX11_init_272 : decode cX11_init 272 = .ok (.iconst 0, 1) := by decide +kernel
theorem dX11_init_273 : decode cX11_init 273 = .ok (.istore_n 1, 1) := by decide +kernel
theorem dX11_init_274 : decode cX11_init 274 = .ok (.iload_n 1, 1) := by decide +kernel
theorem dX11_init_275 : decode cX11_init 275 = .ok (.bipush 8, 2) := by decide +kernel
theorem dX11_init_277 : decode cX11_init 277 = .ok (.if_icmp .ge 16, 3) := by decide +kernel
theorem dX11_init_280 : decode cX11_init 280 = .ok (.aload_n 0, 1) := by decide +kernel
theorem dX11_init_281 : decode cX11_init 281 = .ok (.getfield 45, 3) := by decide +kernel
theorem dX11_init_284 : decode cX11_init 284 = .ok (.iload_n 1, 1) := by decide +kernel
theorem dX11_init_285 : decode cX11_init 285 = .ok (.iconst (-1), 1) := by decide +kernel
