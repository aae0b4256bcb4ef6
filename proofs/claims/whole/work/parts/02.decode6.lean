theorem dX11_newBest_5 : decode cX11_newBest 5 = .ok (.iconst 0, 1) := by decide +kernel
theorem dX11_newBest_6 : decode cX11_newBest 6 = .ok (.istore_n 2, 1) := by decide +kernel
theorem dX11_newBest_7 : decode cX11_newBest 7 = .ok (.iload_n 2, 1) := by decide +kernel
theorem dX11_newBest_8 : decode cX11_newBest 8 = .ok (.aload_n 0, 1) := by decide +kernel
theorem dX11_newBest_9 : decode cX11_newBest 9 = .ok (.getfield 25, 3) := by decide +kernel
theorem dX11_newBest_12 : decode cX11_newBest 12 = .ok (.iload_n 1, 1) := by decide +kernel
theorem dX11_newBest_13 : decode cX11_newBest 13 = .ok (.iaload, 1) := by decide +kernel
theorem dX11_newBest_14 : decode cX11_newBest 14 = .ok (.if_icmp .ge 43, 3) := by decide +kernel
theorem dX11_newBest_17 : decode cX11_newBest 17 = .ok (.aload_n 0, 1) := by decide +kernel
theorem dX11_newBest_18 : decode cX11_newBest 18 = .ok (.getfield 91, 3) := by decide +kernel
theorem dX11_newBest_21 : decode cX11_newBest 21 = .ok (.aload_n 0, 1) := by decide +kernel
theorem dX11_newBest_22 : decode cX11_newBest 22 = .ok (.getfield 31, 3) := by decide +kernel
theorem dX11_newBest_25 : decode cX11_newBest 25 = .ok (.bipush 8, 2) := by decide +kernel
theorem dX11_newBest_27 : decode cX11_newBest 27 = .ok (.iload_n 1, 1) := by decide +kernel
theorem dX11_newBest_28 : decode cX11_newBest 28 = .ok (.imul, 1) := by decide +kernel
theorem dX11_newBest_29 : decode cX11_newBest 29 = .ok (.iload_n 2, 1) := by decide +kernel
theorem dX11_newBest_30 : decode cX11_newBest 30 = .ok (.iadd, 1) := by decide +kernel
theorem dX11_newBest_31 : decode cX11_newBest 31 = .ok (.iaload, 1) := by decide +kernel
theorem dX11_newBest_32 : decode cX11_newBest 32 = .ok (.iaload, 1) := by decide +kernel
theorem dX11_newBest_33 : decode cX11_newBest 33 = .ok (.istore_n 3, 1) := by decide +kernel
theorem dX11_newBest_34 : decode cX11_newBest 34 = .ok (.aload_n 0, 1) := by decide +kernel
theorem dX11_newBest_35 : decode cX11_newBest 35 = .ok (.getfield 16, 3) := by decide +kernel
theorem dX11_newBest_38 : decode cX11_newBest 38 = .ok (.iload_n 3, 1) := by decide +kernel
theorem dX11_newBest_39 : decode cX11_newBest 39 = .ok (.iaload, 1) := by decide +kernel
theorem dX11_newBest_40 : decode cX11_newBest 40 = .ok (.bipush 7, 2) := by decide +kernel
theorem dX11_newBest_42 : decode cX11_newBest 42 = .ok (.if_icmp .eq 9, 3) := by decide +kernel
theorem dX11_newBest_45 : decode cX11_newBest 45 = .ok (.aload_n 0, 1) := by decide +kernel
theorem dX11_newBest_46 : decode cX11_newBest 46 = .ok (.iconst 3, 1) := by decide +kernel
theorem dX11_newBest_47 : decode cX11_newBest 47 = .ok (.iload_n 3, 1) := by decide +kernel
theorem dX11_newBest_48 : decode cX11_newBest 48 = .ok (.invokevirtual 206, 3) := by decide +kernel
theorem dX11_newBest_51 : decode cX11_newBest 51 = .ok (.iinc 2 1, 3) := by decide +kernel
theorem dX11_newBest_54 : decode cX11_newBest 54 = .ok (.goto (-47), 3) := by decide +kernel
theorem dX11_newBest_57 : decode cX11_newBest 57 = .ok (.aload_n 0, 1) := by decide +kernel
theorem dX11_newBest_58 : decode cX11_newBest 58 = .ok (.getfield 199, 3) := by decide +kernel
theorem dX11_newBest_61 : decode cX11_newBest 61 = .ok (.ifCond .ne 14, 3) := by decide +kernel
theorem dX11_newBest_64 : decode cX11_newBest 64 = .ok (.aload_n 0, 1) := by decide +kernel
theorem dX11_newBest_65 : decode cX11_newBest 65 = .ok (.bipush 7, 2) := by decide +kernel
theorem dX11_newBest_67 : decode cX11_newBest 67 = .ok (.iconst 0, 1) := by decide +kernel
theorem dX11_newBest_68 : decode cX11_newBest 68 = .ok (.iconst 0, 1) := by decide +kernel
theorem dX11_newBest_69 : decode cX11_newBest 69 = .ok (.invokevirtual 202, 3) := by decide +kernel
theorem dX11_newBest_72 : decode cX11_newBest 72 = .ok (.goto 32, 3) := by decide +kernel
theorem dX11_newBest_75 : decode cX11_newBest 75 = .ok (.aload_n 0, 1) := by decide +kernel
theorem dX11_newBest_76 : decode cX11_newBest 76 = .ok (.getfield 199, 3) := by decide +kernel
theorem dX11_newBest_79 : decode cX11_newBest 79 = .ok (.iconst 1, 1) := by decide +kernel
theorem dX11_newBest_80 : decode cX11_newBest 80 = .ok (.if_icmp .ne 12, 3) := by decide +kernel
theorem dX11_newBest_83 : decode cX11_newBest 83 = .ok (.aload_n 0, 1) := by decide +kernel
theorem dX11_newBest_84 : decode cX11_newBest 84 = .ok (.getfield 97, 3) := by decide +kernel
theorem dX11_newBest_87 : decode cX11_newBest 87 = .ok (.iconst 0, 1) := by decide +kernel
theorem dX11_newBest_88 : decode cX11_newBest 88 = .ok (.iaload, 1) := by decide +kernel
theorem dX11_newBest_89 : decode cX11_newBest 89 = .ok (.goto 15, 3) := by decide +kernel
theorem dX11_newBest_92 : decode cX11_newBest 92 = .ok (.aload_n 0, 1) := by decide +kernel
theorem dX11_newBest_93 : decode cX11_newBest 93 = .ok (.iconst 3, 1) := by decide +kernel
theorem dX11_newBest_94 : decode cX11_newBest 94 = .ok (.aload_n 0, 1) := by decide +kernel
theorem dX11_newBest_95 : decode cX11_newBest 95 = .ok (.getfield 19, 3) := by decide +kernel
theorem dX11_newBest_98 : decode cX11_newBest 98 = .ok (.iload_n 1, 1) := by decide +kernel
theorem dX11_newBest_99 : decode cX11_newBest 99 = .ok (.iaload, 1) := by decide +kernel
theorem dX11_newBest_100 : decode cX11_newBest 100 = .ok (.iconst 0, 1) := by decide +kernel
theorem dX11_newBest_101 : decode cX11_newBest 101 = .ok (.invokevirtual 202, 3) := by decide +kernel
theorem dX11_newBest_104 : decode cX11_newBest 104 = .ok (.ireturn, 1) := by decide +kernel
theorem dX11_count_0 : decode cX11_count 0 = .ok (.iconst 0, 1) := by decide +kernel
theorem dX11_count_1 : decode cX11_count 1 = .ok (.istore_n 2, 1) := by decide +kernel
theorem dX11_count_2 : decode cX11_count 2 = .ok (.iconst 0, 1) := by decide +kernel
theorem dX11_count_3 : decode cX11_count 3 = .ok (.istore_n 3, 1) := by decide +kernel
theorem dX11_count_4 : decode cX11_count 4 = .ok (.iload_n 3, 1) := by decide +kernel
theorem dX11_count_5 : decode cX11_count 5 = .ok (.aload_n 0, 1) := by decide +kernel
theorem dX11_count_6 : decode cX11_count 6 = .ok (.getfield 199, 3) := by decide +kernel
theorem dX11_count_9 : decode cX11_count 9 = .ok (.if_icmp .ge 27, 3) := by decide +kernel
theorem dX11_count_12 : decode cX11_count 12 = .ok (.iload_n 2, 1) := by decide +kernel
theorem dX11_count_13 : decode cX11_count 13 = .ok (.aload_n 0, 1) := by decide +kernel
theorem dX11_count_14 : decode cX11_count 14 = .ok (.getfield 94, 3) := by decide +kernel
theorem dX11_count_17 : decode cX11_count 17 = .ok (.iload_n 3, 1) := by decide +kernel
theorem dX11_count_18 : decode cX11_count 18 = .ok (.iaload, 1) := by decide +kernel
theorem dX11_count_19 : decode cX11_count 19 = .ok (.iload_n 1, 1) := by decide +kernel
theorem dX11_count_20 : decode cX11_count 20 = .ok (.if_icmp .ne 7, 3) := by decide +kernel
theorem dX11_count_23 : decode cX11_count 23 = .ok (.iconst 1, 1) := by decide +kernel
theorem dX11_count_24 : decode cX11_count 24 = .ok (.goto 4, 3) := by decide +kernel
theorem dX11_count_27 : decode cX11_count 27 = .ok (.iconst 0, 1) := by decide +kernel
theorem dX11_count_28 : decode cX11_count 28 = .ok (.iadd, 1) := by decide +kernel
theorem dX11_count_29 : decode cX11_count 29 = .ok (.istore_n 2, 1) := by decide +kernel
theorem dX11_count_30 : decode cX11_count 30 = .ok (.iinc 3 1, 3) := by decide +kernel
theorem dX11_count_33 : decode cX11_count 33 = .ok (.goto (-29), 3) := by decide +kernel
theorem dX11_count_36 : decode cX11_count 36 = .ok (.iload_n 2, 1) := by decide +kernel
theorem dX11_count_37 : decode cX11_count 37 = .ok (.ireturn, 1) := by decide +kernel
theorem dX11_opens_0 : decode cX11_opens 0 = .ok (.aload_n 0, 1) := by decide +kernel
theorem dX11_opens_1 : decode cX11_opens 1 = .ok (.getfield 16, 3) := by decide +kernel
theorem dX11_opens_4 : decode cX11_opens 4 = .ok (.iload_n 3, 1) := by decide +kernel
theorem dX11_opens_5 : decode cX11_opens 5 = .ok (.iaload, 1) := by decide +kernel
theorem dX11_opens_6 : decode cX11_opens 6 = .ok (.iconst 2, 1) := by decide +kernel
theorem dX11_opens_7 : decode cX11_opens 7 = .ok (.if_icmp .ne 27, 3) := by decide +kernel
theorem dX11_opens_10 : decode cX11_opens 10 = .ok (.iload_n 2, 1) := by decide +kernel
theorem dX11_opens_11 : decode cX11_opens 11 = .ok (.iconst 2, 1) := by decide +kernel
theorem dX11_opens_12 : decode cX11_opens 12 = .ok (.if_icmp .eq 22, 3) := by decide +kernel
theorem dX11_opens_15 : decode cX11_opens 15 = .ok (.aload_n 0, 1) := by decide +kernel
theorem dX11_opens_16 : decode cX11_opens 16 = .ok (.getfield 199, 3) := by decide +kernel
theorem dX11_opens_19 : decode cX11_opens 19 = .ok (.aload_n 0, 1) := by decide +kernel
theorem dX11_opens_20 : decode cX11_opens 20 = .ok (.getfield 25, 3) := by decide +kernel
theorem dX11_opens_23 : decode cX11_opens 23 = .ok (.iload_n 3, 1) := by decide +kernel
theorem dX11_opens_24 : decode cX11_opens 24 = .ok (.iaload, 1) := by decide +kernel
theorem dX11_opens_25 : decode cX11_opens 25 = .ok (.iadd, 1) := by decide +kernel
theorem dX11_opens_26 : decode cX11_opens 26 = .ok (.iload 4, 2) := by decide +kernel
theorem dX11_opens_28 : decode cX11_opens 28 = .ok (.iadd, 1) := by decide +kernel
theorem dX11_opens_29 : decode cX11_opens 29 = .ok (.bipush 8, 2) := by decide +kernel
theorem dX11_opens_31 : decode cX11_opens 31 = .ok (.if_icmp .le 5, 3) := by decide +kernel
theorem dX11_opens_34 : decode cX11_opens 34 = .ok (.iconst 0, 1) := by decide +kernel
theorem dX11_opens_35 : decode cX11_opens 35 = .ok (.ireturn, 1) := by decide +kernel
theorem dX11_opens_36 : decode cX11_opens 36 = .ok (.iconst 0, 1) := by decide +kernel
theorem dX11_opens_37 : decode cX11_opens 37 = .ok (.istore 5, 2) := by decide +kernel
theorem dX11_opens_39 : decode cX11_opens 39 = .ok (.iconst 0, 1) := by decide +kernel
theorem dX11_opens_40 : decode cX11_opens 40 = .ok (.istore 6, 2) := by decide +kernel
theorem dX11_opens_42 : decode cX11_opens 42 = .ok (.iload 6, 2) := by decide +kernel
theorem dX11_opens_44 : decode cX11_opens 44 = .ok (.aload_n 0, 1) := by decide +kernel
theorem dX11_opens_45 : decode cX11_opens 45 = .ok (.getfield 25, 3) := by decide +kernel
theorem dX11_opens_48 : decode cX11_opens 48 = .ok (.iload_n 3, 1) := by decide +kernel
theorem dX11_opens_49 : decode cX11_opens 49 = .ok (.iaload, 1) := by decide +kernel
theorem dX11_opens_50 : decode cX11_opens 50 = .ok (.if_icmp .ge 35, 3) := by decide +kernel
theorem dX11_opens_53 : decode cX11_opens 53 = .ok (.iload 5, 2) := by decide +kernel
theorem dX11_opens_55 : decode cX11_opens 55 = .ok (.aload_n 0, 1) := by decide +kernel
theorem dX11_opens_56 : decode cX11_opens 56 = .ok (.getfield 28, 3) := by decide +kernel
theorem dX11_opens_59 : decode cX11_opens 59 = .ok (.bipush 8, 2) := by decide +kernel
theorem dX11_opens_61 : decode cX11_opens 61 = .ok (.iload_n 3, 1) := by decide +kernel
theorem dX11_opens_62 : decode cX11_opens 62 = .ok (.imul, 1) := by decide +kernel
theorem dX11_opens_63 : decode cX11_opens 63 = .ok (.iload 6, 2) := by decide +kernel
theorem dX11_opens_65 : decode cX11_opens 65 = .ok (.iadd, 1) := by decide +kernel
theorem dX11_opens_66 : decode cX11_opens 66 = .ok (.iaload, 1) := by decide +kernel
theorem dX11_opens_67 : decode cX11_opens 67 = .ok (.iconst 3, 1) := by decide +kernel
theorem dX11_opens_68 : decode cX11_opens 68 = .ok (.if_icmp .ne 7, 3) := by decide +kernel
theorem dX11_opens_71 : decode cX11_opens 71 = .ok (.iconst 1, 1) := by decide +kernel
theorem dX11_opens_72 : decode cX11_opens 72 = .ok (.goto 4, 3) := by decide +kernel
theorem dX11_opens_75 : decode cX11_opens 75 = .ok (.iconst 0, 1) := by decide +kernel
theorem dX11_opens_76 : decode cX11_opens 76 = .ok (.iadd, 1) := by decide +kernel
theorem dX11_opens_77 : decode cX11_opens 77 = .ok (.istore 5, 2) := by decide +kernel
theorem dX11_opens_79 : decode cX11_opens 79 = .ok (.iinc 6 1, 3) := by decide +kernel
theorem dX11_opens_82 : decode cX11_opens 82 = .ok (.goto (-40), 3) := by decide +kernel
theorem dX11_opens_85 : decode cX11_opens 85 = .ok (.iload_n 2, 1) := by decide +kernel
theorem dX11_opens_86 : decode cX11_opens 86 = .ok (.iconst 3, 1) := by decide +kernel
theorem dX11_opens_87 : decode cX11_opens 87 = .ok (.if_icmp .ne 37, 3) := by decide +kernel
theorem dX11_opens_90 : decode cX11_opens 90 = .ok (.iload_n 1, 1) := by decide +kernel
theorem dX11_opens_91 : decode cX11_opens 91 = .ok (.iconst 2, 1) := by decide +kernel
theorem dX11_opens_92 : decode cX11_opens 92 = .ok (.if_icmp .ge 28, 3) := by decide +kernel
theorem dX11_opens_95 : decode cX11_opens 95 = .ok (.aload_n 0, 1) := by decide +kernel
theorem dX11_opens_96 : decode cX11_opens 96 = .ok (.getfield 19, 3) := by decide +kernel
theorem dX11_opens_99 : decode cX11_opens 99 = .ok (.iload_n 3, 1) := by decide +kernel
theorem dX11_opens_100 : decode cX11_opens 100 = .ok (.iaload, 1) := by decide +kernel
theorem dX11_opens_101 : decode cX11_opens 101 = .ok (.iconst 2, 1) := by decide +kernel
theorem dX11_opens_102 : decode cX11_opens 102 = .ok (.if_icmp .ge 18, 3) := by decide +kernel
theorem dX11_opens_105 : decode cX11_opens 105 = .ok (.iload 5, 2) := by decide +kernel
theorem dX11_opens_107 : decode cX11_opens 107 = .ok (.aload_n 0, 1) := by decide +kernel
theorem dX11_opens_108 : decode cX11_opens 108 = .ok (.getfield 25, 3) := by decide +kernel
theorem dX11_opens_111 : decode cX11_opens 111 = .ok (.iload_n 3, 1) := by decide +kernel
theorem dX11_opens_112 : decode cX11_opens 112 = .ok (.iaload, 1) := by decide +kernel
theorem dX11_opens_113 : decode cX11_opens 113 = .ok (.if_icmp .ne 7, 3) := by decide +kernel
theorem dX11_opens_116 : decode cX11_opens 116 = .ok (.iconst 1, 1) := by decide +kernel
theorem dX11_opens_117 : decode cX11_opens 117 = .ok (.goto 26, 3) := by decide +kernel
theorem dX11_opens_120 : decode cX11_opens 120 = .ok (.iconst 0, 1) := by decide +kernel
theorem dX11_opens_121 : decode cX11_opens 121 = .ok (.goto 22, 3) := by decide +kernel
theorem dX11_opens_124 : decode cX11_opens 124 = .ok (.aload_n 0, 1) := by decide +kernel
theorem dX11_opens_125 : decode cX11_opens 125 = .ok (.getfield 19, 3) := by decide +kernel
theorem dX11_opens_128 : decode cX11_opens 128 = .ok (.iload_n 3, 1) := by decide +kernel
theorem dX11_opens_129 : decode cX11_opens 129 = .ok (.iaload, 1) := by decide +kernel
theorem dX11_opens_130 : decode cX11_opens 130 = .ok (.ifCond .ne 12, 3) := by decide +kernel
theorem dX11_opens_133 : decode cX11_opens 133 = .ok (.iload 5, 2) := by decide +kernel
theorem dX11_opens_135 : decode cX11_opens 135 = .ok (.ifCond .ne 7, 3) := by decide +kernel
theorem dX11_opens_138 : decode cX11_opens 138 = .ok (.iconst 1, 1) := by decide +kernel
theorem dX11_opens_139 : decode cX11_opens 139 = .ok (.goto 4, 3) := by decide +kernel
theorem dX11_opens_142 : decode cX11_opens 142 = .ok (.iconst 0, 1) := by decide +kernel
theorem dX11_opens_143 : decode cX11_opens 143 = .ok (.ireturn, 1) := by decide +kernel
theorem dX11_newBool_0 : decode cX11_newBool 0 = .ok (.aload_n 0, 1) := by decide +kernel
theorem dX11_newBool_1 : decode cX11_newBool 1 = .ok (.getfield 19, 3) := by decide +kernel
theorem dX11_newBool_4 : decode cX11_newBool 4 = .ok (.iload_n 1, 1) := by decide +kernel
theorem dX11_newBool_5 : decode cX11_newBool 5 = .ok (.iaload, 1) := by decide +kernel
theorem dX11_newBool_6 : decode cX11_newBool 6 = .ok (.istore_n 2, 1) := by decide +kernel
theorem dX11_newBool_7 : decode cX11_newBool 7 = .ok (.aload_n 0, 1) := by decide +kernel
theorem dX11_newBool_8 : decode cX11_newBool 8 = .ok (.iconst 0, 1) := by decide +kernel
theorem dX11_newBool_9 : decode cX11_newBool 9 = .ok (.putfield 199, 3) := by decide +kernel
theorem dX11_newBool_12 : decode cX11_newBool 12 = .ok (.iconst 0, 1) := by decide +kernel
theorem dX11_newBool_13 : decode cX11_newBool 13 = .ok (.istore_n 3, 1) := by decide +kernel
theorem dX11_newBool_14 : decode cX11_newBool 14 = .ok (.iload_n 3, 1) := by decide +kernel
theorem dX11_newBool_15 : decode cX11_newBool 15 = .ok (.aload_n 0, 1) := by decide +kernel
theorem dX11_newBool_16 : decode cX11_newBool 16 = .ok (.getfield 25, 3) := by decide +kernel
theorem dX11_newBool_19 : decode cX11_newBool 19 = .ok (.iload_n 1, 1) := by decide +kernel
theorem dX11_newBool_20 : decode cX11_newBool 20 = .ok (.iaload, 1) := by decide +kernel
theorem dX11_newBool_21 : decode cX11_newBool 21 = .ok (.if_icmp .ge 170, 3) := by decide +kernel
theorem dX11_newBool_24 : decode cX11_newBool 24 = .ok (.aload_n 0, 1) := by decide +kernel
theorem dX11_newBool_25 : decode cX11_newBool 25 = .ok (.getfield 28, 3) := by decide +kernel
theorem dX11_newBool_28 : decode cX11_newBool 28 = .ok (.bipush 8, 2) := by decide +kernel
theorem dX11_newBool_30 : decode cX11_newBool 30 = .ok (.iload_n 1, 1) := by decide +kernel
theorem dX11_newBool_31 : decode cX11_newBool 31 = .ok (.imul, 1) := by decide +kernel
theorem dX11_newBool_32 : decode cX11_newBool 32 = .ok (.iload_n 3, 1) := by decide +kernel
theorem dX11_newBool_33 : decode cX11_newBool 33 = .ok (.iadd, 1) := by decide +kernel
theorem dX11_newBool_34 : decode cX11_newBool 34 = .ok (.iaload, 1) := by decide +kernel
theorem dX11_newBool_35 : decode cX11_newBool 35 = .ok (.istore 4, 2) := by decide +kernel
theorem dX11_newBool_37 : decode cX11_newBool 37 = .ok (.aload_n 0, 1) := by decide +kernel
theorem dX11_newBool_38 : decode cX11_newBool 38 = .ok (.getfield 91, 3) := by decide +kernel
theorem dX11_newBool_41 : decode cX11_newBool 41 = .ok (.aload_n 0, 1) := by decide +kernel
theorem dX11_newBool_42 : decode cX11_newBool 42 = .ok (.getfield 31, 3) := by decide +kernel
theorem dX11_newBool_45 : decode cX11_newBool 45 = .ok (.bipush 8, 2) := by decide +kernel
theorem dX11_newBool_47 : decode cX11_newBool 47 = .ok (.iload_n 1, 1) := by decide +kernel
theorem dX11_newBool_48 : decode cX11_newBool 48 = .ok (.imul, 1) := by decide +kernel
theorem dX11_newBool_49 : decode cX11_newBool 49 = .ok (.iload_n 3, 1) := by decide +kernel
theorem dX11_newBool_50 : decode cX11_newBool 50 = .ok (.iadd, 1) := by decide +kernel
theorem dX11_newBool_51 : decode cX11_newBool 51 = .ok (.iaload, 1) := by decide +kernel
theorem dX11_newBool_52 : decode cX11_newBool 52 = .ok (.iaload, 1) := by decide +kernel
theorem dX11_newBool_53 : decode cX11_newBool 53 = .ok (.istore 5, 2) := by decide +kernel
theorem dX11_newBool_55 : decode cX11_newBool 55 = .ok (.aload_n 0, 1) := by decide +kernel
theorem dX11_newBool_56 : decode cX11_newBool 56 = .ok (.getfield 16, 3) := by decide +kernel
theorem dX11_newBool_59 : decode cX11_newBool 59 = .ok (.iload 5, 2) := by decide +kernel
theorem dX11_newBool_61 : decode cX11_newBool 61 = .ok (.iaload, 1) := by decide +kernel
theorem dX11_newBool_62 : decode cX11_newBool 62 = .ok (.bipush 7, 2) := by decide +kernel
theorem dX11_newBool_64 : decode cX11_newBool 64 = .ok (.if_icmp .ne 18, 3) := by decide +kernel
theorem dX11_newBool_67 : decode cX11_newBool 67 = .ok (.iload 4, 2) := by decide +kernel
theorem dX11_newBool_69 : decode cX11_newBool 69 = .ok (.iconst 2, 1) := by decide +kernel
theorem dX11_newBool_70 : decode cX11_newBool 70 = .ok (.if_icmp .ge 115, 3) := by decide +kernel
theorem dX11_newBool_73 : decode cX11_newBool 73 = .ok (.aload_n 0, 1) := by decide +kernel
theorem dX11_newBool_74 : decode cX11_newBool 74 = .ok (.bipush 7, 2) := by decide +kernel
theorem dX11_newBool_76 : decode cX11_newBool 76 = .ok (.iconst 0, 1) := by decide +kernel
theorem dX11_newBool_77 : decode cX11_newBool 77 = .ok (.iconst 0, 1) := by decide +kernel
theorem dX11_newBool_78 : decode cX11_newBool 78 = .ok (.invokevirtual 202, 3) := by decide +kernel
theorem dX11_newBool_81 : decode cX11_newBool 81 = .ok (.ireturn, 1) := by decide +kernel
theorem dX11_newBool_82 : decode cX11_newBool 82 = .ok (.aload_n 0, 1) := by decide +kernel
theorem dX11_newBool_83 : decode cX11_newBool 83 = .ok (.iload_n 2, 1) := by decide +kernel
theorem dX11_newBool_84 : decode cX11_newBool 84 = .ok (.iload 4, 2) := by decide +kernel
theorem dX11_newBool_86 : decode cX11_newBool 86 = .ok (.iload 5, 2) := by decide +kernel
theorem dX11_newBool_88 : decode cX11_newBool 88 = .ok (.aload_n 0, 1) := by decide +kernel
theorem dX11_newBool_89 : decode cX11_newBool 89 = .ok (.getfield 25, 3) := by decide +kernel
theorem dX11_newBool_92 : decode cX11_newBool 92 = .ok (.iload_n 1, 1) := by decide +kernel
theorem dX11_newBool_93 : decode cX11_newBool 93 = .ok (.iaload, 1) := by decide +kernel
theorem dX11_newBool_94 : decode cX11_newBool 94 = .ok (.iload_n 3, 1) := by decide +kernel
theorem dX11_newBool_95 : decode cX11_newBool 95 = .ok (.isub, 1) := by decide +kernel
theorem dX11_newBool_96 : decode cX11_newBool 96 = .ok (.iconst 1, 1) := by decide +kernel
theorem dX11_newBool_97 : decode cX11_newBool 97 = .ok (.isub, 1) := by decide +kernel
theorem dX11_newBool_98 : decode cX11_newBool 98 = .ok (.invokevirtual 209, 3) := by decide +kernel
theorem dX11_newBool_101 : decode cX11_newBool 101 = .ok (.ifCond .eq 76, 3) := by decide +kernel
theorem dX11_newBool_104 : decode cX11_newBool 104 = .ok (.iconst 0, 1) := by decide +kernel
theorem dX11_newBool_105 : decode cX11_newBool 105 = .ok (.istore 6, 2) := by decide +kernel
theorem dX11_newBool_107 : decode cX11_newBool 107 = .ok (.iload 6, 2) := by decide +kernel
theorem dX11_newBool_109 : decode cX11_newBool 109 = .ok (.aload_n 0, 1) := by decide +kernel
theorem dX11_newBool_110 : decode cX11_newBool 110 = .ok (.getfield 25, 3) := by decide +kernel
theorem dX11_newBool_113 : decode cX11_newBool 113 = .ok (.iload 5, 2) := by decide +kernel
theorem dX11_newBool_115 : decode cX11_newBool 115 = .ok (.iaload, 1) := by decide +kernel
theorem dX11_newBool_116 : decode cX11_newBool 116 = .ok (.if_icmp .ge 58, 3) := by decide +kernel
theorem dX11_newBool_119 : decode cX11_newBool 119 = .ok (.aload_n 0, 1) := by decide +kernel
theorem dX11_newBool_120 : decode cX11_newBool 120 = .ok (.getfield 28, 3) := by decide +kernel
theorem dX11_newBool_123 : decode cX11_newBool 123 = .ok (.bipush 8, 2) := by decide +kernel
theorem dX11_newBool_125 : decode cX11_newBool 125 = .ok (.iload 5, 2) := by decide +kernel
theorem dX11_newBool_127 : decode cX11_newBool 127 = .ok (.imul, 1) := by decide +kernel
theorem dX11_newBool_128 : decode cX11_newBool 128 = .ok (.iload 6, 2) := by decide +kernel
theorem dX11_newBool_130 : decode cX11_newBool 130 = .ok (.iadd, 1) := by decide +kernel
theorem dX11_newBool_131 : decode cX11_newBool 131 = .ok (.iaload, 1) := by decide +kernel
theorem dX11_newBool_132 : decode cX11_newBool 132 = .ok (.istore 7, 2) := by decide +kernel
theorem dX11_newBool_134 : decode cX11_newBool 134 = .ok (.aload_n 0, 1) := by decide +kernel
theorem dX11_newBool_135 : decode cX11_newBool 135 = .ok (.iload 4, 2) := by decide +kernel
theorem dX11_newBool_137 : decode cX11_newBool 137 = .ok (.iconst 1, 1) := by decide +kernel
theorem dX11_newBool_138 : decode cX11_newBool 138 = .ok (.if_icmp .ne 12, 3) := by decide +kernel
theorem dX11_newBool_141 : decode cX11_newBool 141 = .ok (.iload 7, 2) := by decide +kernel
theorem dX11_newBool_143 : decode cX11_newBool 143 = .ok (.ifCond .ne 7, 3) := by decide +kernel
theorem dX11_newBool_146 : decode cX11_newBool 146 = .ok (.iconst 1, 1) := by decide +kernel
theorem dX11_newBool_147 : decode cX11_newBool 147 = .ok (.goto 5, 3) := by decide +kernel
theorem dX11_newBool_150 : decode cX11_newBool 150 = .ok (.iload 7, 2) := by decide +kernel
theorem dX11_newBool_152 : decode cX11_newBool 152 = .ok (.aload_n 0, 1) := by decide +kernel
theorem dX11_newBool_153 : decode cX11_newBool 153 = .ok (.getfield 31, 3) := by decide +kernel
theorem dX11_newBool_156 : decode cX11_newBool 156 = .ok (.bipush 8, 2) := by decide +kernel
theorem dX11_newBool_158 : decode cX11_newBool 158 = .ok (.iload 5, 2) := by decide +kernel
theorem dX11_newBool_160 : decode cX11_newBool 160 = .ok (.imul, 1) := by decide +kernel
theorem dX11_newBool_161 : decode cX11_newBool 161 = .ok (.iload 6, 2) := by decide +kernel
theorem dX11_newBool_163 : decode cX11_newBool 163 = .ok (.iadd, 1) := by decide +kernel
theorem dX11_newBool_164 : decode cX11_newBool 164 = .ok (.iaload, 1) := by decide +kernel
theorem dX11_newBool_165 : decode cX11_newBool 165 = .ok (.invokevirtual 206, 3) := by decide +kernel
theorem dX11_newBool_168 : decode cX11_newBool 168 = .ok (.iinc 6 1, 3) := by decide +kernel
theorem dX11_newBool_171 : decode cX11_newBool 171 = .ok (.goto (-64), 3) := by decide +kernel
theorem dX11_newBool_174 : decode cX11_newBool 174 = .ok (.goto 11, 3) := by decide +kernel
theorem dX11_newBool_177 : decode cX11_newBool 177 = .ok (.aload_n 0, 1) := by decide +kernel
theorem dX11_newBool_178 : decode cX11_newBool 178 = .ok (.iload 4, 2) := by decide +kernel
theorem dX11_newBool_180 : decode cX11_newBool 180 = .ok (.iload 5, 2) := by decide +kernel
theorem dX11_newBool_182 : decode cX11_newBool 182 = .ok (.invokevirtual 206, 3) := by decide +kernel
theorem dX11_newBool_185 : decode cX11_newBool 185 = .ok (.iinc 3 1, 3) := by decide +kernel
theorem dX11_newBool_188 : decode cX11_newBool 188 = .ok (.goto (-174), 3) := by decide +kernel
theorem dX11_newBool_191 : decode cX11_newBool 191 = .ok (.aload_n 0, 1) := by decide +kernel
theorem dX11_newBool_192 : decode cX11_newBool 192 = .ok (.iconst 3, 1) := by decide +kernel
theorem dX11_newBool_193 : decode cX11_newBool 193 = .ok (.invokevirtual 213, 3) := by decide +kernel
theorem dX11_newBool_196 : decode cX11_newBool 196 = .ok (.istore_n 3, 1) := by decide +kernel
theorem dX11_newBool_197 : decode cX11_newBool 197 = .ok (.iload_n 2, 1) := by decide +kernel
theorem dX11_newBool_198 : decode cX11_newBool 198 = .ok (.iload_n 3, 1) := by decide +kernel
theorem dX11_newBool_199 : decode cX11_newBool 199 = .ok (.if_icmp .gt 19, 3) := by decide +kernel
theorem dX11_newBool_202 : decode cX11_newBool 202 = .ok (.aload_n 0, 1) := by decide +kernel
theorem dX11_newBool_203 : decode cX11_newBool 203 = .ok (.iconst 0, 1) := by decide +kernel
theorem dX11_newBool_204 : decode cX11_newBool 204 = .ok (.invokevirtual 213, 3) := by decide +kernel
theorem dX11_newBool_207 : decode cX11_newBool 207 = .ok (.aload_n 0, 1) := by decide +kernel
theorem dX11_newBool_208 : decode cX11_newBool 208 = .ok (.iconst 1, 1) := by decide +kernel
theorem dX11_newBool_209 : decode cX11_newBool 209 = .ok (.invokevirtual 213, 3) := by decide +kernel
theorem dX11_newBool_212 : decode cX11_newBool 212 = .ok (.iadd, 1) := by decide +kernel
theorem dX11_newBool_213 : decode cX11_newBool 213 = .ok (.iload_n 3, 1) := by decide +kernel
theorem dX11_newBool_214 : decode cX11_newBool 214 = .ok (.iadd, 1) := by decide +kernel
theorem dX11_newBool_215 : decode cX11_newBool 215 = .ok (.ifCond .ne 12, 3) := by decide +kernel
theorem dX11_newBool_218 : decode cX11_newBool 218 = .ok (.aload_n 0, 1) := by decide +kernel
theorem dX11_newBool_219 : decode cX11_newBool 219 = .ok (.bipush 7, 2) := by decide +kernel
theorem dX11_newBool_221 : decode cX11_newBool 221 = .ok (.iconst 0, 1) := by decide +kernel
theorem dX11_newBool_222 : decode cX11_newBool 222 = .ok (.iconst 0, 1) := by decide +kernel
theorem dX11_newBool_223 : decode cX11_newBool 223 = .ok (.invokevirtual 202, 3) := by decide +kernel
theorem dX11_newBool_226 : decode cX11_newBool 226 = .ok (.ireturn, 1) := by decide +kernel
theorem dX11_newBool_227 : decode cX11_newBool 227 = .ok (.aload_n 0, 1) := by decide +kernel
theorem dX11_newBool_228 : decode cX11_newBool 228 = .ok (.iconst 0, 1) := by decide +kernel
theorem dX11_newBool_229 : decode cX11_newBool 229 = .ok (.invokevirtual 213, 3) := by decide +kernel
theorem dX11_newBool_232 : decode cX11_newBool 232 = .ok (.aload_n 0, 1) := by decide +kernel
theorem dX11_newBool_233 : decode cX11_newBool 233 = .ok (.iconst 1, 1) := by decide +kernel
theorem dX11_newBool_234 : decode cX11_newBool 234 = .ok (.invokevirtual 213, 3) := by decide +kernel
theorem dX11_newBool_237 : decode cX11_newBool 237 = .ok (.iadd, 1) := by decide +kernel
theorem dX11_newBool_238 : decode cX11_newBool 238 = .ok (.ifCond .ne 11, 3) := by decide +kernel
theorem dX11_newBool_241 : decode cX11_newBool 241 = .ok (.iload_n 2, 1) := by decide +kernel
theorem dX11_newBool_242 : decode cX11_newBool 242 = .ok (.ifCond .ne 7, 3) := by decide +kernel
theorem dX11_newBool_245 : decode cX11_newBool 245 = .ok (.iconst 1, 1) := by decide +kernel
theorem dX11_newBool_246 : decode cX11_newBool 246 = .ok (.goto 4, 3) := by decide +kernel
theorem dX11_newBool_249 : decode cX11_newBool 249 = .ok (.iload_n 2, 1) := by decide +kernel
theorem dX11_newBool_250 : decode cX11_newBool 250 = .ok (.istore_n 2, 1) := by decide +kernel
theorem dX11_newBool_251 : decode cX11_newBool 251 = .ok (.iload_n 2, 1) := by decide +kernel
theorem dX11_newBool_252 : decode cX11_newBool 252 = .ok (.ifCond .le 57, 3) := by decide +kernel
theorem dX11_newBool_255 : decode cX11_newBool 255 = .ok (.iload_n 2, 1) := by decide +kernel
theorem dX11_newBool_256 : decode cX11_newBool 256 = .ok (.iload_n 3, 1) := by decide +kernel
theorem dX11_newBool_257 : decode cX11_newBool 257 = .ok (.if_icmp .ne 52, 3) := by decide +kernel
theorem dX11_newBool_260 : decode cX11_newBool 260 = .ok (.iconst 0, 1) := by decide +kernel
theorem dX11_newBool_261 : decode cX11_newBool 261 = .ok (.istore_n 2, 1) := by decide +kernel
theorem dX11_newBool_262 : decode cX11_newBool 262 = .ok (.iconst 0, 1) := by decide +kernel
theorem dX11_newBool_263 : decode cX11_newBool 263 = .ok (.istore 4, 2) := by decide +kernel
theorem dX11_newBool_265 : decode cX11_newBool 265 = .ok (.iload 4, 2) := by decide +kernel
theorem dX11_newBool_267 : decode cX11_newBool 267 = .ok (.aload_n 0, 1) := by decide +kernel
theorem dX11_newBool_268 : decode cX11_newBool 268 = .ok (.getfield 199, 3) := by decide +kernel
theorem dX11_newBool_271 : decode cX11_newBool 271 = .ok (.if_icmp .ge 38, 3) := by decide +kernel
theorem dX11_newBool_274 : decode cX11_newBool 274 = .ok (.aload_n 0, 1) := by decide +kernel
theorem dX11_newBool_275 : decode cX11_newBool 275 = .ok (.getfield 94, 3) := by decide +kernel
theorem dX11_newBool_278 : decode cX11_newBool 278 = .ok (.iload 4, 2) := by decide +kernel
theorem dX11_newBool_280 : decode cX11_newBool 280 = .ok (.aload_n 0, 1) := by decide +kernel
theorem dX11_newBool_281 : decode cX11_newBool 281 = .ok (.getfield 94, 3) := by decide +kernel
theorem dX11_newBool_284 : decode cX11_newBool 284 = .ok (.iload 4, 2) := by decide +kernel
theorem dX11_newBool_286 : decode cX11_newBool 286 = .ok (.iaload, 1) := by decide +kernel
theorem dX11_newBool_287 : decode cX11_newBool 287 = .ok (.iconst 3, 1) := by decide +kernel
theorem dX11_newBool_288 : decode cX11_newBool 288 = .ok (.if_icmp .ne 7, 3) := by decide +kernel
theorem dX11_newBool_291 : decode cX11_newBool 291 = .ok (.iconst 0, 1) := by decide +kernel
theorem dX11_newBool_292 : decode cX11_newBool 292 = .ok (.goto 10, 3) := by decide +kernel
theorem dX11_newBool_295 : decode cX11_newBool 295 = .ok (.aload_n 0, 1) := by decide +kernel
theorem dX11_newBool_296 : decode cX11_newBool 296 = .ok (.getfield 94, 3) := by decide +kernel
theorem dX11_newBool_299 : decode cX11_newBool 299 = .ok (.iload 4, 2) := by decide +kernel
theorem dX11_newBool_301 : decode cX11_newBool 301 = .ok (.iaload, 1) := by decide +kernel
theorem dX11_newBool_302 : decode cX11_newBool 302 = .ok (.iastore, 1) := by decide +kernel
theorem dX11_newBool_303 : decode cX11_newBool 303 = .ok (.iinc 4 1, 3) := by decide +kernel
theorem dX11_newBool_306 : decode cX11_newBool 306 = .ok (.goto (-41), 3) := by decide +kernel
theorem dX11_newBool_309 : decode cX11_newBool 309 = .ok (.aload_n 0, 1) := by decide +kernel
theorem dX11_newBool_310 : decode cX11_newBool 310 = .ok (.invokevirtual 216, 3) := by decide +kernel
theorem dX11_newBool_313 : decode cX11_newBool 313 = .ok (.ifCond .ne 12, 3) := by decide +kernel
theorem dX11_newBool_316 : decode cX11_newBool 316 = .ok (.aload_n 0, 1) := by decide +kernel
theorem dX11_newBool_317 : decode cX11_newBool 317 = .ok (.bipush 7, 2) := by decide +kernel
theorem dX11_newBool_319 : decode cX11_newBool 319 = .ok (.iconst 0, 1) := by decide +kernel
theorem dX11_newBool_320 : decode cX11_newBool 320 = .ok (.iconst 0, 1) := by decide +kernel
theorem dX11_newBool_321 : decode cX11_newBool 321 = .ok (.invokevirtual 202, 3) := by decide +kernel
theorem dX11_newBool_324 : decode cX11_newBool 324 = .ok (.ireturn, 1) := by decide +kernel
theorem dX11_newBool_325 : decode cX11_newBool 325 = .ok (.aload_n 0, 1) := by decide +kernel
theorem dX11_newBool_326 : decode cX11_newBool 326 = .ok (.getfield 199, 3) := by decide +kernel
theorem dX11_newBool_329 : decode cX11_newBool 329 = .ok (.iconst 1, 1) := by decide +kernel
theorem dX11_newBool_330 : decode cX11_newBool 330 = .ok (.if_icmp .ne 21, 3) := by decide +kernel
theorem dX11_newBool_333 : decode cX11_newBool 333 = .ok (.aload_n 0, 1) := by decide +kernel
theorem dX11_newBool_334 : decode cX11_newBool 334 = .ok (.getfield 94, 3) := by decide +kernel
theorem dX11_newBool_337 : decode cX11_newBool 337 = .ok (.iconst 0, 1) := by decide +kernel
theorem dX11_newBool_338 : decode cX11_newBool 338 = .ok (.iaload, 1) := by decide +kernel
theorem dX11_newBool_339 : decode cX11_newBool 339 = .ok (.ifCond .ne 12, 3) := by decide +kernel
theorem dX11_newBool_342 : decode cX11_newBool 342 = .ok (.aload_n 0, 1) := by decide +kernel
theorem dX11_newBool_343 : decode cX11_newBool 343 = .ok (.getfield 97, 3) := by decide +kernel
theorem dX11_newBool_346 : decode cX11_newBool 346 = .ok (.iconst 0, 1) := by decide +kernel
theorem dX11_newBool_347 : decode cX11_newBool 347 = .ok (.iaload, 1) := by decide +kernel
theorem dX11_newBool_348 : decode cX11_newBool 348 = .ok (.goto 10, 3) := by decide +kernel
theorem dX11_newBool_351 : decode cX11_newBool 351 = .ok (.aload_n 0, 1) := by decide +kernel
theorem dX11_newBool_352 : decode cX11_newBool 352 = .ok (.iconst 2, 1) := by decide +kernel
theorem dX11_newBool_353 : decode cX11_newBool 353 = .ok (.iload_n 2, 1) := by decide +kernel
theorem dX11_newBool_354 : decode cX11_newBool 354 = .ok (.iconst 0, 1) := by decide +kernel
theorem dX11_newBool_355 : decode cX11_newBool 355 = .ok (.invokevirtual 202, 3) := by decide +kernel
theorem dX11_newBool_358 : decode cX11_newBool 358 = .ok (.ireturn, 1) := by decide +kernel
theorem dX11_thin_0 : decode cX11_thin 0 = .ok (.iconst 0, 1) := by decide +kernel
theorem dX11_thin_1 : decode cX11_thin 1 = .ok (.istore_n 1, 1) := by decide +kernel
theorem dX11_thin_2 : decode cX11_thin 2 = .ok (.iconst 1, 1) := by decide +kernel
theorem dX11_thin_3 : decode cX11_thin 3 = .ok (.istore_n 2, 1) := by decide +kernel
theorem dX11_thin_4 : decode cX11_thin 4 = .ok (.aload_n 0, 1) := by decide +kernel
theorem dX11_thin_5 : decode cX11_thin 5 = .ok (.getfield 199, 3) := by decide +kernel
theorem dX11_thin_8 : decode cX11_thin 8 = .ok (.istore_n 3, 1) := by decide +kernel
theorem dX11_thin_9 : decode cX11_thin 9 = .ok (.iconst 0, 1) := by decide +kernel
theorem dX11_thin_10 : decode cX11_thin 10 = .ok (.istore 4, 2) := by decide +kernel
theorem dX11_thin_12 : decode cX11_thin 12 = .ok (.iload 4, 2) := by decide +kernel
theorem dX11_thin_14 : decode cX11_thin 14 = .ok (.iload_n 3, 1) := by decide +kernel
theorem dX11_thin_15 : decode cX11_thin 15 = .ok (.if_icmp .ge 209, 3) := by decide +kernel
theorem dX11_thin_18 : decode cX11_thin 18 = .ok (.iconst 0, 1) := by decide +kernel
theorem dX11_thin_19 : decode cX11_thin 19 = .ok (.istore 5, 2) := by decide +kernel
theorem dX11_thin_21 : decode cX11_thin 21 = .ok (.iconst 0, 1) := by decide +kernel
theorem dX11_thin_22 : decode cX11_thin 22 = .ok (.istore 6, 2) := by decide +kernel
theorem dX11_thin_24 : decode cX11_thin 24 = .ok (.iload 6, 2) := by decide +kernel
theorem dX11_thin_26 : decode cX11_thin 26 = .ok (.iload_n 3, 1) := by decide +kernel
theorem dX11_thin_27 : decode cX11_thin 27 = .ok (.if_icmp .ge 182, 3) := by decide +kernel
theorem dX11_thin_30 : decode cX11_thin 30 = .ok (.aload_n 0, 1) := by decide +kernel
theorem dX11_thin_31 : decode cX11_thin 31 = .ok (.getfield 97, 3) := by decide +kernel
theorem dX11_thin_34 : decode cX11_thin 34 = .ok (.iload 6, 2) := by decide +kernel
theorem dX11_thin_36 : decode cX11_thin 36 = .ok (.iaload, 1) := by decide +kernel
theorem dX11_thin_37 : decode cX11_thin 37 = .ok (.aload_n 0, 1) := by decide +kernel
theorem dX11_thin_38 : decode cX11_thin 38 = .ok (.getfield 97, 3) := by decide +kernel
theorem dX11_thin_41 : decode cX11_thin 41 = .ok (.iload 4, 2) := by decide +kernel
theorem dX11_thin_43 : decode cX11_thin 43 = .ok (.iaload, 1) := by decide +kernel
theorem dX11_thin_44 : decode cX11_thin 44 = .ok (.if_icmp .ne 7, 3) := by decide +kernel
theorem dX11_thin_47 : decode cX11_thin 47 = .ok (.iconst 1, 1) := by decide +kernel
theorem dX11_thin_48 : decode cX11_thin 48 = .ok (.goto 4, 3) := by decide +kernel
theorem dX11_thin_51 : decode cX11_thin 51 = .ok (.iconst 0, 1) := by decide +kernel
theorem dX11_thin_52 : decode cX11_thin 52 = .ok (.istore 7, 2) := by decide +kernel
theorem dX11_thin_54 : decode cX11_thin 54 = .ok (.iload 6, 2) := by decide +kernel
theorem dX11_thin_56 : decode cX11_thin 56 = .ok (.iload 4, 2) := by decide +kernel
theorem dX11_thin_58 : decode cX11_thin 58 = .ok (.if_icmp .ge 7, 3) := by decide +kernel
theorem dX11_thin_61 : decode cX11_thin 61 = .ok (.iconst 1, 1) := by decide +kernel
theorem dX11_thin_62 : decode cX11_thin 62 = .ok (.goto 4, 3) := by decide +kernel
theorem dX11_thin_65 : decode cX11_thin 65 = .ok (.iconst 0, 1) := by decide +kernel
theorem dX11_thin_66 : decode cX11_thin 66 = .ok (.istore 8, 2) := by decide +kernel
theorem dX11_thin_68 : decode cX11_thin 68 = .ok (.iload 5, 2) := by decide +kernel
theorem dX11_thin_70 : decode cX11_thin 70 = .ok (.ifCond .ne 45, 3) := by decide +kernel
theorem dX11_thin_73 : decode cX11_thin 73 = .ok (.iload 7, 2) := by decide +kernel
theorem dX11_thin_75 : decode cX11_thin 75 = .ok (.ifCond .eq 44, 3) := by decide +kernel
theorem dX11_thin_78 : decode cX11_thin 78 = .ok (.aload_n 0, 1) := by decide +kernel
theorem dX11_thin_79 : decode cX11_thin 79 = .ok (.getfield 94, 3) := by decide +kernel
theorem dX11_thin_82 : decode cX11_thin 82 = .ok (.iload 4, 2) := by decide +kernel
theorem dX11_thin_84 : decode cX11_thin 84 = .ok (.iaload, 1) := by decide +kernel
theorem dX11_thin_85 : decode cX11_thin 85 = .ok (.iconst 1, 1) := by decide +kernel
theorem dX11_thin_86 : decode cX11_thin 86 = .ok (.if_icmp .ne 33, 3) := by decide +kernel
theorem dX11_thin_89 : decode cX11_thin 89 = .ok (.aload_n 0, 1) := by decide +kernel
theorem dX11_thin_90 : decode cX11_thin 90 = .ok (.getfield 94, 3) := by decide +kernel
theorem dX11_thin_93 : decode cX11_thin 93 = .ok (.iload 6, 2) := by decide +kernel
theorem dX11_thin_95 : decode cX11_thin 95 = .ok (.iaload, 1) := by decide +kernel
theorem dX11_thin_96 : decode cX11_thin 96 = .ok (.ifCond .eq 19, 3) := by decide +kernel
theorem dX11_thin_99 : decode cX11_thin 99 = .ok (.aload_n 0, 1) := by decide +kernel
theorem dX11_thin_100 : decode cX11_thin 100 = .ok (.getfield 94, 3) := by decide +kernel
theorem dX11_thin_103 : decode cX11_thin 103 = .ok (.iload 6, 2) := by decide +kernel
theorem dX11_thin_105 : decode cX11_thin 105 = .ok (.iaload, 1) := by decide +kernel
theorem dX11_thin_106 : decode cX11_thin 106 = .ok (.iconst 1, 1) := by decide +kernel
theorem dX11_thin_107 : decode cX11_thin 107 = .ok (.if_icmp .ne 12, 3) := by decide +kernel
theorem dX11_thin_110 : decode cX11_thin 110 = .ok (.iload 8, 2) := by decide +kernel
theorem dX11_thin_112 : decode cX11_thin 112 = .ok (.ifCond .eq 7, 3) := by decide +kernel
theorem dX11_thin_115 : decode cX11_thin 115 = .ok (.iconst 1, 1) := by decide +kernel
theorem dX11_thin_116 : decode cX11_thin 116 = .ok (.goto 4, 3) := by decide +kernel
theorem dX11_thin_119 : decode cX11_thin 119 = .ok (.iconst 0, 1) := by decide +kernel
theorem dX11_thin_120 : decode cX11_thin 120 = .ok (.istore 5, 2) := by decide +kernel
theorem dX11_thin_122 : decode cX11_thin 122 = .ok (.iload 5, 2) := by decide +kernel
theorem dX11_thin_124 : decode cX11_thin 124 = .ok (.ifCond .ne 35, 3) := by decide +kernel
theorem dX11_thin_127 : decode cX11_thin 127 = .ok (.iload 7, 2) := by decide +kernel
theorem dX11_thin_129 : decode cX11_thin 129 = .ok (.ifCond .eq 34, 3) := by decide +kernel
theorem dX11_thin_132 : decode cX11_thin 132 = .ok (.aload_n 0, 1) := by decide +kernel
theorem dX11_thin_133 : decode cX11_thin 133 = .ok (.getfield 94, 3) := by decide +kernel
theorem dX11_thin_136 : decode cX11_thin 136 = .ok (.iload 4, 2) := by decide +kernel
theorem dX11_thin_138 : decode cX11_thin 138 = .ok (.iaload, 1) := by decide +kernel
theorem dX11_thin_139 : decode cX11_thin 139 = .ok (.iconst 2, 1) := by decide +kernel
theorem dX11_thin_140 : decode cX11_thin 140 = .ok (.if_icmp .ne 23, 3) := by decide +kernel
theorem dX11_thin_143 : decode cX11_thin 143 = .ok (.aload_n 0, 1) := by decide +kernel
theorem dX11_thin_144 : decode cX11_thin 144 = .ok (.getfield 94, 3) := by decide +kernel
theorem dX11_thin_147 : decode cX11_thin 147 = .ok (.iload 6, 2) := by decide +kernel
theorem dX11_thin_149 : decode cX11_thin 149 = .ok (.iaload, 1) := by decide +kernel
theorem dX11_thin_150 : decode cX11_thin 150 = .ok (.iconst 2, 1) := by decide +kernel
theorem dX11_thin_151 : decode cX11_thin 151 = .ok (.if_icmp .ne 12, 3) := by decide +kernel
theorem dX11_thin_154 : decode cX11_thin 154 = .ok (.iload 8, 2) := by decide +kernel
theorem dX11_thin_156 : decode cX11_thin 156 = .ok (.ifCond .eq 7, 3) := by decide +kernel
theorem dX11_thin_159 : decode cX11_thin 159 = .ok (.iconst 1, 1) := by decide +kernel
theorem dX11_thin_160 : decode cX11_thin 160 = .ok (.goto 4, 3) := by decide +kernel
theorem dX11_thin_163 : decode cX11_thin 163 = .ok (.iconst 0, 1) := by decide +kernel
theorem dX11_thin_164 : decode cX11_thin 164 = .ok (.istore 5, 2) := by decide +kernel
theorem dX11_thin_166 : decode cX11_thin 166 = .ok (.iload_n 2, 1) := by decide +kernel
theorem dX11_thin_167 : decode cX11_thin 167 = .ok (.ifCond .eq 34, 3) := by decide +kernel
theorem dX11_thin_170 : decode cX11_thin 170 = .ok (.iload 7, 2) := by decide +kernel
theorem dX11_thin_172 : decode cX11_thin 172 = .ok (.ifCond .eq 25, 3) := by decide +kernel
theorem dX11_thin_175 : decode cX11_thin 175 = .ok (.aload_n 0, 1) := by decide +kernel
theorem dX11_thin_176 : decode cX11_thin 176 = .ok (.getfield 94, 3) := by decide +kernel
theorem dX11_thin_179 : decode cX11_thin 179 = .ok (.iload 4, 2) := by decide +kernel
theorem dX11_thin_181 : decode cX11_thin 181 = .ok (.iaload, 1) := by decide +kernel
theorem dX11_thin_182 : decode cX11_thin 182 = .ok (.iconst 2, 1) := by decide +kernel
theorem dX11_thin_183 : decode cX11_thin 183 = .ok (.if_icmp .ne 14, 3) := by decide +kernel
theorem dX11_thin_186 : decode cX11_thin 186 = .ok (.aload_n 0, 1) := by decide +kernel
theorem dX11_thin_187 : decode cX11_thin 187 = .ok (.getfield 94, 3) := by decide +kernel
theorem dX11_thin_190 : decode cX11_thin 190 = .ok (.iload 6, 2) := by decide +kernel
theorem dX11_thin_192 : decode cX11_thin 192 = .ok (.iaload, 1) := by decide +kernel
theorem dX11_thin_193 : decode cX11_thin 193 = .ok (.iconst 2, 1) := by decide +kernel
theorem dX11_thin_194 : decode cX11_thin 194 = .ok (.if_icmp .lt 7, 3) := by decide +kernel
theorem dX11_thin_197 : decode cX11_thin 197 = .ok (.iconst 1, 1) := by decide +kernel
theorem dX11_thin_198 : decode cX11_thin 198 = .ok (.goto 4, 3) := by decide +kernel
theorem dX11_thin_201 : decode cX11_thin 201 = .ok (.iconst 0, 1) := by decide +kernel
theorem dX11_thin_202 : decode cX11_thin 202 = .ok (.istore_n 2, 1) := by decide +kernel
theorem dX11_thin_203 : decode cX11_thin 203 = .ok (.iinc 6 1, 3) := by decide +kernel
theorem dX11_thin_206 : decode cX11_thin 206 = .ok (.goto (-182), 3) := by decide +kernel
theorem dX11_thin_209 : decode cX11_thin 209 = .ok (.aload_n 0, 1) := by decide +kernel
theorem dX11_thin_210 : decode cX11_thin 210 = .ok (.getfield 100, 3) := by decide +kernel
theorem dX11_thin_213 : decode cX11_thin 213 = .ok (.iload 4, 2) := by decide +kernel
theorem dX11_thin_215 : decode cX11_thin 215 = .ok (.iload 5, 2) := by decide +kernel
theorem dX11_thin_217 : decode cX11_thin 217 = .ok (.bastore, 1) := by decide +kernel
theorem dX11_thin_218 : decode cX11_thin 218 = .ok (.iinc 4 1, 3) := by decide +kernel
theorem dX11_thin_221 : decode cX11_thin 221 = .ok (.goto (-209), 3) := by decide +kernel
theorem dX11_thin_224 : decode cX11_thin 224 = .ok (.iconst 0, 1) := by decide +kernel
theorem dX11_thin_225 : decode cX11_thin 225 = .ok (.istore 4, 2) := by decide +kernel
theorem dX11_thin_227 : decode cX11_thin 227 = .ok (.iload 4, 2) := by decide +kernel
theorem dX11_thin_229 : decode cX11_thin 229 = .ok (.iload_n 3, 1) := by decide +kernel
theorem dX11_thin_230 : decode cX11_thin 230 = .ok (.if_icmp .ge 48, 3) := by decide +kernel
theorem dX11_thin_233 : decode cX11_thin 233 = .ok (.aload_n 0, 1) := by decide +kernel
theorem dX11_thin_234 : decode cX11_thin 234 = .ok (.getfield 100, 3) := by decide +kernel
theorem dX11_thin_237 : decode cX11_thin 237 = .ok (.iload 4, 2) := by decide +kernel
theorem dX11_thin_239 : decode cX11_thin 239 = .ok (.baload, 1) := by decide +kernel
theorem dX11_thin_240 : decode cX11_thin 240 = .ok (.ifCond .ne 32, 3) := by decide +kernel
theorem dX11_thin_243 : decode cX11_thin 243 = .ok (.aload_n 0, 1) := by decide +kernel
theorem dX11_thin_244 : decode cX11_thin 244 = .ok (.getfield 94, 3) := by decide +kernel
theorem dX11_thin_247 : decode cX11_thin 247 = .ok (.iload_n 1, 1) := by decide +kernel
theorem dX11_thin_248 : decode cX11_thin 248 = .ok (.aload_n 0, 1) := by decide +kernel
theorem dX11_thin_249 : decode cX11_thin 249 = .ok (.getfield 94, 3) := by decide +kernel
theorem dX11_thin_252 : decode cX11_thin 252 = .ok (.iload 4, 2) := by decide +kernel
theorem dX11_thin_254 : decode cX11_thin 254 = .ok (.iaload, 1) := by decide +kernel
theorem dX11_thin_255 : decode cX11_thin 255 = .ok (.iastore, 1) := by decide +kernel
theorem dX11_thin_256 : decode cX11_thin 256 = .ok (.aload_n 0, 1) := by decide +kernel
theorem dX11_thin_257 : decode cX11_thin 257 = .ok (.getfield 97, 3) := by decide +kernel
theorem dX11_thin_260 : decode cX11_thin 260 = .ok (.iload_n 1, 1) := by decide +kernel
theorem dX11_thin_261 : decode cX11_thin 261 = .ok (.aload_n 0, 1) := by decide +kernel
theorem dX11_thin_262 : decode cX11_thin 262 = .ok (.getfield 97, 3) := by decide +kernel
theorem dX11_thin_265 : decode cX11_thin 265 = .ok (.iload 4, 2) := by decide +kernel
theorem dX11_thin_267 : decode cX11_thin 267 = .ok (.iaload, 1) := by decide +kernel
theorem dX11_thin_268 : decode cX11_thin 268 = .ok (.iastore, 1) := by decide +kernel
theorem dX11_thin_269 : decode cX11_thin 269 = .ok (.iinc 1 1, 3) := by decide +kernel
theorem dX11_thin_272 : decode cX11_thin 272 = .ok (.iinc 4 1, 3) := by decide +kernel
theorem dX11_thin_275 : decode cX11_thin 275 = .ok (.goto (-48), 3) := by decide +kernel
theorem dX11_thin_278 : decode cX11_thin 278 = .ok (.aload_n 0, 1) := by decide +kernel
theorem dX11_thin_279 : decode cX11_thin 279 = .ok (.iload_n 1, 1) := by decide +kernel
theorem dX11_thin_280 : decode cX11_thin 280 = .ok (.putfield 199, 3) := by decide +kernel
theorem dX11_thin_283 : decode cX11_thin 283 = .ok (.iload_n 2, 1) := by decide +kernel
theorem dX11_thin_284 : decode cX11_thin 284 = .ok (.ireturn, 1) := by decide +kernel
theorem dX11_sum_0 : decode cX11_sum 0 = .ok (.iconst 0, 1) := by decide +kernel
theorem dX11_sum_1 : decode cX11_sum 1 = .ok (.istore_n 2, 1) := by decide +kernel
theorem dX11_sum_2 : decode cX11_sum 2 = .ok (.iload_n 1, 1) := by decide +kernel
theorem dX11_sum_3 : decode cX11_sum 3 = .ok (.tableswitch 138 0 4 #[33, 38, 63, 68, 102], 33) := by decide +kernel
theorem dX11_sum_36 : decode cX11_sum 36 = .ok (.aload_n 0, 1) := by decide +kernel
theorem dX11_sum_37 : decode cX11_sum 37 = .ok (.getfield 107, 3) := by decide +kernel
theorem dX11_sum_40 : decode cX11_sum 40 = .ok (.ireturn, 1) := by decide +kernel
theorem dX11_sum_41 : decode cX11_sum 41 = .ok (.iconst 0, 1) := by decide +kernel
theorem dX11_sum_42 : decode cX11_sum 42 = .ok (.istore_n 3, 1) := by decide +kernel
theorem dX11_sum_43 : decode cX11_sum 43 = .ok (.iload_n 3, 1) := by decide +kernel
theorem dX11_sum_44 : decode cX11_sum 44 = .ok (.bipush 16, 2) := by decide +kernel
theorem dX11_sum_46 : decode cX11_sum 46 = .ok (.if_icmp .ge 18, 3) := by decide +kernel
theorem dX11_sum_49 : decode cX11_sum 49 = .ok (.iload_n 2, 1) := by decide +kernel
theorem dX11_sum_50 : decode cX11_sum 50 = .ok (.aload_n 0, 1) := by decide +kernel
theorem dX11_sum_51 : decode cX11_sum 51 = .ok (.getfield 13, 3) := by decide +kernel
theorem dX11_sum_54 : decode cX11_sum 54 = .ok (.iload_n 3, 1) := by decide +kernel
theorem dX11_sum_55 : decode cX11_sum 55 = .ok (.iaload, 1) := by decide +kernel
theorem dX11_sum_56 : decode cX11_sum 56 = .ok (.iadd, 1) := by decide +kernel
theorem dX11_sum_57 : decode cX11_sum 57 = .ok (.istore_n 2, 1) := by decide +kernel
theorem dX11_sum_58 : decode cX11_sum 58 = .ok (.iinc 3 1, 3) := by decide +kernel
theorem dX11_sum_61 : decode cX11_sum 61 = .ok (.goto (-18), 3) := by decide +kernel
theorem dX11_sum_64 : decode cX11_sum 64 = .ok (.iload_n 2, 1) := by decide +kernel
theorem dX11_sum_65 : decode cX11_sum 65 = .ok (.ireturn, 1) := by decide +kernel
theorem dX11_sum_66 : decode cX11_sum 66 = .ok (.aload_n 0, 1) := by decide +kernel
theorem dX11_sum_67 : decode cX11_sum 67 = .ok (.getfield 167, 3) := by decide +kernel
theorem dX11_sum_70 : decode cX11_sum 70 = .ok (.ireturn, 1) := by decide +kernel
theorem dX11_sum_71 : decode cX11_sum 71 = .ok (.iconst 0, 1) := by decide +kernel
theorem dX11_sum_72 : decode cX11_sum 72 = .ok (.istore_n 3, 1) := by decide +kernel
theorem dX11_sum_73 : decode cX11_sum 73 = .ok (.iload_n 3, 1) := by decide +kernel
theorem dX11_sum_74 : decode cX11_sum 74 = .ok (.bipush 8, 2) := by decide +kernel
theorem dX11_sum_76 : decode cX11_sum 76 = .ok (.if_icmp .ge 27, 3) := by decide +kernel
theorem dX11_sum_79 : decode cX11_sum 79 = .ok (.iload_n 2, 1) := by decide +kernel
theorem dX11_sum_80 : decode cX11_sum 80 = .ok (.aload_n 0, 1) := by decide +kernel
theorem dX11_sum_81 : decode cX11_sum 81 = .ok (.getfield 45, 3) := by decide +kernel
theorem dX11_sum_84 : decode cX11_sum 84 = .ok (.iload_n 3, 1) := by decide +kernel
theorem dX11_sum_85 : decode cX11_sum 85 = .ok (.iaload, 1) := by decide +kernel
theorem dX11_sum_86 : decode cX11_sum 86 = .ok (.iconst (-1), 1) := by decide +kernel
theorem dX11_sum_87 : decode cX11_sum 87 = .ok (.if_icmp .eq 7, 3) := by decide +kernel
theorem dX11_sum_90 : decode cX11_sum 90 = .ok (.iconst 1, 1) := by decide +kernel
theorem dX11_sum_91 : decode cX11_sum 91 = .ok (.goto 4, 3) := by decide +kernel
theorem dX11_sum_94 : decode cX11_sum 94 = .ok (.iconst 0, 1) := by decide +kernel
theorem dX11_sum_95 : decode cX11_sum 95 = .ok (.iadd, 1) := by decide +kernel
theorem dX11_sum_96 : decode cX11_sum 96 = .ok (.istore_n 2, 1) := by decide +kernel
theorem dX11_sum_97 : decode cX11_sum 97 = .ok (.iinc 3 1, 3) := by decide +kernel
theorem dX11_sum_100 : decode cX11_sum 100 = .ok (.goto (-27), 3) := by decide +kernel
theorem dX11_sum_103 : decode cX11_sum 103 = .ok (.iload_n 2, 1) := by decide +kernel
theorem dX11_sum_104 : decode cX11_sum 104 = .ok (.ireturn, 1) := by decide +kernel
theorem dX11_sum_105 : decode cX11_sum 105 = .ok (.iconst 0, 1) := by decide +kernel
theorem dX11_sum_106 : decode cX11_sum 106 = .ok (.istore_n 3, 1) := by decide +kernel
theorem dX11_sum_107 : decode cX11_sum 107 = .ok (.iload_n 3, 1) := by decide +kernel
theorem dX11_sum_108 : decode cX11_sum 108 = .ok (.aload_n 0, 1) := by decide +kernel
theorem dX11_sum_109 : decode cX11_sum 109 = .ok (.getfield 107, 3) := by decide +kernel
theorem dX11_sum_112 : decode cX11_sum 112 = .ok (.if_icmp .ge 27, 3) := by decide +kernel
theorem dX11_sum_115 : decode cX11_sum 115 = .ok (.iload_n 2, 1) := by decide +kernel
theorem dX11_sum_116 : decode cX11_sum 116 = .ok (.aload_n 0, 1) := by decide +kernel
theorem dX11_sum_117 : decode cX11_sum 117 = .ok (.getfield 37, 3) := by decide +kernel
theorem dX11_sum_120 : decode cX11_sum 120 = .ok (.iload_n 3, 1) := by decide +kernel
theorem dX11_sum_121 : decode cX11_sum 121 = .ok (.iaload, 1) := by decide +kernel
theorem dX11_sum_122 : decode cX11_sum 122 = .ok (.iconst (-1), 1) := by decide +kernel
theorem dX11_sum_123 : decode cX11_sum 123 = .ok (.if_icmp .eq 7, 3) := by decide +kernel
theorem dX11_sum_126 : decode cX11_sum 126 = .ok (.iconst 1, 1) := by decide +kernel
theorem dX11_sum_127 : decode cX11_sum 127 = .ok (.goto 4, 3) := by decide +kernel
theorem dX11_sum_130 : decode cX11_sum 130 = .ok (.iconst 0, 1) := by decide +kernel
theorem dX11_sum_131 : decode cX11_sum 131 = .ok (.iadd, 1) := by decide +kernel
theorem dX11_sum_132 : decode cX11_sum 132 = .ok (.istore_n 2, 1) := by decide +kernel
theorem dX11_sum_133 : decode cX11_sum 133 = .ok (.iinc 3 1, 3) := by decide +kernel
theorem dX11_sum_136 : decode cX11_sum 136 = .ok (.goto (-29), 3) := by decide +kernel
theorem dX11_sum_139 : decode cX11_sum 139 = .ok (.iload_n 2, 1) := by decide +kernel
theorem dX11_sum_140 : decode cX11_sum 140 = .ok (.ireturn, 1) := by decide +kernel
theorem dX11_sum_141 : decode cX11_sum 141 = .ok (.bipush (-2), 2) := by decide +kernel
theorem dX11_sum_143 : decode cX11_sum 143 = .ok (.ireturn, 1) := by decide +kernel
theorem dJ9_max_7cf53_0 : decode cJ9_max_7cf53 0 = .ok (.iload_n 0, 1) := by decide +kernel
theorem dJ9_max_7cf53_1 : decode cJ9_max_7cf53 1 = .ok (.iload_n 1, 1) := by decide +kernel
theorem dJ9_max_7cf53_2 : decode cJ9_max_7cf53 2 = .ok (.if_icmp .lt 7, 3) := by decide +kernel
theorem dJ9_max_7cf53_5 : decode cJ9_max_7cf53 5 = .ok (.iload_n 0, 1) := by decide +kernel
theorem dJ9_max_7cf53_6 : decode cJ9_max_7cf53 6 = .ok (.goto 4, 3) := by decide +kernel
theorem dJ9_max_7cf53_9 : decode cJ9_max_7cf53 9 = .ok (.iload_n 1, 1) := by decide +kernel
theorem dJ9_max_7cf53_10 : decode cJ9_max_7cf53 10 = .ok (.ireturn, 1) := by decide +kernel
theorem dJ9_max_f86c9_0 : decode cJ9_max_f86c9 0 = .ok (.lload_n 0, 1) := by decide +kernel
theorem dJ9_max_f86c9_1 : decode cJ9_max_f86c9 1 = .ok (.lload_n 2, 1) := by decide +kernel
theorem dJ9_max_f86c9_2 : decode cJ9_max_f86c9 2 = .ok (.lcmp, 1) := by decide +kernel
theorem dJ9_max_f86c9_3 : decode cJ9_max_f86c9 3 = .ok (.ifCond .lt 7, 3) := by decide +kernel
theorem dJ9_max_f86c9_6 : decode cJ9_max_f86c9 6 = .ok (.lload_n 0, 1) := by decide +kernel
theorem dJ9_max_f86c9_7 : decode cJ9_max_f86c9 7 = .ok (.goto 4, 3) := by decide +kernel
theorem dJ9_max_f86c9_10 : decode cJ9_max_f86c9 10 = .ok (.lload_n 2, 1) := by decide +kernel
theorem dJ9_max_f86c9_11 : decode cJ9_max_f86c9 11 = .ok (.lreturn, 1) := by decide +kernel
theorem dJ9_min_7cf53_0 : decode cJ9_min_7cf53 0 = .ok (.iload_n 0, 1) := by decide +kernel
theorem dJ9_min_7cf53_1 : decode cJ9_min_7cf53 1 = .ok (.iload_n 1, 1) := by decide +kernel
theorem dJ9_min_7cf53_2 : decode cJ9_min_7cf53 2 = .ok (.if_icmp .gt 7, 3) := by decide +kernel
theorem dJ9_min_7cf53_5 : decode cJ9_min_7cf53 5 = .ok (.iload_n 0, 1) := by decide +kernel
theorem dJ9_min_7cf53_6 : decode cJ9_min_7cf53 6 = .ok (.goto 4, 3) := by decide +kernel
theorem dJ9_min_7cf53_9 : decode cJ9_min_7cf53 9 = .ok (.iload_n 1, 1) := by decide +kernel
theorem dJ9_min_7cf53_10 : decode cJ9_min_7cf53 10 = .ok (.ireturn, 1) := by decide +kernel
theorem dJ7_fill_d0a16_0 : decode cJ7_fill_d0a16 0 = .ok (.iconst 0, 1) := by decide +kernel
theorem dJ7_fill_d0a16_1 : decode cJ7_fill_d0a16 1 = .ok (.istore_n 3, 1) := by decide +kernel
theorem dJ7_fill_d0a16_2 : decode cJ7_fill_d0a16 2 = .ok (.aload_n 0, 1) := by decide +kernel
theorem dJ7_fill_d0a16_3 : decode cJ7_fill_d0a16 3 = .ok (.arraylength, 1) := by decide +kernel
theorem dJ7_fill_d0a16_4 : decode cJ7_fill_d0a16 4 = .ok (.istore 4, 2) := by decide +kernel
theorem dJ7_fill_d0a16_6 : decode cJ7_fill_d0a16 6 = .ok (.iload_n 3, 1) := by decide +kernel
theorem dJ7_fill_d0a16_7 : decode cJ7_fill_d0a16 7 = .ok (.iload 4, 2) := by decide +kernel
theorem dJ7_fill_d0a16_9 : decode cJ7_fill_d0a16 9 = .ok (.if_icmp .ge 13, 3) := by decide +kernel
theorem dJ7_fill_d0a16_12 : decode cJ7_fill_d0a16 12 = .ok (.aload_n 0, 1) := by decide +kernel
theorem dJ7_fill_d0a16_13 : decode cJ7_fill_d0a16 13 = .ok (.iload_n 3, 1) := by decide +kernel
theorem dJ7_fill_d0a16_14 : decode cJ7_fill_d0a16 14 = .ok (.lload_n 1, 1) := by decide +kernel
theorem dJ7_fill_d0a16_15 : decode cJ7_fill_d0a16 15 = .ok (.lastore, 1) := by decide +kernel
theorem dJ7_fill_d0a16_16 : decode cJ7_fill_d0a16 16 = .ok (.iinc 3 1, 3) := by decide +kernel
theorem dJ7_fill_d0a16_19 : decode cJ7_fill_d0a16 19 = .ok (.goto (-13), 3) := by decide +kernel
theorem dJ7_fill_d0a16_22 : decode cJ7_fill_d0a16 22 = .ok (.return_, 1) := by decide +kernel
theorem dJ7_fill_53178_0 : decode cJ7_fill_53178 0 = .ok (.iconst 0, 1) := by decide +kernel
theorem dJ7_fill_53178_1 : decode cJ7_fill_53178 1 = .ok (.istore_n 2, 1) := by decide +kernel
theorem dJ7_fill_53178_2 : decode cJ7_fill_53178 2 = .ok (.aload_n 0, 1) := by decide +kernel
theorem dJ7_fill_53178_3 : decode cJ7_fill_53178 3 = .ok (.arraylength, 1) := by decide +kernel
theorem dJ7_fill_53178_4 : decode cJ7_fill_53178 4 = .ok (.istore_n 3, 1) := by decide +kernel
theorem dJ7_fill_53178_5 : decode cJ7_fill_53178 5 = .ok (.iload_n 2, 1) := by decide +kernel
theorem dJ7_fill_53178_6 : decode cJ7_fill_53178 6 = .ok (.iload_n 3, 1) := by decide +kernel
theorem dJ7_fill_53178_7 : decode cJ7_fill_53178 7 = .ok (.if_icmp .ge 13, 3) := by decide +kernel
theorem dJ7_fill_53178_10 : decode cJ7_fill_53178 10 = .ok (.aload_n 0, 1) := by decide +kernel
theorem dJ7_fill_53178_11 : decode cJ7_fill_53178 11 = .ok (.iload_n 2, 1) := by decide +kernel
theorem dJ7_fill_53178_12 : decode cJ7_fill_53178 12 = .ok (.iload_n 1, 1) := by decide +kernel
theorem dJ7_fill_53178_13 : decode cJ7_fill_53178 13 = .ok (.iastore, 1) := by decide +kernel
theorem dJ7_fill_53178_14 : decode cJ7_fill_53178 14 = .ok (.iinc 2 1, 3) := by decide +kernel
theorem dJ7_fill_53178_17 : decode cJ7_fill_53178 17 = .ok (.goto (-12), 3) := by decide +kernel
theorem dJ7_fill_53178_20 : decode cJ7_fill_53178 20 = .ok (.return_, 1) := by decide +kernel
theorem dL_law_0 : decode cL_law 0 = .ok (.new 7, 3) := by decide +kernel
theorem dL_law_3 : decode cL_law 3 = .ok (.dup, 1) := by decide +kernel
theorem dL_law_4 : decode cL_law 4 = .ok (.invokespecial 9, 3) := by decide +kernel
theorem dL_law_7 : decode cL_law 7 = .ok (.astore_n 1, 1) := by decide +kernel
theorem dL_law_8 : decode cL_law 8 = .ok (.new 10, 3) := by decide +kernel
theorem dL_law_11 : decode cL_law 11 = .ok (.dup, 1) := by decide +kernel
theorem dL_law_12 : decode cL_law 12 = .ok (.invokespecial 12, 3) := by decide +kernel
theorem dL_law_15 : decode cL_law 15 = .ok (.astore_n 2, 1) := by decide +kernel
theorem dL_law_16 : decode cL_law 16 = .ok (.iconst 0, 1) := by decide +kernel
theorem dL_law_17 : decode cL_law 17 = .ok (.istore_n 3, 1) := by decide +kernel
theorem dL_law_18 : decode cL_law 18 = .ok (.iload_n 3, 1) := by decide +kernel
theorem dL_law_19 : decode cL_law 19 = .ok (.aload_n 0, 1) := by decide +kernel
theorem dL_law_20 : decode cL_law 20 = .ok (.arraylength, 1) := by decide +kernel
theorem dL_law_21 : decode cL_law 21 = .ok (.iconst 4, 1) := by decide +kernel
theorem dL_law_22 : decode cL_law 22 = .ok (.isub, 1) := by decide +kernel
theorem dL_law_23 : decode cL_law 23 = .ok (.if_icmp .gt 676, 3) := by decide +kernel
theorem dL_law_26 : decode cL_law 26 = .ok (.aload_n 0, 1) := by decide +kernel
theorem dL_law_27 : decode cL_law 27 = .ok (.iload_n 3, 1) := by decide +kernel
theorem dL_law_28 : decode cL_law 28 = .ok (.iaload, 1) := by decide +kernel
theorem dL_law_29 : decode cL_law 29 = .ok (.bipush 31, 2) := by decide +kernel
theorem dL_law_31 : decode cL_law 31 = .ok (.iand, 1) := by decide +kernel
theorem dL_law_32 : decode cL_law 32 = .ok (.tableswitch 661 0 18 #[92, 135, 168, 211, 254, 287, 330, 363, 396, 429, 443, 466, 489, 513, 536, 559, 592, 615, 638], 92) := by decide +kernel
theorem dL_law_124 : decode cL_law 124 = .ok (.aload_n 1, 1) := by decide +kernel
theorem dL_law_125 : decode cL_law 125 = .ok (.aload_n 0, 1) := by decide +kernel
theorem dL_law_126 : decode cL_law 126 = .ok (.iload_n 3, 1) := by decide +kernel
theorem dL_law_127 : decode cL_law 127 = .ok (.iconst 1, 1) := by decide +kernel
theorem dL_law_128 : decode cL_law 128 = .ok (.iadd, 1) := by decide +kernel
theorem dL_law_129 : decode cL_law 129 = .ok (.iaload, 1) := by decide +kernel
theorem dL_law_130 : decode cL_law 130 = .ok (.aload_n 0, 1) := by decide +kernel
theorem dL_law_131 : decode cL_law 131 = .ok (.iload_n 3, 1) := by decide +kernel
theorem dL_law_132 : decode cL_law 132 = .ok (.iconst 2, 1) := by decide +kernel
theorem dL_law_133 : decode cL_law 133 = .ok (.iadd, 1) := by decide +kernel
theorem dL_law_134 : decode cL_law 134 = .ok (.iaload, 1) := by decide +kernel
theorem dL_law_135 : decode cL_law 135 = .ok (.aload_n 0, 1) := by decide +kernel
theorem dL_law_136 : decode cL_law 136 = .ok (.iload_n 3, 1) := by decide +kernel
theorem dL_law_137 : decode cL_law 137 = .ok (.iconst 3, 1) := by decide +kernel
theorem dL_law_138 : decode cL_law 138 = .ok (.iadd, 1) := by decide +kernel
theorem dL_law_139 : decode cL_law 139 = .ok (.iaload, 1) := by decide +kernel
theorem dL_law_140 : decode cL_law 140 = .ok (.invokevirtual 13, 3) := by decide +kernel
theorem dL_law_143 : decode cL_law 143 = .ok (.aload_n 2, 1) := by decide +kernel
theorem dL_law_144 : decode cL_law 144 = .ok (.aload_n 0, 1) := by decide +kernel
theorem dL_law_145 : decode cL_law 145 = .ok (.iload_n 3, 1) := by decide +kernel
theorem dL_law_146 : decode cL_law 146 = .ok (.iconst 1, 1) := by decide +kernel
theorem dL_law_147 : decode cL_law 147 = .ok (.iadd, 1) := by decide +kernel
theorem dL_law_148 : decode cL_law 148 = .ok (.iaload, 1) := by decide +kernel
theorem dL_law_149 : decode cL_law 149 = .ok (.aload_n 0, 1) := by decide +kernel
theorem dL_law_150 : decode cL_law 150 = .ok (.iload_n 3, 1) := by decide +kernel
theorem dL_law_151 : decode cL_law 151 = .ok (.iconst 2, 1) := by decide +kernel
theorem dL_law_152 : decode cL_law 152 = .ok (.iadd, 1) := by decide +kernel
theorem dL_law_153 : decode cL_law 153 = .ok (.iaload, 1) := by decide +kernel
theorem dL_law_154 : decode cL_law 154 = .ok (.aload_n 0, 1) := by decide +kernel
theorem dL_law_155 : decode cL_law 155 = .ok (.iload_n 3, 1) := by decide +kernel
theorem dL_law_156 : decode cL_law 156 = .ok (.iconst 3, 1) := by decide +kernel
theorem dL_law_157 : decode cL_law 157 = .ok (.iadd, 1) := by decide +kernel
theorem dL_law_158 : decode cL_law 158 = .ok (.iaload, 1) := by decide +kernel
theorem dL_law_159 : decode cL_law 159 = .ok (.invokevirtual 17, 3) := by decide +kernel
theorem dL_law_162 : decode cL_law 162 = .ok (.if_icmp .eq 531, 3) := by decide +kernel
theorem dL_law_165 : decode cL_law 165 = .ok (.iconst 0, 1) := by decide +kernel
theorem dL_law_166 : decode cL_law 166 = .ok (.ireturn, 1) := by decide +kernel
theorem dL_law_167 : decode cL_law 167 = .ok (.aload_n 1, 1) := by decide +kernel
theorem dL_law_168 : decode cL_law 168 = .ok (.aload_n 0, 1) := by decide +kernel
theorem dL_law_169 : decode cL_law 169 = .ok (.iload_n 3, 1) := by decide +kernel
theorem dL_law_170 : decode cL_law 170 = .ok (.iconst 1, 1) := by decide +kernel
theorem dL_law_171 : decode cL_law 171 = .ok (.iadd, 1) := by decide +kernel
theorem dL_law_172 : decode cL_law 172 = .ok (.iaload, 1) := by decide +kernel
theorem dL_law_173 : decode cL_law 173 = .ok (.aload_n 0, 1) := by decide +kernel
theorem dL_law_174 : decode cL_law 174 = .ok (.iload_n 3, 1) := by decide +kernel
theorem dL_law_175 : decode cL_law 175 = .ok (.iconst 2, 1) := by decide +kernel
theorem dL_law_176 : decode cL_law 176 = .ok (.iadd, 1) := by decide +kernel
theorem dL_law_177 : decode cL_law 177 = .ok (.iaload, 1) := by decide +kernel
theorem dL_law_178 : decode cL_law 178 = .ok (.invokevirtual 18, 3) := by decide +kernel
theorem dL_law_181 : decode cL_law 181 = .ok (.aload_n 2, 1) := by decide +kernel
theorem dL_law_182 : decode cL_law 182 = .ok (.aload_n 0, 1) := by decide +kernel
theorem dL_law_183 : decode cL_law 183 = .ok (.iload_n 3, 1) := by decide +kernel
theorem dL_law_184 : decode cL_law 184 = .ok (.iconst 1, 1) := by decide +kernel
theorem dL_law_185 : decode cL_law 185 = .ok (.iadd, 1) := by decide +kernel
theorem dL_law_186 : decode cL_law 186 = .ok (.iaload, 1) := by decide +kernel
theorem dL_law_187 : decode cL_law 187 = .ok (.aload_n 0, 1) := by decide +kernel
theorem dL_law_188 : decode cL_law 188 = .ok (.iload_n 3, 1) := by decide +kernel
theorem dL_law_189 : decode cL_law 189 = .ok (.iconst 2, 1) := by decide +kernel
theorem dL_law_190 : decode cL_law 190 = .ok (.iadd, 1) := by decide +kernel
theorem dL_law_191 : decode cL_law 191 = .ok (.iaload, 1) := by decide +kernel
theorem dL_law_192 : decode cL_law 192 = .ok (.invokevirtual 22, 3) := by decide +kernel
theorem dL_law_195 : decode cL_law 195 = .ok (.if_icmp .eq 498, 3) := by decide +kernel
theorem dL_law_198 : decode cL_law 198 = .ok (.iconst 0, 1) := by decide +kernel
theorem dL_law_199 : decode cL_law 199 = .ok (.ireturn, 1) := by decide +kernel
theorem dL_law_200 : decode cL_law 200 = .ok (.aload_n 1, 1) := by decide +kernel
theorem dL_law_201 : decode cL_law 201 = .ok (.aload_n 0, 1) := by decide +kernel
theorem dL_law_202 : decode cL_law 202 = .ok (.iload_n 3, 1) := by decide +kernel
theorem dL_law_203 : decode cL_law 203 = .ok (.iconst 1, 1) := by decide +kernel
theorem dL_law_204 : decode cL_law 204 = .ok (.iadd, 1) := by decide +kernel
theorem dL_law_205 : decode cL_law 205 = .ok (.iaload, 1) := by decide +kernel
theorem dL_law_206 : decode cL_law 206 = .ok (.aload_n 0, 1) := by decide +kernel
theorem dL_law_207 : decode cL_law 207 = .ok (.iload_n 3, 1) := by decide +kernel
theorem dL_law_208 : decode cL_law 208 = .ok (.iconst 2, 1) := by decide +kernel
theorem dL_law_209 : decode cL_law 209 = .ok (.iadd, 1) := by decide +kernel
theorem dL_law_210 : decode cL_law 210 = .ok (.iaload, 1) := by decide +kernel
theorem dL_law_211 : decode cL_law 211 = .ok (.aload_n 0, 1) := by decide +kernel
theorem dL_law_212 : decode cL_law 212 = .ok (.iload_n 3, 1) := by decide +kernel
theorem dL_law_213 : decode cL_law 213 = .ok (.iconst 3, 1) := by decide +kernel
theorem dL_law_214 : decode cL_law 214 = .ok (.iadd, 1) := by decide +kernel
theorem dL_law_215 : decode cL_law 215 = .ok (.iaload, 1) := by decide +kernel
theorem dL_law_216 : decode cL_law 216 = .ok (.invokevirtual 23, 3) := by decide +kernel
theorem dL_law_219 : decode cL_law 219 = .ok (.aload_n 2, 1) := by decide +kernel
theorem dL_law_220 : decode cL_law 220 = .ok (.aload_n 0, 1) := by decide +kernel
theorem dL_law_221 : decode cL_law 221 = .ok (.iload_n 3, 1) := by decide +kernel
theorem dL_law_222 : decode cL_law 222 = .ok (.iconst 1, 1) := by decide +kernel
theorem dL_law_223 : decode cL_law 223 = .ok (.iadd, 1) := by decide +kernel
theorem dL_law_224 : decode cL_law 224 = .ok (.iaload, 1) := by decide +kernel
theorem dL_law_225 : decode cL_law 225 = .ok (.aload_n 0, 1) := by decide +kernel
theorem dL_law_226 : decode cL_law 226 = .ok (.iload_n 3, 1) := by decide +kernel
theorem dL_law_227 : decode cL_law 227 = .ok (.iconst 2, 1) := by decide +kernel
theorem dL_law_228 : decode cL_law 228 = .ok (.iadd, 1) := by decide +kernel
theorem dL_law_229 : decode cL_law 229 = .ok (.iaload, 1) := by decide +kernel
theorem dL_law_230 : decode cL_law 230 = .ok (.aload_n 0, 1) := by decide +kernel
theorem dL_law_231 : decode cL_law 231 = .ok (.iload_n 3, 1) := by decide +kernel
theorem dL_law_232 : decode cL_law 232 = .ok (.iconst 3, 1) := by decide +kernel
theorem dL_law_233 : decode cL_law 233 = .ok (.iadd, 1) := by decide +kernel
theorem dL_law_234 : decode cL_law 234 = .ok (.iaload, 1) := by decide +kernel
theorem dL_law_235 : decode cL_law 235 = .ok (.invokevirtual 26, 3) := by decide +kernel
theorem dL_law_238 : decode cL_law 238 = .ok (.if_icmp .eq 455, 3) := by decide +kernel
theorem dL_law_241 : decode cL_law 241 = .ok (.iconst 0, 1) := by decide +kernel
theorem dL_law_242 : decode cL_law 242 = .ok (.ireturn, 1) := by decide +kernel
theorem dL_law_243 : decode cL_law 243 = .ok (.aload_n 1, 1) := by decide +kernel
theorem dL_law_244 : decode cL_law 244 = .ok (.aload_n 0, 1) := by decide +kernel
theorem dL_law_245 : decode cL_law 245 = .ok (.iload_n 3, 1) := by decide +kernel
theorem dL_law_246 : decode cL_law 246 = .ok (.iconst 1, 1) := by decide +kernel
theorem dL_law_247 : decode cL_law 247 = .ok (.iadd, 1) := by decide +kernel
theorem dL_law_248 : decode cL_law 248 = .ok (.iaload, 1) := by decide +kernel
theorem dL_law_249 : decode cL_law 249 = .ok (.aload_n 0, 1) := by decide +kernel
theorem dL_law_250 : decode cL_law 250 = .ok (.iload_n 3, 1) := by decide +kernel
theorem dL_law_251 : decode cL_law 251 = .ok (.iconst 2, 1) := by decide +kernel
theorem dL_law_252 : decode cL_law 252 = .ok (.iadd, 1) := by decide +kernel
theorem dL_law_253 : decode cL_law 253 = .ok (.iaload, 1) := by decide +kernel
theorem dL_law_254 : decode cL_law 254 = .ok (.aload_n 0, 1) := by decide +kernel
theorem dL_law_255 : decode cL_law 255 = .ok (.iload_n 3, 1) := by decide +kernel
theorem dL_law_256 : decode cL_law 256 = .ok (.iconst 3, 1) := by decide +kernel
theorem dL_law_257 : decode cL_law 257 = .ok (.iadd, 1) := by decide +kernel
theorem dL_law_258 : decode cL_law 258 = .ok (.iaload, 1) := by decide +kernel
theorem dL_law_259 : decode cL_law 259 = .ok (.invokevirtual 27, 3) := by decide +kernel
theorem dL_law_262 : decode cL_law 262 = .ok (.aload_n 2, 1) := by decide +kernel
theorem dL_law_263 : decode cL_law 263 = .ok (.aload_n 0, 1) := by decide +kernel
theorem dL_law_264 : decode cL_law 264 = .ok (.iload_n 3, 1) := by decide +kernel
theorem dL_law_265 : decode cL_law 265 = .ok (.iconst 1, 1) := by decide +kernel
theorem dL_law_266 : decode cL_law 266 = .ok (.iadd, 1) := by decide +kernel
theorem dL_law_267 : decode cL_law 267 = .ok (.iaload, 1) := by decide +kernel
theorem dL_law_268 : decode cL_law 268 = .ok (.aload_n 0, 1) := by decide +kernel
theorem dL_law_269 : decode cL_law 269 = .ok (.iload_n 3, 1) := by decide +kernel
theorem dL_law_270 : decode cL_law 270 = .ok (.iconst 2, 1) := by decide +kernel
theorem dL_law_271 : decode cL_law 271 = .ok (.iadd, 1) := by decide +kernel
theorem dL_law_272 : decode cL_law 272 = .ok (.iaload, 1) := by decide +kernel
theorem dL_law_273 : decode cL_law 273 = .ok (.aload_n 0, 1) := by decide +kernel
theorem dL_law_274 : decode cL_law 274 = .ok (.iload_n 3, 1) := by decide +kernel
theorem dL_law_275 : decode cL_law 275 = .ok (.iconst 3, 1) := by decide +kernel
theorem dL_law_276 : decode cL_law 276 = .ok (.iadd, 1) := by decide +kernel
theorem dL_law_277 : decode cL_law 277 = .ok (.iaload, 1) := by decide +kernel
theorem dL_law_278 : decode cL_law 278 = .ok (.invokevirtual 30, 3) := by decide +kernel
theorem dL_law_281 : decode cL_law 281 = .ok (.if_icmp .eq 412, 3) := by decide +kernel
theorem dL_law_284 : decode cL_law 284 = .ok (.iconst 0, 1) := by decide +kernel
theorem dL_law_285 : decode cL_law 285 = .ok (.ireturn, 1) := by decide +kernel
theorem dL_law_286 : decode cL_law 286 = .ok (.aload_n 1, 1) := by decide +kernel
theorem dL_law_287 : decode cL_law 287 = .ok (.aload_n 0, 1) := by decide +kernel
theorem dL_law_288 : decode cL_law 288 = .ok (.iload_n 3, 1) := by decide +kernel
theorem dL_law_289 : decode cL_law 289 = .ok (.iconst 1, 1) := by decide +kernel
theorem dL_law_290 : decode cL_law 290 = .ok (.iadd, 1) := by decide +kernel
theorem dL_law_291 : decode cL_law 291 = .ok (.iaload, 1) := by decide +kernel
theorem dL_law_292 : decode cL_law 292 = .ok (.aload_n 0, 1) := by decide +kernel
theorem dL_law_293 : decode cL_law 293 = .ok (.iload_n 3, 1) := by decide +kernel
theorem dL_law_294 : decode cL_law 294 = .ok (.iconst 2, 1) := by decide +kernel
theorem dL_law_295 : decode cL_law 295 = .ok (.iadd, 1) := by decide +kernel
theorem dL_law_296 : decode cL_law 296 = .ok (.iaload, 1) := by decide +kernel
theorem dL_law_297 : decode cL_law 297 = .ok (.invokevirtual 31, 3) := by decide +kernel
theorem dL_law_300 : decode cL_law 300 = .ok (.aload_n 2, 1) := by decide +kernel
theorem dL_law_301 : decode cL_law 301 = .ok (.aload_n 0, 1) := by decide +kernel
theorem dL_law_302 : decode cL_law 302 = .ok (.iload_n 3, 1) := by decide +kernel
theorem dL_law_303 : decode cL_law 303 = .ok (.iconst 1, 1) := by decide +kernel
theorem dL_law_304 : decode cL_law 304 = .ok (.iadd, 1) := by decide +kernel
theorem dL_law_305 : decode cL_law 305 = .ok (.iaload, 1) := by decide +kernel
theorem dL_law_306 : decode cL_law 306 = .ok (.aload_n 0, 1) := by decide +kernel
theorem dL_law_307 : decode cL_law 307 = .ok (.iload_n 3, 1) := by decide +kernel
theorem dL_law_308 : decode cL_law 308 = .ok (.iconst 2, 1) := by decide +kernel
theorem dL_law_309 : decode cL_law 309 = .ok (.iadd, 1) := by decide +kernel
theorem dL_law_310 : decode cL_law 310 = .ok (.iaload, 1) := by decide +kernel
theorem dL_law_311 : decode cL_law 311 = .ok (.invokevirtual 34, 3) := by decide +kernel
theorem dL_law_314 : decode cL_law 314 = .ok (.if_icmp .eq 379, 3) := by decide +kernel
theorem dL_law_317 : decode cL_law 317 = .ok (.iconst 0, 1) := by decide +kernel
theorem dL_law_318 : decode cL_law 318 = .ok (.ireturn, 1) := by decide +kernel
theorem dL_law_319 : decode cL_law 319 = .ok (.aload_n 1, 1) := by decide +kernel
theorem dL_law_320 : decode cL_law 320 = .ok (.aload_n 0, 1) := by decide +kernel
theorem dL_law_321 : decode cL_law 321 = .ok (.iload_n 3, 1) := by decide +kernel
theorem dL_law_322 : decode cL_law 322 = .ok (.iconst 1, 1) := by decide +kernel
theorem dL_law_323 : decode cL_law 323 = .ok (.iadd, 1) := by decide +kernel
theorem dL_law_324 : decode cL_law 324 = .ok (.iaload, 1) := by decide +kernel
theorem dL_law_325 : decode cL_law 325 = .ok (.aload_n 0, 1) := by decide +kernel
theorem dL_law_326 : decode cL_law 326 = .ok (.iload_n 3, 1) := by decide +kernel
theorem dL_law_327 : decode cL_law 327 = .ok (.iconst 2, 1) := by decide +kernel
theorem dL_law_328 : decode cL_law 328 = .ok (.iadd, 1) := by decide +kernel
theorem dL_law_329 : decode cL_law 329 = .ok (.iaload, 1) := by decide +kernel
theorem dL_law_330 : decode cL_law 330 = .ok (.aload_n 0, 1) := by decide +kernel
theorem dL_law_331 : decode cL_law 331 = .ok (.iload_n 3, 1) := by decide +kernel
theorem dL_law_332 : decode cL_law 332 = .ok (.iconst 3, 1) := by decide +kernel
theorem dL_law_333 : decode cL_law 333 = .ok (.iadd, 1) := by decide +kernel
theorem dL_law_334 : decode cL_law 334 = .ok (.iaload, 1) := by decide +kernel
theorem dL_law_335 : decode cL_law 335 = .ok (.invokevirtual 35, 3) := by decide +kernel
theorem dL_law_338 : decode cL_law 338 = .ok (.aload_n 2, 1) := by decide +kernel
theorem dL_law_339 : decode cL_law 339 = .ok (.aload_n 0, 1) := by decide +kernel
theorem dL_law_340 : decode cL_law 340 = .ok (.iload_n 3, 1) := by decide +kernel
theorem dL_law_341 : decode cL_law 341 = .ok (.iconst 1, 1) := by decide +kernel
theorem dL_law_342 : decode cL_law 342 = .ok (.iadd, 1) := by decide +kernel
theorem dL_law_343 : decode cL_law 343 = .ok (.iaload, 1) := by decide +kernel
theorem dL_law_344 : decode cL_law 344 = .ok (.aload_n 0, 1) := by decide +kernel
theorem dL_law_345 : decode cL_law 345 = .ok (.iload_n 3, 1) := by decide +kernel
theorem dL_law_346 : decode cL_law 346 = .ok (.iconst 2, 1) := by decide +kernel
theorem dL_law_347 : decode cL_law 347 = .ok (.iadd, 1) := by decide +kernel
theorem dL_law_348 : decode cL_law 348 = .ok (.iaload, 1) := by decide +kernel
theorem dL_law_349 : decode cL_law 349 = .ok (.aload_n 0, 1) := by decide +kernel
theorem dL_law_350 : decode cL_law 350 = .ok (.iload_n 3, 1) := by decide +kernel
theorem dL_law_351 : decode cL_law 351 = .ok (.iconst 3, 1) := by decide +kernel
theorem dL_law_352 : decode cL_law 352 = .ok (.iadd, 1) := by decide +kernel
theorem dL_law_353 : decode cL_law 353 = .ok (.iaload, 1) := by decide +kernel
theorem dL_law_354 : decode cL_law 354 = .ok (.invokevirtual 38, 3) := by decide +kernel
theorem dL_law_357 : decode cL_law 357 = .ok (.if_icmp .eq 336, 3) := by decide +kernel
theorem dL_law_360 : decode cL_law 360 = .ok (.iconst 0, 1) := by decide +kernel
theorem dL_law_361 : decode cL_law 361 = .ok (.ireturn, 1) := by decide +kernel
theorem dL_law_362 : decode cL_law 362 = .ok (.aload_n 1, 1) := by decide +kernel
theorem dL_law_363 : decode cL_law 363 = .ok (.aload_n 0, 1) := by decide +kernel
theorem dL_law_364 : decode cL_law 364 = .ok (.iload_n 3, 1) := by decide +kernel
theorem dL_law_365 : decode cL_law 365 = .ok (.iconst 1, 1) := by decide +kernel
theorem dL_law_366 : decode cL_law 366 = .ok (.iadd, 1) := by decide +kernel
theorem dL_law_367 : decode cL_law 367 = .ok (.iaload, 1) := by decide +kernel
theorem dL_law_368 : decode cL_law 368 = .ok (.aload_n 0, 1) := by decide +kernel
theorem dL_law_369 : decode cL_law 369 = .ok (.iload_n 3, 1) := by decide +kernel
theorem dL_law_370 : decode cL_law 370 = .ok (.iconst 2, 1) := by decide +kernel
theorem dL_law_371 : decode cL_law 371 = .ok (.iadd, 1) := by decide +kernel
theorem dL_law_372 : decode cL_law 372 = .ok (.iaload, 1) := by decide +kernel
theorem dL_law_373 : decode cL_law 373 = .ok (.invokevirtual 39, 3) := by decide +kernel
theorem dL_law_376 : decode cL_law 376 = .ok (.aload_n 2, 1) := by decide +kernel
theorem dL_law_377 : decode cL_law 377 = .ok (.aload_n 0, 1) := by decide +kernel
theorem dL_law_378 : decode cL_law 378 = .ok (.iload_n 3, 1) := by decide +kernel
theorem dL_law_379 : decode cL_law 379 = .ok (.iconst 1, 1) := by decide +kernel
theorem dL_law_380 : decode cL_law 380 = .ok (.iadd, 1) := by decide +kernel
theorem dL_law_381 : decode cL_law 381 = .ok (.iaload, 1) := by decide +kernel
theorem dL_law_382 : decode cL_law 382 = .ok (.aload_n 0, 1) := by decide +kernel
theorem dL_law_383 : decode cL_law 383 = .ok (.iload_n 3, 1) := by decide +kernel
theorem dL_law_384 : decode cL_law 384 = .ok (.iconst 2, 1) := by decide +kernel
theorem dL_law_385 : decode cL_law 385 = .ok (.iadd, 1) := by decide +kernel
theorem dL_law_386 : decode cL_law 386 = .ok (.iaload, 1) := by decide +kernel
theorem dL_law_387 : decode cL_law 387 = .ok (.invokevirtual 43, 3) := by decide +kernel
theorem dL_law_390 : decode cL_law 390 = .ok (.if_icmp .eq 303, 3) := by decide +kernel
theorem dL_law_393 : decode cL_law 393 = .ok (.iconst 0, 1) := by decide +kernel
theorem dL_law_394 : decode cL_law 394 = .ok (.ireturn, 1) := by decide +kernel
theorem dL_law_395 : decode cL_law 395 = .ok (.aload_n 1, 1) := by decide +kernel
theorem dL_law_396 : decode cL_law 396 = .ok (.aload_n 0, 1) := by decide +kernel
theorem dL_law_397 : decode cL_law 397 = .ok (.iload_n 3, 1) := by decide +kernel
theorem dL_law_398 : decode cL_law 398 = .ok (.iconst 1, 1) := by decide +kernel
theorem dL_law_399 : decode cL_law 399 = .ok (.iadd, 1) := by decide +kernel
theorem dL_law_400 : decode cL_law 400 = .ok (.iaload, 1) := by decide +kernel
theorem dL_law_401 : decode cL_law 401 = .ok (.aload_n 0, 1) := by decide +kernel
theorem dL_law_402 : decode cL_law 402 = .ok (.iload_n 3, 1) := by decide +kernel
theorem dL_law_403 : decode cL_law 403 = .ok (.iconst 2, 1) := by decide +kernel
theorem dL_law_404 : decode cL_law 404 = .ok (.iadd, 1) := by decide +kernel
theorem dL_law_405 : decode cL_law 405 = .ok (.iaload, 1) := by decide +kernel
theorem dL_law_406 : decode cL_law 406 = .ok (.invokevirtual 44, 3) := by decide +kernel
theorem dL_law_409 : decode cL_law 409 = .ok (.aload_n 2, 1) := by decide +kernel
theorem dL_law_410 : decode cL_law 410 = .ok (.aload_n 0, 1) := by decide +kernel
theorem dL_law_411 : decode cL_law 411 = .ok (.iload_n 3, 1) := by decide +kernel
theorem dL_law_412 : decode cL_law 412 = .ok (.iconst 1, 1) := by decide +kernel
theorem dL_law_413 : decode cL_law 413 = .ok (.iadd, 1) := by decide +kernel
theorem dL_law_414 : decode cL_law 414 = .ok (.iaload, 1) := by decide +kernel
theorem dL_law_415 : decode cL_law 415 = .ok (.aload_n 0, 1) := by decide +kernel
theorem dL_law_416 : decode cL_law 416 = .ok (.iload_n 3, 1) := by decide +kernel
theorem dL_law_417 : decode cL_law 417 = .ok (.iconst 2, 1) := by decide +kernel
theorem dL_law_418 : decode cL_law 418 = .ok (.iadd, 1) := by decide +kernel
theorem dL_law_419 : decode cL_law 419 = .ok (.iaload, 1) := by decide +kernel
theorem dL_law_420 : decode cL_law 420 = .ok (.invokevirtual 47, 3) := by decide +kernel
theorem dL_law_423 : decode cL_law 423 = .ok (.if_icmp .eq 270, 3) := by decide +kernel
theorem dL_law_426 : decode cL_law 426 = .ok (.iconst 0, 1) := by decide +kernel
theorem dL_law_427 : decode cL_law 427 = .ok (.ireturn, 1) := by decide +kernel
theorem dL_law_428 : decode cL_law 428 = .ok (.aload_n 1, 1) := by decide +kernel
theorem dL_law_429 : decode cL_law 429 = .ok (.aload_n 0, 1) := by decide +kernel
theorem dL_law_430 : decode cL_law 430 = .ok (.iload_n 3, 1) := by decide +kernel
theorem dL_law_431 : decode cL_law 431 = .ok (.iconst 1, 1) := by decide +kernel
theorem dL_law_432 : decode cL_law 432 = .ok (.iadd, 1) := by decide +kernel
theorem dL_law_433 : decode cL_law 433 = .ok (.iaload, 1) := by decide +kernel
theorem dL_law_434 : decode cL_law 434 = .ok (.aload_n 0, 1) := by decide +kernel
theorem dL_law_435 : decode cL_law 435 = .ok (.iload_n 3, 1) := by decide +kernel
theorem dL_law_436 : decode cL_law 436 = .ok (.iconst 2, 1) := by decide +kernel
theorem dL_law_437 : decode cL_law 437 = .ok (.iadd, 1) := by decide +kernel
theorem dL_law_438 : decode cL_law 438 = .ok (.iaload, 1) := by decide +kernel
theorem dL_law_439 : decode cL_law 439 = .ok (.invokevirtual 48, 3) := by decide +kernel
theorem dL_law_442 : decode cL_law 442 = .ok (.aload_n 2, 1) := by decide +kernel
theorem dL_law_443 : decode cL_law 443 = .ok (.aload_n 0, 1) := by decide +kernel
theorem dL_law_444 : decode cL_law 444 = .ok (.iload_n 3, 1) := by decide +kernel
theorem dL_law_445 : decode cL_law 445 = .ok (.iconst 1, 1) := by decide +kernel
theorem dL_law_446 : decode cL_law 446 = .ok (.iadd, 1) := by decide +kernel
theorem dL_law_447 : decode cL_law 447 = .ok (.iaload, 1) := by decide +kernel
theorem dL_law_448 : decode cL_law 448 = .ok (.aload_n 0, 1) := by decide +kernel
theorem dL_law_449 : decode cL_law 449 = .ok (.iload_n 3, 1) := by decide +kernel
theorem dL_law_450 : decode cL_law 450 = .ok (.iconst 2, 1) := by decide +kernel
theorem dL_law_451 : decode cL_law 451 = .ok (.iadd, 1) := by decide +kernel
theorem dL_law_452 : decode cL_law 452 = .ok (.iaload, 1) := by decide +kernel
theorem dL_law_453 : decode cL_law 453 = .ok (.invokevirtual 51, 3) := by decide +kernel
theorem dL_law_456 : decode cL_law 456 = .ok (.if_icmp .eq 237, 3) := by decide +kernel
theorem dL_law_459 : decode cL_law 459 = .ok (.iconst 0, 1) := by decide +kernel
theorem dL_law_460 : decode cL_law 460 = .ok (.ireturn, 1) := by decide +kernel
theorem dL_law_461 : decode cL_law 461 = .ok (.aload_n 1, 1) := by decide +kernel
theorem dL_law_462 : decode cL_law 462 = .ok (.invokevirtual 52, 3) := by decide +kernel
theorem dL_law_465 : decode cL_law 465 = .ok (.aload_n 2, 1) := by decide +kernel
theorem dL_law_466 : decode cL_law 466 = .ok (.invokevirtual 56, 3) := by decide +kernel
theorem dL_law_469 : decode cL_law 469 = .ok (.lcmp, 1) := by decide +kernel
theorem dL_law_470 : decode cL_law 470 = .ok (.ifCond .eq 223, 3) := by decide +kernel
theorem dL_law_473 : decode cL_law 473 = .ok (.iconst 0, 1) := by decide +kernel
theorem dL_law_474 : decode cL_law 474 = .ok (.ireturn, 1) := by decide +kernel
theorem dL_law_475 : decode cL_law 475 = .ok (.aload_n 1, 1) := by decide +kernel
theorem dL_law_476 : decode cL_law 476 = .ok (.aload_n 0, 1) := by decide +kernel
theorem dL_law_477 : decode cL_law 477 = .ok (.iload_n 3, 1) := by decide +kernel
theorem dL_law_478 : decode cL_law 478 = .ok (.iconst 1, 1) := by decide +kernel
theorem dL_law_479 : decode cL_law 479 = .ok (.iadd, 1) := by decide +kernel
theorem dL_law_480 : decode cL_law 480 = .ok (.iaload, 1) := by decide +kernel
theorem dL_law_481 : decode cL_law 481 = .ok (.invokevirtual 57, 3) := by decide +kernel
theorem dL_law_484 : decode cL_law 484 = .ok (.aload_n 2, 1) := by decide +kernel
theorem dL_law_485 : decode cL_law 485 = .ok (.aload_n 0, 1) := by decide +kernel
theorem dL_law_486 : decode cL_law 486 = .ok (.iload_n 3, 1) := by decide +kernel
theorem dL_law_487 : decode cL_law 487 = .ok (.iconst 1, 1) := by decide +kernel
theorem dL_law_488 : decode cL_law 488 = .ok (.iadd, 1) := by decide +kernel
theorem dL_law_489 : decode cL_law 489 = .ok (.iaload, 1) := by decide +kernel
theorem dL_law_490 : decode cL_law 490 = .ok (.invokevirtual 61, 3) := by decide +kernel
theorem dL_law_493 : decode cL_law 493 = .ok (.if_icmp .eq 200, 3) := by decide +kernel
theorem dL_law_496 : decode cL_law 496 = .ok (.iconst 0, 1) := by decide +kernel
theorem dL_law_497 : decode cL_law 497 = .ok (.ireturn, 1) := by decide +kernel
theorem dL_law_498 : decode cL_law 498 = .ok (.aload_n 1, 1) := by decide +kernel
theorem dL_law_499 : decode cL_law 499 = .ok (.aload_n 0, 1) := by decide +kernel
theorem dL_law_500 : decode cL_law 500 = .ok (.iload_n 3, 1) := by decide +kernel
theorem dL_law_501 : decode cL_law 501 = .ok (.iconst 1, 1) := by decide +kernel
theorem dL_law_502 : decode cL_law 502 = .ok (.iadd, 1) := by decide +kernel
theorem dL_law_503 : decode cL_law 503 = .ok (.iaload, 1) := by decide +kernel
theorem dL_law_504 : decode cL_law 504 = .ok (.invokevirtual 62, 3) := by decide +kernel
theorem dL_law_507 : decode cL_law 507 = .ok (.aload_n 2, 1) := by decide +kernel
theorem dL_law_508 : decode cL_law 508 = .ok (.aload_n 0, 1) := by decide +kernel
theorem dL_law_509 : decode cL_law 509 = .ok (.iload_n 3, 1) := by decide +kernel
theorem dL_law_510 : decode cL_law 510 = .ok (.iconst 1, 1) := by decide +kernel
theorem dL_law_511 : decode cL_law 511 = .ok (.iadd, 1) := by decide +kernel
theorem dL_law_512 : decode cL_law 512 = .ok (.iaload, 1) := by decide +kernel
theorem dL_law_513 : decode cL_law 513 = .ok (.invokevirtual 65, 3) := by decide +kernel
theorem dL_law_516 : decode cL_law 516 = .ok (.if_icmp .eq 177, 3) := by decide +kernel
theorem dL_law_519 : decode cL_law 519 = .ok (.iconst 0, 1) := by decide +kernel
theorem dL_law_520 : decode cL_law 520 = .ok (.ireturn, 1) := by decide +kernel
theorem dL_law_521 : decode cL_law 521 = .ok (.aload_n 1, 1) := by decide +kernel
theorem dL_law_522 : decode cL_law 522 = .ok (.aload_n 0, 1) := by decide +kernel
theorem dL_law_523 : decode cL_law 523 = .ok (.iload_n 3, 1) := by decide +kernel
theorem dL_law_524 : decode cL_law 524 = .ok (.iconst 1, 1) := by decide +kernel
theorem dL_law_525 : decode cL_law 525 = .ok (.iadd, 1) := by decide +kernel
theorem dL_law_526 : decode cL_law 526 = .ok (.iaload, 1) := by decide +kernel
theorem dL_law_527 : decode cL_law 527 = .ok (.invokevirtual 66, 3) := by decide +kernel
theorem dL_law_530 : decode cL_law 530 = .ok (.aload_n 2, 1) := by decide +kernel
theorem dL_law_531 : decode cL_law 531 = .ok (.aload_n 0, 1) := by decide +kernel
theorem dL_law_532 : decode cL_law 532 = .ok (.iload_n 3, 1) := by decide +kernel
theorem dL_law_533 : decode cL_law 533 = .ok (.iconst 1, 1) := by decide +kernel
theorem dL_law_534 : decode cL_law 534 = .ok (.iadd, 1) := by decide +kernel
theorem dL_law_535 : decode cL_law 535 = .ok (.iaload, 1) := by decide +kernel
theorem dL_law_536 : decode cL_law 536 = .ok (.invokevirtual 70, 3) := by decide +kernel
theorem dL_law_539 : decode cL_law 539 = .ok (.lcmp, 1) := by decide +kernel
theorem dL_law_540 : decode cL_law 540 = .ok (.ifCond .eq 153, 3) := by decide +kernel
theorem dL_law_543 : decode cL_law 543 = .ok (.iconst 0, 1) := by decide +kernel
theorem dL_law_544 : decode cL_law 544 = .ok (.ireturn, 1) := by decide +kernel
theorem dL_law_545 : decode cL_law 545 = .ok (.aload_n 1, 1) := by decide +kernel
theorem dL_law_546 : decode cL_law 546 = .ok (.aload_n 0, 1) := by decide +kernel
theorem dL_law_547 : decode cL_law 547 = .ok (.iload_n 3, 1) := by decide +kernel
theorem dL_law_548 : decode cL_law 548 = .ok (.iconst 1, 1) := by decide +kernel
theorem dL_law_549 : decode cL_law 549 = .ok (.iadd, 1) := by decide +kernel
theorem dL_law_550 : decode cL_law 550 = .ok (.iaload, 1) := by decide +kernel
theorem dL_law_551 : decode cL_law 551 = .ok (.invokevirtual 71, 3) := by decide +kernel
theorem dL_law_554 : decode cL_law 554 = .ok (.aload_n 2, 1) := by decide +kernel
theorem dL_law_555 : decode cL_law 555 = .ok (.aload_n 0, 1) := by decide +kernel
theorem dL_law_556 : decode cL_law 556 = .ok (.iload_n 3, 1) := by decide +kernel
theorem dL_law_557 : decode cL_law 557 = .ok (.iconst 1, 1) := by decide +kernel
theorem dL_law_558 : decode cL_law 558 = .ok (.iadd, 1) := by decide +kernel
theorem dL_law_559 : decode cL_law 559 = .ok (.iaload, 1) := by decide +kernel
theorem dL_law_560 : decode cL_law 560 = .ok (.invokevirtual 74, 3) := by decide +kernel
theorem dL_law_563 : decode cL_law 563 = .ok (.if_icmp .eq 130, 3) := by decide +kernel
theorem dL_law_566 : decode cL_law 566 = .ok (.iconst 0, 1) := by decide +kernel
theorem dL_law_567 : decode cL_law 567 = .ok (.ireturn, 1) := by decide +kernel
theorem dL_law_568 : decode cL_law 568 = .ok (.aload_n 1, 1) := by decide +kernel
theorem dL_law_569 : decode cL_law 569 = .ok (.aload_n 0, 1) := by decide +kernel
theorem dL_law_570 : decode cL_law 570 = .ok (.iload_n 3, 1) := by decide +kernel
theorem dL_law_571 : decode cL_law 571 = .ok (.iconst 1, 1) := by decide +kernel
theorem dL_law_572 : decode cL_law 572 = .ok (.iadd, 1) := by decide +kernel
theorem dL_law_573 : decode cL_law 573 = .ok (.iaload, 1) := by decide +kernel
theorem dL_law_574 : decode cL_law 574 = .ok (.invokevirtual 75, 3) := by decide +kernel
theorem dL_law_577 : decode cL_law 577 = .ok (.aload_n 2, 1) := by decide +kernel
theorem dL_law_578 : decode cL_law 578 = .ok (.aload_n 0, 1) := by decide +kernel
theorem dL_law_579 : decode cL_law 579 = .ok (.iload_n 3, 1) := by decide +kernel
theorem dL_law_580 : decode cL_law 580 = .ok (.iconst 1, 1) := by decide +kernel
theorem dL_law_581 : decode cL_law 581 = .ok (.iadd, 1) := by decide +kernel
theorem dL_law_582 : decode cL_law 582 = .ok (.iaload, 1) := by decide +kernel
theorem dL_law_583 : decode cL_law 583 = .ok (.invokevirtual 78, 3) := by decide +kernel
theorem dL_law_586 : decode cL_law 586 = .ok (.if_icmp .eq 107, 3) := by decide +kernel
theorem dL_law_589 : decode cL_law 589 = .ok (.iconst 0, 1) := by decide +kernel
theorem dL_law_590 : decode cL_law 590 = .ok (.ireturn, 1) := by decide +kernel
theorem dL_law_591 : decode cL_law 591 = .ok (.aload_n 1, 1) := by decide +kernel
theorem dL_law_592 : decode cL_law 592 = .ok (.aload_n 0, 1) := by decide +kernel
theorem dL_law_593 : decode cL_law 593 = .ok (.iload_n 3, 1) := by decide +kernel
theorem dL_law_594 : decode cL_law 594 = .ok (.iconst 1, 1) := by decide +kernel
theorem dL_law_595 : decode cL_law 595 = .ok (.iadd, 1) := by decide +kernel
theorem dL_law_596 : decode cL_law 596 = .ok (.iaload, 1) := by decide +kernel
theorem dL_law_597 : decode cL_law 597 = .ok (.aload_n 0, 1) := by decide +kernel
theorem dL_law_598 : decode cL_law 598 = .ok (.iload_n 3, 1) := by decide +kernel
theorem dL_law_599 : decode cL_law 599 = .ok (.iconst 2, 1) := by decide +kernel
theorem dL_law_600 : decode cL_law 600 = .ok (.iadd, 1) := by decide +kernel
theorem dL_law_601 : decode cL_law 601 = .ok (.iaload, 1) := by decide +kernel
theorem dL_law_602 : decode cL_law 602 = .ok (.invokevirtual 79, 3) := by decide +kernel
theorem dL_law_605 : decode cL_law 605 = .ok (.aload_n 2, 1) := by decide +kernel
theorem dL_law_606 : decode cL_law 606 = .ok (.aload_n 0, 1) := by decide +kernel
theorem dL_law_607 : decode cL_law 607 = .ok (.iload_n 3, 1) := by decide +kernel
theorem dL_law_608 : decode cL_law 608 = .ok (.iconst 1, 1) := by decide +kernel
theorem dL_law_609 : decode cL_law 609 = .ok (.iadd, 1) := by decide +kernel
theorem dL_law_610 : decode cL_law 610 = .ok (.iaload, 1) := by decide +kernel
theorem dL_law_611 : decode cL_law 611 = .ok (.aload_n 0, 1) := by decide +kernel
theorem dL_law_612 : decode cL_law 612 = .ok (.iload_n 3, 1) := by decide +kernel
theorem dL_law_613 : decode cL_law 613 = .ok (.iconst 2, 1) := by decide +kernel
theorem dL_law_614 : decode cL_law 614 = .ok (.iadd, 1) := by decide +kernel
theorem dL_law_615 : decode cL_law 615 = .ok (.iaload, 1) := by decide +kernel
theorem dL_law_616 : decode cL_law 616 = .ok (.invokevirtual 82, 3) := by decide +kernel
theorem dL_law_619 : decode cL_law 619 = .ok (.if_icmp .eq 74, 3) := by decide +kernel
theorem dL_law_622 : decode cL_law 622 = .ok (.iconst 0, 1) := by decide +kernel
theorem dL_law_623 : decode cL_law 623 = .ok (.ireturn, 1) := by decide +kernel
theorem dL_law_624 : decode cL_law 624 = .ok (.aload_n 1, 1) := by decide +kernel
theorem dL_law_625 : decode cL_law 625 = .ok (.aload_n 0, 1) := by decide +kernel
theorem dL_law_626 : decode cL_law 626 = .ok (.iload_n 3, 1) := by decide +kernel
theorem dL_law_627 : decode cL_law 627 = .ok (.iconst 1, 1) := by decide +kernel
theorem dL_law_628 : decode cL_law 628 = .ok (.iadd, 1) := by decide +kernel
theorem dL_law_629 : decode cL_law 629 = .ok (.iaload, 1) := by decide +kernel
theorem dL_law_630 : decode cL_law 630 = .ok (.invokevirtual 83, 3) := by decide +kernel
theorem dL_law_633 : decode cL_law 633 = .ok (.aload_n 2, 1) := by decide +kernel
theorem dL_law_634 : decode cL_law 634 = .ok (.aload_n 0, 1) := by decide +kernel
theorem dL_law_635 : decode cL_law 635 = .ok (.iload_n 3, 1) := by decide +kernel
theorem dL_law_636 : decode cL_law 636 = .ok (.iconst 1, 1) := by decide +kernel
theorem dL_law_637 : decode cL_law 637 = .ok (.iadd, 1) := by decide +kernel
theorem dL_law_638 : decode cL_law 638 = .ok (.iaload, 1) := by decide +kernel
theorem dL_law_639 : decode cL_law 639 = .ok (.invokevirtual 86, 3) := by decide +kernel
theorem dL_law_642 : decode cL_law 642 = .ok (.if_icmp .eq 51, 3) := by decide +kernel
theorem dL_law_645 : decode cL_law 645 = .ok (.iconst 0, 1) := by decide +kernel
theorem dL_law_646 : decode cL_law 646 = .ok (.ireturn, 1) := by decide +kernel
theorem dL_law_647 : decode cL_law 647 = .ok (.aload_n 1, 1) := by decide +kernel
theorem dL_law_648 : decode cL_law 648 = .ok (.aload_n 0, 1) := by decide +kernel
theorem dL_law_649 : decode cL_law 649 = .ok (.iload_n 3, 1) := by decide +kernel
theorem dL_law_650 : decode cL_law 650 = .ok (.iconst 1, 1) := by decide +kernel
theorem dL_law_651 : decode cL_law 651 = .ok (.iadd, 1) := by decide +kernel
theorem dL_law_652 : decode cL_law 652 = .ok (.iaload, 1) := by decide +kernel
theorem dL_law_653 : decode cL_law 653 = .ok (.invokevirtual 87, 3) := by decide +kernel
theorem dL_law_656 : decode cL_law 656 = .ok (.aload_n 2, 1) := by decide +kernel
theorem dL_law_657 : decode cL_law 657 = .ok (.aload_n 0, 1) := by decide +kernel
theorem dL_law_658 : decode cL_law 658 = .ok (.iload_n 3, 1) := by decide +kernel
theorem dL_law_659 : decode cL_law 659 = .ok (.iconst 1, 1) := by decide +kernel
theorem dL_law_660 : decode cL_law 660 = .ok (.iadd, 1) := by decide +kernel
theorem dL_law_661 : decode cL_law 661 = .ok (.iaload, 1) := by decide +kernel
theorem dL_law_662 : decode cL_law 662 = .ok (.invokevirtual 90, 3) := by decide +kernel
theorem dL_law_665 : decode cL_law 665 = .ok (.if_icmp .eq 28, 3) := by decide +kernel
theorem dL_law_668 : decode cL_law 668 = .ok (.iconst 0, 1) := by decide +kernel
theorem dL_law_669 : decode cL_law 669 = .ok (.ireturn, 1) := by decide +kernel
theorem dL_law_670 : decode cL_law 670 = .ok (.aload_n 1, 1) := by decide +kernel
theorem dL_law_671 : decode cL_law 671 = .ok (.aload_n 0, 1) := by decide +kernel
theorem dL_law_672 : decode cL_law 672 = .ok (.iload_n 3, 1) := by decide +kernel
theorem dL_law_673 : decode cL_law 673 = .ok (.iconst 1, 1) := by decide +kernel
theorem dL_law_674 : decode cL_law 674 = .ok (.iadd, 1) := by decide +kernel
theorem dL_law_675 : decode cL_law 675 = .ok (.iaload, 1) := by decide +kernel
theorem dL_law_676 : decode cL_law 676 = .ok (.invokevirtual 91, 3) := by decide +kernel
theorem dL_law_679 : decode cL_law 679 = .ok (.aload_n 2, 1) := by decide +kernel
theorem dL_law_680 : decode cL_law 680 = .ok (.aload_n 0, 1) := by decide +kernel
theorem dL_law_681 : decode cL_law 681 = .ok (.iload_n 3, 1) := by decide +kernel
theorem dL_law_682 : decode cL_law 682 = .ok (.iconst 1, 1) := by decide +kernel
theorem dL_law_683 : decode cL_law 683 = .ok (.iadd, 1) := by decide +kernel
theorem dL_law_684 : decode cL_law 684 = .ok (.iaload, 1) := by decide +kernel
theorem dL_law_685 : decode cL_law 685 = .ok (.invokevirtual 94, 3) := by decide +kernel
theorem dL_law_688 : decode cL_law 688 = .ok (.if_icmp .eq 5, 3) := by decide +kernel
theorem dL_law_691 : decode cL_law 691 = .ok (.iconst 0, 1) := by decide +kernel
theorem dL_law_692 : decode cL_law 692 = .ok (.ireturn, 1) := by decide +kernel
theorem dL_law_693 : decode cL_law 693 = .ok (.iinc 3 4, 3) := by decide +kernel
theorem dL_law_696 : decode cL_law 696 = .ok (.goto (-678), 3) := by decide +kernel
theorem dL_law_699 : decode cL_law 699 = .ok (.iconst 1, 1) := by decide +kernel
theorem dL_law_700 : decode cL_law 700 = .ok (.ireturn, 1) := by decide +kernel
