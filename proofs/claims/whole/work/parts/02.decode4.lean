theorem dX11_init_286 : decode cX11_init 286 = .ok (.iastore, 1) := by decide +kernel
theorem dX11_init_287 : decode cX11_init 287 = .ok (.iinc 1 1, 3) := by decide +kernel
theorem dX11_init_290 : decode cX11_init 290 = .ok (.goto (-16), 3) := by decide +kernel
theorem dX11_init_293 : decode cX11_init 293 = .ok (.return_, 1) := by decide +kernel
theorem dX11_in_0 : decode cX11_in 0 = .ok (.iload_n 0, 1) := by decide +kernel
theorem dX11_in_1 : decode cX11_in 1 = .ok (.iload_n 1, 1) := by decide +kernel
theorem dX11_in_2 : decode cX11_in 2 = .ok (.if_icmp .lt 12, 3) := by decide +kernel
theorem dX11_in_5 : decode cX11_in 5 = .ok (.iload_n 0, 1) := by decide +kernel
theorem dX11_in_6 : decode cX11_in 6 = .ok (.iload_n 2, 1) := by decide +kernel
theorem dX11_in_7 : decode cX11_in 7 = .ok (.if_icmp .gt 7, 3) := by decide +kernel
theorem dX11_in_10 : decode cX11_in 10 = .ok (.iconst 1, 1) := by decide +kernel
theorem dX11_in_11 : decode cX11_in 11 = .ok (.goto 4, 3) := by decide +kernel
theorem dX11_in_14 : decode cX11_in 14 = .ok (.iconst 0, 1) := by decide +kernel
theorem dX11_in_15 : decode cX11_in 15 = .ok (.ireturn, 1) := by decide +kernel
theorem dX11_isObject_0 : decode cX11_isObject 0 = .ok (.iload_n 0, 1) := by decide +kernel
theorem dX11_isObject_1 : decode cX11_isObject 1 = .ok (.iconst 0, 1) := by decide +kernel
theorem dX11_isObject_2 : decode cX11_isObject 2 = .ok (.sipush 511, 3) := by decide +kernel
theorem dX11_isObject_5 : decode cX11_isObject 5 = .ok (.invokestatic 103, 3) := by decide +kernel
theorem dX11_isObject_8 : decode cX11_isObject 8 = .ok (.ireturn, 1) := by decide +kernel
theorem dX11_isNode_0 : decode cX11_isNode 0 = .ok (.iload_n 1, 1) := by decide +kernel
theorem dX11_isNode_1 : decode cX11_isNode 1 = .ok (.iconst 0, 1) := by decide +kernel
theorem dX11_isNode_2 : decode cX11_isNode 2 = .ok (.aload_n 0, 1) := by decide +kernel
theorem dX11_isNode_3 : decode cX11_isNode 3 = .ok (.getfield 107, 3) := by decide +kernel
theorem dX11_isNode_6 : decode cX11_isNode 6 = .ok (.iconst 1, 1) := by decide +kernel
theorem dX11_isNode_7 : decode cX11_isNode 7 = .ok (.isub, 1) := by decide +kernel
theorem dX11_isNode_8 : decode cX11_isNode 8 = .ok (.invokestatic 103, 3) := by decide +kernel
theorem dX11_isNode_11 : decode cX11_isNode 11 = .ok (.ireturn, 1) := by decide +kernel
theorem dX11_forget_0 : decode cX11_forget 0 = .ok (.iconst 0, 1) := by decide +kernel
theorem dX11_forget_1 : decode cX11_forget 1 = .ok (.istore_n 2, 1) := by decide +kernel
theorem dX11_forget_2 : decode cX11_forget 2 = .ok (.iload_n 2, 1) := by decide +kernel
theorem dX11_forget_3 : decode cX11_forget 3 = .ok (.aload_n 0, 1) := by decide +kernel
theorem dX11_forget_4 : decode cX11_forget 4 = .ok (.getfield 107, 3) := by decide +kernel
theorem dX11_forget_7 : decode cX11_forget 7 = .ok (.if_icmp .ge 84, 3) := by decide +kernel
theorem dX11_forget_10 : decode cX11_forget 10 = .ok (.iconst 0, 1) := by decide +kernel
theorem dX11_forget_11 : decode cX11_forget 11 = .ok (.istore_n 3, 1) := by decide +kernel
theorem dX11_forget_12 : decode cX11_forget 12 = .ok (.iconst 0, 1) := by decide +kernel
theorem dX11_forget_13 : decode cX11_forget 13 = .ok (.istore 4, 2) := by decide +kernel
theorem dX11_forget_15 : decode cX11_forget 15 = .ok (.iload 4, 2) := by decide +kernel
theorem dX11_forget_17 : decode cX11_forget 17 = .ok (.aload_n 0, 1) := by decide +kernel
theorem dX11_forget_18 : decode cX11_forget 18 = .ok (.getfield 25, 3) := by decide +kernel
theorem dX11_forget_21 : decode cX11_forget 21 = .ok (.iload_n 2, 1) := by decide +kernel
theorem dX11_forget_22 : decode cX11_forget 22 = .ok (.iaload, 1) := by decide +kernel
theorem dX11_forget_23 : decode cX11_forget 23 = .ok (.if_icmp .ge 39, 3) := by decide +kernel
theorem dX11_forget_26 : decode cX11_forget 26 = .ok (.iload_n 3, 1) := by decide +kernel
theorem dX11_forget_27 : decode cX11_forget 27 = .ok (.ifCond .ne 23, 3) := by decide +kernel
theorem dX11_forget_30 : decode cX11_forget 30 = .ok (.aload_n 0, 1) := by decide +kernel
theorem dX11_forget_31 : decode cX11_forget 31 = .ok (.getfield 57, 3) := by decide +kernel
theorem dX11_forget_34 : decode cX11_forget 34 = .ok (.aload_n 0, 1) := by decide +kernel
theorem dX11_forget_35 : decode cX11_forget 35 = .ok (.getfield 31, 3) := by decide +kernel
theorem dX11_forget_38 : decode cX11_forget 38 = .ok (.bipush 8, 2) := by decide +kernel
theorem dX11_forget_40 : decode cX11_forget 40 = .ok (.iload_n 2, 1) := by decide +kernel
theorem dX11_forget_41 : decode cX11_forget 41 = .ok (.imul, 1) := by decide +kernel
theorem dX11_forget_42 : decode cX11_forget 42 = .ok (.iload 4, 2) := by decide +kernel
theorem dX11_forget_44 : decode cX11_forget 44 = .ok (.iadd, 1) := by decide +kernel
theorem dX11_forget_45 : decode cX11_forget 45 = .ok (.iaload, 1) := by decide +kernel
theorem dX11_forget_46 : decode cX11_forget 46 = .ok (.baload, 1) := by decide +kernel
theorem dX11_forget_47 : decode cX11_forget 47 = .ok (.ifCond .eq 7, 3) := by decide +kernel
theorem dX11_forget_50 : decode cX11_forget 50 = .ok (.iconst 1, 1) := by decide +kernel
theorem dX11_forget_51 : decode cX11_forget 51 = .ok (.goto 4, 3) := by decide +kernel
theorem dX11_forget_54 : decode cX11_forget 54 = .ok (.iconst 0, 1) := by decide +kernel
theorem dX11_forget_55 : decode cX11_forget 55 = .ok (.istore_n 3, 1) := by decide +kernel
theorem dX11_forget_56 : decode cX11_forget 56 = .ok (.iinc 4 1, 3) := by decide +kernel
theorem dX11_forget_59 : decode cX11_forget 59 = .ok (.goto (-44), 3) := by decide +kernel
theorem dX11_forget_62 : decode cX11_forget 62 = .ok (.iload_n 3, 1) := by decide +kernel
theorem dX11_forget_63 : decode cX11_forget 63 = .ok (.ifCond .eq 22, 3) := by decide +kernel
theorem dX11_forget_66 : decode cX11_forget 66 = .ok (.iload_n 2, 1) := by decide +kernel
theorem dX11_forget_67 : decode cX11_forget 67 = .ok (.iload_n 1, 1) := by decide +kernel
theorem dX11_forget_68 : decode cX11_forget 68 = .ok (.if_icmp .eq 17, 3) := by decide +kernel
theorem dX11_forget_71 : decode cX11_forget 71 = .ok (.aload_n 0, 1) := by decide +kernel
theorem dX11_forget_72 : decode cX11_forget 72 = .ok (.getfield 57, 3) := by decide +kernel
theorem dX11_forget_75 : decode cX11_forget 75 = .ok (.iload_n 2, 1) := by decide +kernel
theorem dX11_forget_76 : decode cX11_forget 76 = .ok (.iconst 1, 1) := by decide +kernel
theorem dX11_forget_77 : decode cX11_forget 77 = .ok (.bastore, 1) := by decide +kernel
theorem dX11_forget_78 : decode cX11_forget 78 = .ok (.aload_n 0, 1) := by decide +kernel
theorem dX11_forget_79 : decode cX11_forget 79 = .ok (.getfield 37, 3) := by decide +kernel
theorem dX11_forget_82 : decode cX11_forget 82 = .ok (.iload_n 2, 1) := by decide +kernel
theorem dX11_forget_83 : decode cX11_forget 83 = .ok (.iconst (-1), 1) := by decide +kernel
theorem dX11_forget_84 : decode cX11_forget 84 = .ok (.iastore, 1) := by decide +kernel
theorem dX11_forget_85 : decode cX11_forget 85 = .ok (.iinc 2 1, 3) := by decide +kernel
theorem dX11_forget_88 : decode cX11_forget 88 = .ok (.goto (-86), 3) := by decide +kernel
theorem dX11_forget_91 : decode cX11_forget 91 = .ok (.return_, 1) := by decide +kernel
theorem dX11_change_0 : decode cX11_change 0 = .ok (.iconst 0, 1) := by decide +kernel
theorem dX11_change_1 : decode cX11_change 1 = .ok (.istore_n 2, 1) := by decide +kernel
theorem dX11_change_2 : decode cX11_change 2 = .ok (.iload_n 2, 1) := by decide +kernel
theorem dX11_change_3 : decode cX11_change 3 = .ok (.aload_n 0, 1) := by decide +kernel
theorem dX11_change_4 : decode cX11_change 4 = .ok (.getfield 107, 3) := by decide +kernel
theorem dX11_change_7 : decode cX11_change 7 = .ok (.if_icmp .ge 39, 3) := by decide +kernel
theorem dX11_change_10 : decode cX11_change 10 = .ok (.aload_n 0, 1) := by decide +kernel
theorem dX11_change_11 : decode cX11_change 11 = .ok (.getfield 57, 3) := by decide +kernel
theorem dX11_change_14 : decode cX11_change 14 = .ok (.iload_n 2, 1) := by decide +kernel
theorem dX11_change_15 : decode cX11_change 15 = .ok (.aload_n 0, 1) := by decide +kernel
theorem dX11_change_16 : decode cX11_change 16 = .ok (.getfield 16, 3) := by decide +kernel
theorem dX11_change_19 : decode cX11_change 19 = .ok (.iload_n 2, 1) := by decide +kernel
theorem dX11_change_20 : decode cX11_change 20 = .ok (.iaload, 1) := by decide +kernel
theorem dX11_change_21 : decode cX11_change 21 = .ok (.ifCond .ne 17, 3) := by decide +kernel
theorem dX11_change_24 : decode cX11_change 24 = .ok (.aload_n 0, 1) := by decide +kernel
theorem dX11_change_25 : decode cX11_change 25 = .ok (.getfield 19, 3) := by decide +kernel
theorem dX11_change_28 : decode cX11_change 28 = .ok (.iload_n 2, 1) := by decide +kernel
theorem dX11_change_29 : decode cX11_change 29 = .ok (.iaload, 1) := by decide +kernel
theorem dX11_change_30 : decode cX11_change 30 = .ok (.iload_n 1, 1) := by decide +kernel
theorem dX11_change_31 : decode cX11_change 31 = .ok (.if_icmp .ne 7, 3) := by decide +kernel
theorem dX11_change_34 : decode cX11_change 34 = .ok (.iconst 1, 1) := by decide +kernel
theorem dX11_change_35 : decode cX11_change 35 = .ok (.goto 4, 3) := by decide +kernel
theorem dX11_change_38 : decode cX11_change 38 = .ok (.iconst 0, 1) := by decide +kernel
theorem dX11_change_39 : decode cX11_change 39 = .ok (.bastore, 1) := by decide +kernel
theorem dX11_change_40 : decode cX11_change 40 = .ok (.iinc 2 1, 3) := by decide +kernel
theorem dX11_change_43 : decode cX11_change 43 = .ok (.goto (-41), 3) := by decide +kernel
theorem dX11_change_46 : decode cX11_change 46 = .ok (.aload_n 0, 1) := by decide +kernel
theorem dX11_change_47 : decode cX11_change 47 = .ok (.iconst (-1), 1) := by decide +kernel
theorem dX11_change_48 : decode cX11_change 48 = .ok (.invokevirtual 111, 3) := by decide +kernel
theorem dX11_change_51 : decode cX11_change 51 = .ok (.return_, 1) := by decide +kernel
theorem dX11_put_0 : decode cX11_put 0 = .ok (.iload_n 1, 1) := by decide +kernel
theorem dX11_put_1 : decode cX11_put 1 = .ok (.iconst 0, 1) := by decide +kernel
theorem dX11_put_2 : decode cX11_put 2 = .ok (.bipush 15, 2) := by decide +kernel
theorem dX11_put_4 : decode cX11_put 4 = .ok (.invokestatic 103, 3) := by decide +kernel
theorem dX11_put_7 : decode cX11_put 7 = .ok (.ifCond .eq 20, 3) := by decide +kernel
theorem dX11_put_10 : decode cX11_put 10 = .ok (.iload_n 2, 1) := by decide +kernel
theorem dX11_put_11 : decode cX11_put 11 = .ok (.invokestatic 115, 3) := by decide +kernel
theorem dX11_put_14 : decode cX11_put 14 = .ok (.ifCond .eq 13, 3) := by decide +kernel
theorem dX11_put_17 : decode cX11_put 17 = .ok (.iload_n 3, 1) := by decide +kernel
theorem dX11_put_18 : decode cX11_put 18 = .ok (.iconst 0, 1) := by decide +kernel
theorem dX11_put_19 : decode cX11_put 19 = .ok (.ldc 119, 2) := by decide +kernel
theorem dX11_put_21 : decode cX11_put 21 = .ok (.invokestatic 103, 3) := by decide +kernel
theorem dX11_put_24 : decode cX11_put 24 = .ok (.ifCond .ne 6, 3) := by decide +kernel
theorem dX11_put_27 : decode cX11_put 27 = .ok (.bipush (-2), 2) := by decide +kernel
theorem dX11_put_29 : decode cX11_put 29 = .ok (.ireturn, 1) := by decide +kernel
theorem dX11_put_30 : decode cX11_put 30 = .ok (.sipush 512, 3) := by decide +kernel
theorem dX11_put_33 : decode cX11_put 33 = .ok (.iload_n 1, 1) := by decide +kernel
theorem dX11_put_34 : decode cX11_put 34 = .ok (.imul, 1) := by decide +kernel
theorem dX11_put_35 : decode cX11_put 35 = .ok (.iload_n 2, 1) := by decide +kernel
theorem dX11_put_36 : decode cX11_put 36 = .ok (.iadd, 1) := by decide +kernel
theorem dX11_put_37 : decode cX11_put 37 = .ok (.istore 4, 2) := by decide +kernel
theorem dX11_put_39 : decode cX11_put 39 = .ok (.aload_n 0, 1) := by decide +kernel
theorem dX11_put_40 : decode cX11_put 40 = .ok (.getfield 7, 3) := by decide +kernel
theorem dX11_put_43 : decode cX11_put 43 = .ok (.iload 4, 2) := by decide +kernel
theorem dX11_put_45 : decode cX11_put 45 = .ok (.iaload, 1) := by decide +kernel
theorem dX11_put_46 : decode cX11_put 46 = .ok (.iconst (-1), 1) := by decide +kernel
theorem dX11_put_47 : decode cX11_put 47 = .ok (.if_icmp .ne 17, 3) := by decide +kernel
theorem dX11_put_50 : decode cX11_put 50 = .ok (.aload_n 0, 1) := by decide +kernel
theorem dX11_put_51 : decode cX11_put 51 = .ok (.getfield 13, 3) := by decide +kernel
theorem dX11_put_54 : decode cX11_put 54 = .ok (.iload_n 1, 1) := by decide +kernel
theorem dX11_put_55 : decode cX11_put 55 = .ok (.iaload, 1) := by decide +kernel
theorem dX11_put_56 : decode cX11_put 56 = .ok (.bipush 60, 2) := by decide +kernel
theorem dX11_put_58 : decode cX11_put 58 = .ok (.if_icmp .ne 6, 3) := by decide +kernel
theorem dX11_put_61 : decode cX11_put 61 = .ok (.bipush (-3), 2) := by decide +kernel
theorem dX11_put_63 : decode cX11_put 63 = .ok (.ireturn, 1) := by decide +kernel
theorem dX11_put_64 : decode cX11_put 64 = .ok (.aload_n 0, 1) := by decide +kernel
theorem dX11_put_65 : decode cX11_put 65 = .ok (.getfield 13, 3) := by decide +kernel
theorem dX11_put_68 : decode cX11_put 68 = .ok (.iload_n 1, 1) := by decide +kernel
theorem dX11_put_69 : decode cX11_put 69 = .ok (.dup2, 1) := by decide +kernel
theorem dX11_put_70 : decode cX11_put 70 = .ok (.iaload, 1) := by decide +kernel
theorem dX11_put_71 : decode cX11_put 71 = .ok (.aload_n 0, 1) := by decide +kernel
theorem dX11_put_72 : decode cX11_put 72 = .ok (.getfield 7, 3) := by decide +kernel
theorem dX11_put_75 : decode cX11_put 75 = .ok (.iload 4, 2) := by decide +kernel
theorem dX11_put_77 : decode cX11_put 77 = .ok (.iaload, 1) := by decide +kernel
theorem dX11_put_78 : decode cX11_put 78 = .ok (.iconst (-1), 1) := by decide +kernel
theorem dX11_put_79 : decode cX11_put 79 = .ok (.if_icmp .ne 7, 3) := by decide +kernel
theorem dX11_put_82 : decode cX11_put 82 = .ok (.iconst 1, 1) := by decide +kernel
theorem dX11_put_83 : decode cX11_put 83 = .ok (.goto 4, 3) := by decide +kernel
theorem dX11_put_86 : decode cX11_put 86 = .ok (.iconst 0, 1) := by decide +kernel
theorem dX11_put_87 : decode cX11_put 87 = .ok (.iadd, 1) := by decide +kernel
theorem dX11_put_88 : decode cX11_put 88 = .ok (.iastore, 1) := by decide +kernel
theorem dX11_put_89 : decode cX11_put 89 = .ok (.aload_n 0, 1) := by decide +kernel
theorem dX11_put_90 : decode cX11_put 90 = .ok (.getfield 7, 3) := by decide +kernel
theorem dX11_put_93 : decode cX11_put 93 = .ok (.iload 4, 2) := by decide +kernel
theorem dX11_put_95 : decode cX11_put 95 = .ok (.iload_n 3, 1) := by decide +kernel
theorem dX11_put_96 : decode cX11_put 96 = .ok (.iastore, 1) := by decide +kernel
theorem dX11_put_97 : decode cX11_put 97 = .ok (.aload_n 0, 1) := by decide +kernel
theorem dX11_put_98 : decode cX11_put 98 = .ok (.iload_n 1, 1) := by decide +kernel
theorem dX11_put_99 : decode cX11_put 99 = .ok (.invokevirtual 120, 3) := by decide +kernel
theorem dX11_put_102 : decode cX11_put 102 = .ok (.aload_n 0, 1) := by decide +kernel
theorem dX11_put_103 : decode cX11_put 103 = .ok (.getfield 13, 3) := by decide +kernel
theorem dX11_put_106 : decode cX11_put 106 = .ok (.iload_n 1, 1) := by decide +kernel
theorem dX11_put_107 : decode cX11_put 107 = .ok (.iaload, 1) := by decide +kernel
theorem dX11_put_108 : decode cX11_put 108 = .ok (.ireturn, 1) := by decide +kernel
theorem dX11_take_0 : decode cX11_take 0 = .ok (.iload_n 1, 1) := by decide +kernel
theorem dX11_take_1 : decode cX11_take 1 = .ok (.iconst 0, 1) := by decide +kernel
theorem dX11_take_2 : decode cX11_take 2 = .ok (.bipush 15, 2) := by decide +kernel
theorem dX11_take_4 : decode cX11_take 4 = .ok (.invokestatic 103, 3) := by decide +kernel
theorem dX11_take_7 : decode cX11_take 7 = .ok (.ifCond .eq 10, 3) := by decide +kernel
theorem dX11_take_10 : decode cX11_take 10 = .ok (.iload_n 2, 1) := by decide +kernel
theorem dX11_take_11 : decode cX11_take 11 = .ok (.invokestatic 115, 3) := by decide +kernel
theorem dX11_take_14 : decode cX11_take 14 = .ok (.ifCond .ne 6, 3) := by decide +kernel
theorem dX11_take_17 : decode cX11_take 17 = .ok (.bipush (-2), 2) := by decide +kernel
theorem dX11_take_19 : decode cX11_take 19 = .ok (.ireturn, 1) := by decide +kernel
theorem dX11_take_20 : decode cX11_take 20 = .ok (.sipush 512, 3) := by decide +kernel
theorem dX11_take_23 : decode cX11_take 23 = .ok (.iload_n 1, 1) := by decide +kernel
theorem dX11_take_24 : decode cX11_take 24 = .ok (.imul, 1) := by decide +kernel
theorem dX11_take_25 : decode cX11_take 25 = .ok (.iload_n 2, 1) := by decide +kernel
theorem dX11_take_26 : decode cX11_take 26 = .ok (.iadd, 1) := by decide +kernel
theorem dX11_take_27 : decode cX11_take 27 = .ok (.istore_n 3, 1) := by decide +kernel
theorem dX11_take_28 : decode cX11_take 28 = .ok (.aload_n 0, 1) := by decide +kernel
theorem dX11_take_29 : decode cX11_take 29 = .ok (.getfield 7, 3) := by decide +kernel
theorem dX11_take_32 : decode cX11_take 32 = .ok (.iload_n 3, 1) := by decide +kernel
theorem dX11_take_33 : decode cX11_take 33 = .ok (.iaload, 1) := by decide +kernel
theorem dX11_take_34 : decode cX11_take 34 = .ok (.istore 4, 2) := by decide +kernel
theorem dX11_take_36 : decode cX11_take 36 = .ok (.iload 4, 2) := by decide +kernel
theorem dX11_take_38 : decode cX11_take 38 = .ok (.iconst (-1), 1) := by decide +kernel
theorem dX11_take_39 : decode cX11_take 39 = .ok (.if_icmp .ne 6, 3) := by decide +kernel
theorem dX11_take_42 : decode cX11_take 42 = .ok (.bipush (-4), 2) := by decide +kernel
theorem dX11_take_44 : decode cX11_take 44 = .ok (.ireturn, 1) := by decide +kernel
theorem dX11_take_45 : decode cX11_take 45 = .ok (.aload_n 0, 1) := by decide +kernel
theorem dX11_take_46 : decode cX11_take 46 = .ok (.getfield 7, 3) := by decide +kernel
theorem dX11_take_49 : decode cX11_take 49 = .ok (.iload_n 3, 1) := by decide +kernel
theorem dX11_take_50 : decode cX11_take 50 = .ok (.iconst (-1), 1) := by decide +kernel
theorem dX11_take_51 : decode cX11_take 51 = .ok (.iastore, 1) := by decide +kernel
theorem dX11_take_52 : decode cX11_take 52 = .ok (.aload_n 0, 1) := by decide +kernel
theorem dX11_take_53 : decode cX11_take 53 = .ok (.getfield 13, 3) := by decide +kernel
theorem dX11_take_56 : decode cX11_take 56 = .ok (.iload_n 1, 1) := by decide +kernel
theorem dX11_take_57 : decode cX11_take 57 = .ok (.dup2, 1) := by decide +kernel
theorem dX11_take_58 : decode cX11_take 58 = .ok (.iaload, 1) := by decide +kernel
theorem dX11_take_59 : decode cX11_take 59 = .ok (.iconst 1, 1) := by decide +kernel
theorem dX11_take_60 : decode cX11_take 60 = .ok (.isub, 1) := by decide +kernel
theorem dX11_take_61 : decode cX11_take 61 = .ok (.iastore, 1) := by decide +kernel
theorem dX11_take_62 : decode cX11_take 62 = .ok (.aload_n 0, 1) := by decide +kernel
theorem dX11_take_63 : decode cX11_take 63 = .ok (.iload_n 1, 1) := by decide +kernel
theorem dX11_take_64 : decode cX11_take 64 = .ok (.invokevirtual 120, 3) := by decide +kernel
theorem dX11_take_67 : decode cX11_take 67 = .ok (.iload 4, 2) := by decide +kernel
theorem dX11_take_69 : decode cX11_take 69 = .ok (.ireturn, 1) := by decide +kernel
theorem dX11_isToldSo_0 : decode cX11_isToldSo 0 = .ok (.iload_n 1, 1) := by decide +kernel
theorem dX11_isToldSo_1 : decode cX11_isToldSo 1 = .ok (.tableswitch 164 0 7 #[47, 55, 80, 88, 96, 120, 156, 162], 47) := by decide +kernel
theorem dX11_isToldSo_48 : decode cX11_isToldSo 48 = .ok (.iload_n 2, 1) := by decide +kernel
theorem dX11_isToldSo_49 : decode cX11_isToldSo 49 = .ok (.iconst 0, 1) := by decide +kernel
theorem dX11_isToldSo_50 : decode cX11_isToldSo 50 = .ok (.bipush 15, 2) := by decide +kernel
theorem dX11_isToldSo_52 : decode cX11_isToldSo 52 = .ok (.invokestatic 103, 3) := by decide +kernel
theorem dX11_isToldSo_55 : decode cX11_isToldSo 55 = .ok (.ireturn, 1) := by decide +kernel
theorem dX11_isToldSo_56 : decode cX11_isToldSo 56 = .ok (.iload_n 2, 1) := by decide +kernel
theorem dX11_isToldSo_57 : decode cX11_isToldSo 57 = .ok (.invokestatic 115, 3) := by decide +kernel
theorem dX11_isToldSo_60 : decode cX11_isToldSo 60 = .ok (.ifCond .eq 19, 3) := by decide +kernel
theorem dX11_isToldSo_63 : decode cX11_isToldSo 63 = .ok (.iload_n 3, 1) := by decide +kernel
theorem dX11_isToldSo_64 : decode cX11_isToldSo 64 = .ok (.invokestatic 115, 3) := by decide +kernel
theorem dX11_isToldSo_67 : decode cX11_isToldSo 67 = .ok (.ifCond .eq 12, 3) := by decide +kernel
theorem dX11_isToldSo_70 : decode cX11_isToldSo 70 = .ok (.iload_n 2, 1) := by decide +kernel
theorem dX11_isToldSo_71 : decode cX11_isToldSo 71 = .ok (.iload_n 3, 1) := by decide +kernel
theorem dX11_isToldSo_72 : decode cX11_isToldSo 72 = .ok (.if_icmp .gt 7, 3) := by decide +kernel
theorem dX11_isToldSo_75 : decode cX11_isToldSo 75 = .ok (.iconst 1, 1) := by decide +kernel
theorem dX11_isToldSo_76 : decode cX11_isToldSo 76 = .ok (.goto 4, 3) := by decide +kernel
theorem dX11_isToldSo_79 : decode cX11_isToldSo 79 = .ok (.iconst 0, 1) := by decide +kernel
theorem dX11_isToldSo_80 : decode cX11_isToldSo 80 = .ok (.ireturn, 1) := by decide +kernel
theorem dX11_isToldSo_81 : decode cX11_isToldSo 81 = .ok (.iload_n 2, 1) := by decide +kernel
theorem dX11_isToldSo_82 : decode cX11_isToldSo 82 = .ok (.iconst 0, 1) := by decide +kernel
theorem dX11_isToldSo_83 : decode cX11_isToldSo 83 = .ok (.bipush 8, 2) := by decide +kernel
theorem dX11_isToldSo_85 : decode cX11_isToldSo 85 = .ok (.invokestatic 103, 3) := by decide +kernel
theorem dX11_isToldSo_88 : decode cX11_isToldSo 88 = .ok (.ireturn, 1) := by decide +kernel
theorem dX11_isToldSo_89 : decode cX11_isToldSo 89 = .ok (.iload_n 2, 1) := by decide +kernel
theorem dX11_isToldSo_90 : decode cX11_isToldSo 90 = .ok (.iconst 0, 1) := by decide +kernel
theorem dX11_isToldSo_91 : decode cX11_isToldSo 91 = .ok (.bipush 100, 2) := by decide +kernel
theorem dX11_isToldSo_93 : decode cX11_isToldSo 93 = .ok (.invokestatic 103, 3) := by decide +kernel
theorem dX11_isToldSo_96 : decode cX11_isToldSo 96 = .ok (.ireturn, 1) := by decide +kernel
theorem dX11_isToldSo_97 : decode cX11_isToldSo 97 = .ok (.aload_n 0, 1) := by decide +kernel
theorem dX11_isToldSo_98 : decode cX11_isToldSo 98 = .ok (.iload_n 2, 1) := by decide +kernel
theorem dX11_isToldSo_99 : decode cX11_isToldSo 99 = .ok (.invokevirtual 123, 3) := by decide +kernel
theorem dX11_isToldSo_102 : decode cX11_isToldSo 102 = .ok (.ifCond .eq 17, 3) := by decide +kernel
theorem dX11_isToldSo_105 : decode cX11_isToldSo 105 = .ok (.iload_n 3, 1) := by decide +kernel
theorem dX11_isToldSo_106 : decode cX11_isToldSo 106 = .ok (.iconst 0, 1) := by decide +kernel
theorem dX11_isToldSo_107 : decode cX11_isToldSo 107 = .ok (.ldc 119, 2) := by decide +kernel
theorem dX11_isToldSo_109 : decode cX11_isToldSo 109 = .ok (.invokestatic 103, 3) := by decide +kernel
theorem dX11_isToldSo_112 : decode cX11_isToldSo 112 = .ok (.ifCond .eq 7, 3) := by decide +kernel
theorem dX11_isToldSo_115 : decode cX11_isToldSo 115 = .ok (.iconst 1, 1) := by decide +kernel
theorem dX11_isToldSo_116 : decode cX11_isToldSo 116 = .ok (.goto 4, 3) := by decide +kernel
theorem dX11_isToldSo_119 : decode cX11_isToldSo 119 = .ok (.iconst 0, 1) := by decide +kernel
theorem dX11_isToldSo_120 : decode cX11_isToldSo 120 = .ok (.ireturn, 1) := by decide +kernel
theorem dX11_isToldSo_121 : decode cX11_isToldSo 121 = .ok (.aload_n 0, 1) := by decide +kernel
theorem dX11_isToldSo_122 : decode cX11_isToldSo 122 = .ok (.iload_n 2, 1) := by decide +kernel
theorem dX11_isToldSo_123 : decode cX11_isToldSo 123 = .ok (.invokevirtual 123, 3) := by decide +kernel
theorem dX11_isToldSo_126 : decode cX11_isToldSo 126 = .ok (.ifCond .eq 29, 3) := by decide +kernel
theorem dX11_isToldSo_129 : decode cX11_isToldSo 129 = .ok (.iload_n 3, 1) := by decide +kernel
theorem dX11_isToldSo_130 : decode cX11_isToldSo 130 = .ok (.iconst 0, 1) := by decide +kernel
theorem dX11_isToldSo_131 : decode cX11_isToldSo 131 = .ok (.ldc 126, 2) := by decide +kernel
theorem dX11_isToldSo_133 : decode cX11_isToldSo 133 = .ok (.invokestatic 103, 3) := by decide +kernel
theorem dX11_isToldSo_136 : decode cX11_isToldSo 136 = .ok (.ifCond .eq 19, 3) := by decide +kernel
theorem dX11_isToldSo_139 : decode cX11_isToldSo 139 = .ok (.iload_n 3, 1) := by decide +kernel
theorem dX11_isToldSo_140 : decode cX11_isToldSo 140 = .ok (.sipush 1000, 3) := by decide +kernel
theorem dX11_isToldSo_143 : decode cX11_isToldSo 143 = .ok (.idiv, 1) := by decide +kernel
theorem dX11_isToldSo_144 : decode cX11_isToldSo 144 = .ok (.sipush 1000, 3) := by decide +kernel
theorem dX11_isToldSo_147 : decode cX11_isToldSo 147 = .ok (.irem, 1) := by decide +kernel
theorem dX11_isToldSo_148 : decode cX11_isToldSo 148 = .ok (.ifCond .le 7, 3) := by decide +kernel
theorem dX11_isToldSo_151 : decode cX11_isToldSo 151 = .ok (.iconst 1, 1) := by decide +kernel
theorem dX11_isToldSo_152 : decode cX11_isToldSo 152 = .ok (.goto 4, 3) := by decide +kernel
theorem dX11_isToldSo_155 : decode cX11_isToldSo 155 = .ok (.iconst 0, 1) := by decide +kernel
theorem dX11_isToldSo_156 : decode cX11_isToldSo 156 = .ok (.ireturn, 1) := by decide +kernel
theorem dX11_isToldSo_157 : decode cX11_isToldSo 157 = .ok (.aload_n 0, 1) := by decide +kernel
theorem dX11_isToldSo_158 : decode cX11_isToldSo 158 = .ok (.iload_n 2, 1) := by decide +kernel
theorem dX11_isToldSo_159 : decode cX11_isToldSo 159 = .ok (.invokevirtual 123, 3) := by decide +kernel
theorem dX11_isToldSo_162 : decode cX11_isToldSo 162 = .ok (.ireturn, 1) := by decide +kernel
theorem dX11_isToldSo_163 : decode cX11_isToldSo 163 = .ok (.iconst 1, 1) := by decide +kernel
theorem dX11_isToldSo_164 : decode cX11_isToldSo 164 = .ok (.ireturn, 1) := by decide +kernel
theorem dX11_isToldSo_165 : decode cX11_isToldSo 165 = .ok (.iconst 0, 1) := by decide +kernel
theorem dX11_isToldSo_166 : decode cX11_isToldSo 166 = .ok (.ireturn, 1) := by decide +kernel
theorem dX11_make_0 : decode cX11_make 0 = .ok (.aload_n 0, 1) := by decide +kernel
theorem dX11_make_1 : decode cX11_make 1 = .ok (.getfield 16, 3) := by decide +kernel
theorem dX11_make_4 : decode cX11_make 4 = .ok (.aload_n 0, 1) := by decide +kernel
theorem dX11_make_5 : decode cX11_make 5 = .ok (.getfield 107, 3) := by decide +kernel
theorem dX11_make_8 : decode cX11_make 8 = .ok (.iload_n 1, 1) := by decide +kernel
theorem dX11_make_9 : decode cX11_make 9 = .ok (.iastore, 1) := by decide +kernel
theorem dX11_make_10 : decode cX11_make 10 = .ok (.aload_n 0, 1) := by decide +kernel
theorem dX11_make_11 : decode cX11_make 11 = .ok (.getfield 19, 3) := by decide +kernel
theorem dX11_make_14 : decode cX11_make 14 = .ok (.aload_n 0, 1) := by decide +kernel
theorem dX11_make_15 : decode cX11_make 15 = .ok (.getfield 107, 3) := by decide +kernel
theorem dX11_make_18 : decode cX11_make 18 = .ok (.iload_n 2, 1) := by decide +kernel
theorem dX11_make_19 : decode cX11_make 19 = .ok (.iastore, 1) := by decide +kernel
theorem dX11_make_20 : decode cX11_make 20 = .ok (.aload_n 0, 1) := by decide +kernel
theorem dX11_make_21 : decode cX11_make 21 = .ok (.getfield 22, 3) := by decide +kernel
theorem dX11_make_24 : decode cX11_make 24 = .ok (.aload_n 0, 1) := by decide +kernel
theorem dX11_make_25 : decode cX11_make 25 = .ok (.getfield 107, 3) := by decide +kernel
theorem dX11_make_28 : decode cX11_make 28 = .ok (.iload_n 3, 1) := by decide +kernel
theorem dX11_make_29 : decode cX11_make 29 = .ok (.iastore, 1) := by decide +kernel
theorem dX11_make_30 : decode cX11_make 30 = .ok (.aload_n 0, 1) := by decide +kernel
theorem dX11_make_31 : decode cX11_make 31 = .ok (.getfield 25, 3) := by decide +kernel
theorem dX11_make_34 : decode cX11_make 34 = .ok (.aload_n 0, 1) := by decide +kernel
theorem dX11_make_35 : decode cX11_make 35 = .ok (.getfield 107, 3) := by decide +kernel
theorem dX11_make_38 : decode cX11_make 38 = .ok (.iload_n 1, 1) := by decide +kernel
theorem dX11_make_39 : decode cX11_make 39 = .ok (.iconst 4, 1) := by decide +kernel
theorem dX11_make_40 : decode cX11_make 40 = .ok (.if_icmp .eq 14, 3) := by decide +kernel
theorem dX11_make_43 : decode cX11_make 43 = .ok (.iload_n 1, 1) := by decide +kernel
theorem dX11_make_44 : decode cX11_make 44 = .ok (.iconst 5, 1) := by decide +kernel
theorem dX11_make_45 : decode cX11_make 45 = .ok (.if_icmp .eq 9, 3) := by decide +kernel
theorem dX11_make_48 : decode cX11_make 48 = .ok (.iload_n 1, 1) := by decide +kernel
theorem dX11_make_49 : decode cX11_make 49 = .ok (.bipush 6, 2) := by decide +kernel
theorem dX11_make_51 : decode cX11_make 51 = .ok (.if_icmp .ne 7, 3) := by decide +kernel
theorem dX11_make_54 : decode cX11_make 54 = .ok (.iconst 1, 1) := by decide +kernel
theorem dX11_make_55 : decode cX11_make 55 = .ok (.goto 4, 3) := by decide +kernel
theorem dX11_make_58 : decode cX11_make 58 = .ok (.iconst 0, 1) := by decide +kernel
theorem dX11_make_59 : decode cX11_make 59 = .ok (.iastore, 1) := by decide +kernel
theorem dX11_make_60 : decode cX11_make 60 = .ok (.aload_n 0, 1) := by decide +kernel
theorem dX11_make_61 : decode cX11_make 61 = .ok (.getfield 28, 3) := by decide +kernel
theorem dX11_make_64 : decode cX11_make 64 = .ok (.bipush 8, 2) := by decide +kernel
theorem dX11_make_66 : decode cX11_make 66 = .ok (.aload_n 0, 1) := by decide +kernel
theorem dX11_make_67 : decode cX11_make 67 = .ok (.getfield 107, 3) := by decide +kernel
theorem dX11_make_70 : decode cX11_make 70 = .ok (.imul, 1) := by decide +kernel
theorem dX11_make_71 : decode cX11_make 71 = .ok (.iconst 0, 1) := by decide +kernel
theorem dX11_make_72 : decode cX11_make 72 = .ok (.iastore, 1) := by decide +kernel
theorem dX11_make_73 : decode cX11_make 73 = .ok (.aload_n 0, 1) := by decide +kernel
theorem dX11_make_74 : decode cX11_make 74 = .ok (.getfield 31, 3) := by decide +kernel
theorem dX11_make_77 : decode cX11_make 77 = .ok (.bipush 8, 2) := by decide +kernel
theorem dX11_make_79 : decode cX11_make 79 = .ok (.aload_n 0, 1) := by decide +kernel
theorem dX11_make_80 : decode cX11_make 80 = .ok (.getfield 107, 3) := by decide +kernel
theorem dX11_make_83 : decode cX11_make 83 = .ok (.imul, 1) := by decide +kernel
theorem dX11_make_84 : decode cX11_make 84 = .ok (.iload_n 2, 1) := by decide +kernel
theorem dX11_make_85 : decode cX11_make 85 = .ok (.iastore, 1) := by decide +kernel
theorem dX11_make_86 : decode cX11_make 86 = .ok (.aload_n 0, 1) := by decide +kernel
theorem dX11_make_87 : decode cX11_make 87 = .ok (.getfield 34, 3) := by decide +kernel
theorem dX11_make_90 : decode cX11_make 90 = .ok (.aload_n 0, 1) := by decide +kernel
theorem dX11_make_91 : decode cX11_make 91 = .ok (.getfield 107, 3) := by decide +kernel
theorem dX11_make_94 : decode cX11_make 94 = .ok (.iconst 0, 1) := by decide +kernel
theorem dX11_make_95 : decode cX11_make 95 = .ok (.iastore, 1) := by decide +kernel
theorem dX11_make_96 : decode cX11_make 96 = .ok (.aload_n 0, 1) := by decide +kernel
theorem dX11_make_97 : decode cX11_make 97 = .ok (.getfield 37, 3) := by decide +kernel
theorem dX11_make_100 : decode cX11_make 100 = .ok (.aload_n 0, 1) := by decide +kernel
theorem dX11_make_101 : decode cX11_make 101 = .ok (.getfield 107, 3) := by decide +kernel
theorem dX11_make_104 : decode cX11_make 104 = .ok (.iconst (-1), 1) := by decide +kernel
theorem dX11_make_105 : decode cX11_make 105 = .ok (.iastore, 1) := by decide +kernel
theorem dX11_make_106 : decode cX11_make 106 = .ok (.aload_n 0, 1) := by decide +kernel
theorem dX11_make_107 : decode cX11_make 107 = .ok (.dup, 1) := by decide +kernel
theorem dX11_make_108 : decode cX11_make 108 = .ok (.getfield 107, 3) := by decide +kernel
theorem dX11_make_111 : decode cX11_make 111 = .ok (.iconst 1, 1) := by decide +kernel
theorem dX11_make_112 : decode cX11_make 112 = .ok (.iadd, 1) := by decide +kernel
theorem dX11_make_113 : decode cX11_make 113 = .ok (.putfield 107, 3) := by decide +kernel
theorem dX11_make_116 : decode cX11_make 116 = .ok (.return_, 1) := by decide +kernel
theorem dX11_node_0 : decode cX11_node 0 = .ok (.aload_n 0, 1) := by decide +kernel
theorem dX11_node_1 : decode cX11_node 1 = .ok (.iload_n 1, 1) := by decide +kernel
theorem dX11_node_2 : decode cX11_node 2 = .ok (.iload_n 2, 1) := by decide +kernel
theorem dX11_node_3 : decode cX11_node 3 = .ok (.iload_n 3, 1) := by decide +kernel
theorem dX11_node_4 : decode cX11_node 4 = .ok (.invokevirtual 127, 3) := by decide +kernel
theorem dX11_node_7 : decode cX11_node 7 = .ok (.ifCond .ne 6, 3) := by decide +kernel
theorem dX11_node_10 : decode cX11_node 10 = .ok (.bipush (-2), 2) := by decide +kernel
theorem dX11_node_12 : decode cX11_node 12 = .ok (.ireturn, 1) := by decide +kernel
theorem dX11_node_13 : decode cX11_node 13 = .ok (.aload_n 0, 1) := by decide +kernel
theorem dX11_node_14 : decode cX11_node 14 = .ok (.getfield 107, 3) := by decide +kernel
theorem dX11_node_17 : decode cX11_node 17 = .ok (.bipush 80, 2) := by decide +kernel
theorem dX11_node_19 : decode cX11_node 19 = .ok (.if_icmp .ne 6, 3) := by decide +kernel
theorem dX11_node_22 : decode cX11_node 22 = .ok (.bipush (-3), 2) := by decide +kernel
theorem dX11_node_24 : decode cX11_node 24 = .ok (.ireturn, 1) := by decide +kernel
theorem dX11_node_25 : decode cX11_node 25 = .ok (.iload_n 1, 1) := by decide +kernel
theorem dX11_node_26 : decode cX11_node 26 = .ok (.iconst 1, 1) := by decide +kernel
theorem dX11_node_27 : decode cX11_node 27 = .ok (.if_icmp .eq 13, 3) := by decide +kernel
theorem dX11_node_30 : decode cX11_node 30 = .ok (.iload_n 1, 1) := by decide +kernel
theorem dX11_node_31 : decode cX11_node 31 = .ok (.iconst 4, 1) := by decide +kernel
theorem dX11_node_32 : decode cX11_node 32 = .ok (.if_icmp .eq 8, 3) := by decide +kernel
theorem dX11_node_35 : decode cX11_node 35 = .ok (.iload_n 1, 1) := by decide +kernel
theorem dX11_node_36 : decode cX11_node 36 = .ok (.iconst 5, 1) := by decide +kernel
theorem dX11_node_37 : decode cX11_node 37 = .ok (.if_icmp .ne 7, 3) := by decide +kernel
theorem dX11_node_40 : decode cX11_node 40 = .ok (.iconst 1, 1) := by decide +kernel
theorem dX11_node_41 : decode cX11_node 41 = .ok (.goto 4, 3) := by decide +kernel
theorem dX11_node_44 : decode cX11_node 44 = .ok (.iconst 0, 1) := by decide +kernel
theorem dX11_node_45 : decode cX11_node 45 = .ok (.istore 4, 2) := by decide +kernel
theorem dX11_node_47 : decode cX11_node 47 = .ok (.aload_n 0, 1) := by decide +kernel
theorem dX11_node_48 : decode cX11_node 48 = .ok (.iload_n 1, 1) := by decide +kernel
theorem dX11_node_49 : decode cX11_node 49 = .ok (.iload_n 1, 1) := by decide +kernel
theorem dX11_node_50 : decode cX11_node 50 = .ok (.bipush 7, 2) := by decide +kernel
theorem dX11_node_52 : decode cX11_node 52 = .ok (.if_icmp .ne 7, 3) := by decide +kernel
theorem dX11_node_55 : decode cX11_node 55 = .ok (.iconst 0, 1) := by decide +kernel
theorem dX11_node_56 : decode cX11_node 56 = .ok (.goto 4, 3) := by decide +kernel
theorem dX11_node_59 : decode cX11_node 59 = .ok (.iload_n 2, 1) := by decide +kernel
theorem dX11_node_60 : decode cX11_node 60 = .ok (.iload 4, 2) := by decide +kernel
theorem dX11_node_62 : decode cX11_node 62 = .ok (.ifCond .eq 7, 3) := by decide +kernel
theorem dX11_node_65 : decode cX11_node 65 = .ok (.iload_n 3, 1) := by decide +kernel
theorem dX11_node_66 : decode cX11_node 66 = .ok (.goto 4, 3) := by decide +kernel
theorem dX11_node_69 : decode cX11_node 69 = .ok (.iconst 0, 1) := by decide +kernel
theorem dX11_node_70 : decode cX11_node 70 = .ok (.invokevirtual 130, 3) := by decide +kernel
theorem dX11_node_73 : decode cX11_node 73 = .ok (.aload_n 0, 1) := by decide +kernel
theorem dX11_node_74 : decode cX11_node 74 = .ok (.getfield 107, 3) := by decide +kernel
theorem dX11_node_77 : decode cX11_node 77 = .ok (.iconst 1, 1) := by decide +kernel
theorem dX11_node_78 : decode cX11_node 78 = .ok (.isub, 1) := by decide +kernel
theorem dX11_node_79 : decode cX11_node 79 = .ok (.ireturn, 1) := by decide +kernel
theorem dX11_part_0 : decode cX11_part 0 = .ok (.aload_n 0, 1) := by decide +kernel
theorem dX11_part_1 : decode cX11_part 1 = .ok (.iload_n 1, 1) := by decide +kernel
theorem dX11_part_2 : decode cX11_part 2 = .ok (.invokevirtual 123, 3) := by decide +kernel
theorem dX11_part_5 : decode cX11_part 5 = .ok (.ifCond .eq 57, 3) := by decide +kernel
theorem dX11_part_8 : decode cX11_part 8 = .ok (.aload_n 0, 1) := by decide +kernel
theorem dX11_part_9 : decode cX11_part 9 = .ok (.getfield 16, 3) := by decide +kernel
theorem dX11_part_12 : decode cX11_part 12 = .ok (.iload_n 1, 1) := by decide +kernel
theorem dX11_part_13 : decode cX11_part 13 = .ok (.iaload, 1) := by decide +kernel
theorem dX11_part_14 : decode cX11_part 14 = .ok (.iconst 2, 1) := by decide +kernel
theorem dX11_part_15 : decode cX11_part 15 = .ok (.if_icmp .eq 13, 3) := by decide +kernel
theorem dX11_part_18 : decode cX11_part 18 = .ok (.aload_n 0, 1) := by decide +kernel
theorem dX11_part_19 : decode cX11_part 19 = .ok (.getfield 16, 3) := by decide +kernel
theorem dX11_part_22 : decode cX11_part 22 = .ok (.iload_n 1, 1) := by decide +kernel
theorem dX11_part_23 : decode cX11_part 23 = .ok (.iaload, 1) := by decide +kernel
theorem dX11_part_24 : decode cX11_part 24 = .ok (.iconst 3, 1) := by decide +kernel
theorem dX11_part_25 : decode cX11_part 25 = .ok (.if_icmp .ne 37, 3) := by decide +kernel
theorem dX11_part_28 : decode cX11_part 28 = .ok (.iload_n 2, 1) := by decide +kernel
theorem dX11_part_29 : decode cX11_part 29 = .ok (.aload_n 0, 1) := by decide +kernel
theorem dX11_part_30 : decode cX11_part 30 = .ok (.getfield 16, 3) := by decide +kernel
theorem dX11_part_33 : decode cX11_part 33 = .ok (.iload_n 1, 1) := by decide +kernel
theorem dX11_part_34 : decode cX11_part 34 = .ok (.iaload, 1) := by decide +kernel
theorem dX11_part_35 : decode cX11_part 35 = .ok (.iconst 3, 1) := by decide +kernel
theorem dX11_part_36 : decode cX11_part 36 = .ok (.if_icmp .ne 7, 3) := by decide +kernel
theorem dX11_part_39 : decode cX11_part 39 = .ok (.iconst 3, 1) := by decide +kernel
theorem dX11_part_40 : decode cX11_part 40 = .ok (.goto 4, 3) := by decide +kernel
theorem dX11_part_43 : decode cX11_part 43 = .ok (.iconst 0, 1) := by decide +kernel
theorem dX11_part_44 : decode cX11_part 44 = .ok (.iconst 3, 1) := by decide +kernel
theorem dX11_part_45 : decode cX11_part 45 = .ok (.invokestatic 103, 3) := by decide +kernel
theorem dX11_part_48 : decode cX11_part 48 = .ok (.ifCond .eq 14, 3) := by decide +kernel
theorem dX11_part_51 : decode cX11_part 51 = .ok (.iload_n 3, 1) := by decide +kernel
theorem dX11_part_52 : decode cX11_part 52 = .ok (.iconst 0, 1) := by decide +kernel
theorem dX11_part_53 : decode cX11_part 53 = .ok (.iload_n 1, 1) := by decide +kernel
theorem dX11_part_54 : decode cX11_part 54 = .ok (.iconst 1, 1) := by decide +kernel
theorem dX11_part_55 : decode cX11_part 55 = .ok (.isub, 1) := by decide +kernel
theorem dX11_part_56 : decode cX11_part 56 = .ok (.invokestatic 103, 3) := by decide +kernel
theorem dX11_part_59 : decode cX11_part 59 = .ok (.ifCond .ne 6, 3) := by decide +kernel
theorem dX11_part_62 : decode cX11_part 62 = .ok (.bipush (-2), 2) := by decide +kernel
theorem dX11_part_64 : decode cX11_part 64 = .ok (.ireturn, 1) := by decide +kernel
theorem dX11_part_65 : decode cX11_part 65 = .ok (.aload_n 0, 1) := by decide +kernel
theorem dX11_part_66 : decode cX11_part 66 = .ok (.getfield 25, 3) := by decide +kernel
theorem dX11_part_69 : decode cX11_part 69 = .ok (.iload_n 1, 1) := by decide +kernel
theorem dX11_part_70 : decode cX11_part 70 = .ok (.iaload, 1) := by decide +kernel
theorem dX11_part_71 : decode cX11_part 71 = .ok (.bipush 8, 2) := by decide +kernel
theorem dX11_part_73 : decode cX11_part 73 = .ok (.if_icmp .ne 6, 3) := by decide +kernel
theorem dX11_part_76 : decode cX11_part 76 = .ok (.bipush (-3), 2) := by decide +kernel
theorem dX11_part_78 : decode cX11_part 78 = .ok (.ireturn, 1) := by decide +kernel
theorem dX11_part_79 : decode cX11_part 79 = .ok (.aload_n 0, 1) := by decide +kernel
theorem dX11_part_80 : decode cX11_part 80 = .ok (.getfield 28, 3) := by decide +kernel
theorem dX11_part_83 : decode cX11_part 83 = .ok (.bipush 8, 2) := by decide +kernel
theorem dX11_part_85 : decode cX11_part 85 = .ok (.iload_n 1, 1) := by decide +kernel
theorem dX11_part_86 : decode cX11_part 86 = .ok (.imul, 1) := by decide +kernel
theorem dX11_part_87 : decode cX11_part 87 = .ok (.aload_n 0, 1) := by decide +kernel
theorem dX11_part_88 : decode cX11_part 88 = .ok (.getfield 25, 3) := by decide +kernel
theorem dX11_part_91 : decode cX11_part 91 = .ok (.iload_n 1, 1) := by decide +kernel
theorem dX11_part_92 : decode cX11_part 92 = .ok (.iaload, 1) := by decide +kernel
theorem dX11_part_93 : decode cX11_part 93 = .ok (.iadd, 1) := by decide +kernel
theorem dX11_part_94 : decode cX11_part 94 = .ok (.iload_n 2, 1) := by decide +kernel
theorem dX11_part_95 : decode cX11_part 95 = .ok (.iastore, 1) := by decide +kernel
theorem dX11_part_96 : decode cX11_part 96 = .ok (.aload_n 0, 1) := by decide +kernel
theorem dX11_part_97 : decode cX11_part 97 = .ok (.getfield 31, 3) := by decide +kernel
theorem dX11_part_100 : decode cX11_part 100 = .ok (.bipush 8, 2) := by decide +kernel
theorem dX11_part_102 : decode cX11_part 102 = .ok (.iload_n 1, 1) := by decide +kernel
theorem dX11_part_103 : decode cX11_part 103 = .ok (.imul, 1) := by decide +kernel
theorem dX11_part_104 : decode cX11_part 104 = .ok (.aload_n 0, 1) := by decide +kernel
theorem dX11_part_105 : decode cX11_part 105 = .ok (.getfield 25, 3) := by decide +kernel
theorem dX11_part_108 : decode cX11_part 108 = .ok (.iload_n 1, 1) := by decide +kernel
theorem dX11_part_109 : decode cX11_part 109 = .ok (.iaload, 1) := by decide +kernel
theorem dX11_part_110 : decode cX11_part 110 = .ok (.iadd, 1) := by decide +kernel
theorem dX11_part_111 : decode cX11_part 111 = .ok (.iload_n 3, 1) := by decide +kernel
theorem dX11_part_112 : decode cX11_part 112 = .ok (.iastore, 1) := by decide +kernel
theorem dX11_part_113 : decode cX11_part 113 = .ok (.aload_n 0, 1) := by decide +kernel
theorem dX11_part_114 : decode cX11_part 114 = .ok (.getfield 25, 3) := by decide +kernel
theorem dX11_part_117 : decode cX11_part 117 = .ok (.iload_n 1, 1) := by decide +kernel
theorem dX11_part_118 : decode cX11_part 118 = .ok (.dup2, 1) := by decide +kernel
theorem dX11_part_119 : decode cX11_part 119 = .ok (.iaload, 1) := by decide +kernel
theorem dX11_part_120 : decode cX11_part 120 = .ok (.iconst 1, 1) := by decide +kernel
theorem dX11_part_121 : decode cX11_part 121 = .ok (.iadd, 1) := by decide +kernel
theorem dX11_part_122 : decode cX11_part 122 = .ok (.iastore, 1) := by decide +kernel
theorem dX11_part_123 : decode cX11_part 123 = .ok (.iconst 0, 1) := by decide +kernel
theorem dX11_part_124 : decode cX11_part 124 = .ok (.istore 4, 2) := by decide +kernel
theorem dX11_part_126 : decode cX11_part 126 = .ok (.iload 4, 2) := by decide +kernel
theorem dX11_part_128 : decode cX11_part 128 = .ok (.aload_n 0, 1) := by decide +kernel
theorem dX11_part_129 : decode cX11_part 129 = .ok (.getfield 107, 3) := by decide +kernel
theorem dX11_part_132 : decode cX11_part 132 = .ok (.if_icmp .ge 27, 3) := by decide +kernel
theorem dX11_part_135 : decode cX11_part 135 = .ok (.aload_n 0, 1) := by decide +kernel
theorem dX11_part_136 : decode cX11_part 136 = .ok (.getfield 57, 3) := by decide +kernel
theorem dX11_part_139 : decode cX11_part 139 = .ok (.iload 4, 2) := by decide +kernel
theorem dX11_part_141 : decode cX11_part 141 = .ok (.iload 4, 2) := by decide +kernel
theorem dX11_part_143 : decode cX11_part 143 = .ok (.iload_n 1, 1) := by decide +kernel
theorem dX11_part_144 : decode cX11_part 144 = .ok (.if_icmp .ne 7, 3) := by decide +kernel
theorem dX11_part_147 : decode cX11_part 147 = .ok (.iconst 1, 1) := by decide +kernel
theorem dX11_part_148 : decode cX11_part 148 = .ok (.goto 4, 3) := by decide +kernel
theorem dX11_part_151 : decode cX11_part 151 = .ok (.iconst 0, 1) := by decide +kernel
theorem dX11_part_152 : decode cX11_part 152 = .ok (.bastore, 1) := by decide +kernel
theorem dX11_part_153 : decode cX11_part 153 = .ok (.iinc 4 1, 3) := by decide +kernel
theorem dX11_part_156 : decode cX11_part 156 = .ok (.goto (-30), 3) := by decide +kernel
theorem dX11_part_159 : decode cX11_part 159 = .ok (.aload_n 0, 1) := by decide +kernel
theorem dX11_part_160 : decode cX11_part 160 = .ok (.iload_n 1, 1) := by decide +kernel
theorem dX11_part_161 : decode cX11_part 161 = .ok (.invokevirtual 111, 3) := by decide +kernel
theorem dX11_part_164 : decode cX11_part 164 = .ok (.aload_n 0, 1) := by decide +kernel
theorem dX11_part_165 : decode cX11_part 165 = .ok (.getfield 25, 3) := by decide +kernel
theorem dX11_part_168 : decode cX11_part 168 = .ok (.iload_n 1, 1) := by decide +kernel
theorem dX11_part_169 : decode cX11_part 169 = .ok (.iaload, 1) := by decide +kernel
theorem dX11_part_170 : decode cX11_part 170 = .ok (.ireturn, 1) := by decide +kernel
theorem dX11_told_0 : decode cX11_told 0 = .ok (.aload_n 0, 1) := by decide +kernel
theorem dX11_told_1 : decode cX11_told 1 = .ok (.iload_n 1, 1) := by decide +kernel
theorem dX11_told_2 : decode cX11_told 2 = .ok (.invokevirtual 123, 3) := by decide +kernel
theorem dX11_told_5 : decode cX11_told 5 = .ok (.ifCond .eq 13, 3) := by decide +kernel
theorem dX11_told_8 : decode cX11_told 8 = .ok (.iload_n 2, 1) := by decide +kernel
theorem dX11_told_9 : decode cX11_told 9 = .ok (.iconst 0, 1) := by decide +kernel
theorem dX11_told_10 : decode cX11_told 10 = .ok (.bipush 6, 2) := by decide +kernel
theorem dX11_told_12 : decode cX11_told 12 = .ok (.invokestatic 103, 3) := by decide +kernel
theorem dX11_told_15 : decode cX11_told 15 = .ok (.ifCond .ne 6, 3) := by decide +kernel
theorem dX11_told_18 : decode cX11_told 18 = .ok (.bipush (-2), 2) := by decide +kernel
theorem dX11_told_20 : decode cX11_told 20 = .ok (.ireturn, 1) := by decide +kernel
theorem dX11_told_21 : decode cX11_told 21 = .ok (.iload_n 2, 1) := by decide +kernel
theorem dX11_told_22 : decode cX11_told 22 = .ok (.iconst 4, 1) := by decide +kernel
theorem dX11_told_23 : decode cX11_told 23 = .ok (.if_icmp .ne 7, 3) := by decide +kernel
theorem dX11_told_26 : decode cX11_told 26 = .ok (.aload_n 0, 1) := by decide +kernel
theorem dX11_told_27 : decode cX11_told 27 = .ok (.invokevirtual 134, 3) := by decide +kernel
theorem dX11_told_30 : decode cX11_told 30 = .ok (.iload_n 2, 1) := by decide +kernel
theorem dX11_told_31 : decode cX11_told 31 = .ok (.ifCond .ne 12, 3) := by decide +kernel
theorem dX11_told_34 : decode cX11_told 34 = .ok (.aload_n 0, 1) := by decide +kernel
theorem dX11_told_35 : decode cX11_told 35 = .ok (.getfield 16, 3) := by decide +kernel
theorem dX11_told_38 : decode cX11_told 38 = .ok (.iload_n 1, 1) := by decide +kernel
theorem dX11_told_39 : decode cX11_told 39 = .ok (.iaload, 1) := by decide +kernel
theorem dX11_told_40 : decode cX11_told 40 = .ok (.goto 79, 3) := by decide +kernel
theorem dX11_told_43 : decode cX11_told 43 = .ok (.iload_n 2, 1) := by decide +kernel
theorem dX11_told_44 : decode cX11_told 44 = .ok (.iconst 1, 1) := by decide +kernel
theorem dX11_told_45 : decode cX11_told 45 = .ok (.if_icmp .ne 12, 3) := by decide +kernel
theorem dX11_told_48 : decode cX11_told 48 = .ok (.aload_n 0, 1) := by decide +kernel
theorem dX11_told_49 : decode cX11_told 49 = .ok (.getfield 19, 3) := by decide +kernel
theorem dX11_told_52 : decode cX11_told 52 = .ok (.iload_n 1, 1) := by decide +kernel
theorem dX11_told_53 : decode cX11_told 53 = .ok (.iaload, 1) := by decide +kernel
theorem dX11_told_54 : decode cX11_told 54 = .ok (.goto 65, 3) := by decide +kernel
theorem dX11_told_57 : decode cX11_told 57 = .ok (.iload_n 2, 1) := by decide +kernel
theorem dX11_told_58 : decode cX11_told 58 = .ok (.iconst 2, 1) := by decide +kernel
theorem dX11_told_59 : decode cX11_told 59 = .ok (.if_icmp .ne 12, 3) := by decide +kernel
theorem dX11_told_62 : decode cX11_told 62 = .ok (.aload_n 0, 1) := by decide +kernel
theorem dX11_told_63 : decode cX11_told 63 = .ok (.getfield 22, 3) := by decide +kernel
theorem dX11_told_66 : decode cX11_told 66 = .ok (.iload_n 1, 1) := by decide +kernel
theorem dX11_told_67 : decode cX11_told 67 = .ok (.iaload, 1) := by decide +kernel
theorem dX11_told_68 : decode cX11_told 68 = .ok (.goto 51, 3) := by decide +kernel
theorem dX11_told_71 : decode cX11_told 71 = .ok (.iload_n 2, 1) := by decide +kernel
theorem dX11_told_72 : decode cX11_told 72 = .ok (.iconst 3, 1) := by decide +kernel
theorem dX11_told_73 : decode cX11_told 73 = .ok (.if_icmp .ne 12, 3) := by decide +kernel
theorem dX11_told_76 : decode cX11_told 76 = .ok (.aload_n 0, 1) := by decide +kernel
theorem dX11_told_77 : decode cX11_told 77 = .ok (.getfield 25, 3) := by decide +kernel
theorem dX11_told_80 : decode cX11_told 80 = .ok (.iload_n 1, 1) := by decide +kernel
theorem dX11_told_81 : decode cX11_told 81 = .ok (.iaload, 1) := by decide +kernel
theorem dX11_told_82 : decode cX11_told 82 = .ok (.goto 37, 3) := by decide +kernel
theorem dX11_told_85 : decode cX11_told 85 = .ok (.iload_n 2, 1) := by decide +kernel
theorem dX11_told_86 : decode cX11_told 86 = .ok (.iconst 4, 1) := by decide +kernel
theorem dX11_told_87 : decode cX11_told 87 = .ok (.if_icmp .ne 12, 3) := by decide +kernel
theorem dX11_told_90 : decode cX11_told 90 = .ok (.aload_n 0, 1) := by decide +kernel
theorem dX11_told_91 : decode cX11_told 91 = .ok (.getfield 60, 3) := by decide +kernel
theorem dX11_told_94 : decode cX11_told 94 = .ok (.iload_n 1, 1) := by decide +kernel
theorem dX11_told_95 : decode cX11_told 95 = .ok (.iaload, 1) := by decide +kernel
theorem dX11_told_96 : decode cX11_told 96 = .ok (.goto 23, 3) := by decide +kernel
theorem dX11_told_99 : decode cX11_told 99 = .ok (.iload_n 2, 1) := by decide +kernel
theorem dX11_told_100 : decode cX11_told 100 = .ok (.iconst 5, 1) := by decide +kernel
theorem dX11_told_101 : decode cX11_told 101 = .ok (.if_icmp .ne 12, 3) := by decide +kernel
theorem dX11_told_104 : decode cX11_told 104 = .ok (.aload_n 0, 1) := by decide +kernel
theorem dX11_told_105 : decode cX11_told 105 = .ok (.getfield 34, 3) := by decide +kernel
theorem dX11_told_108 : decode cX11_told 108 = .ok (.iload_n 1, 1) := by decide +kernel
theorem dX11_told_109 : decode cX11_told 109 = .ok (.iaload, 1) := by decide +kernel
theorem dX11_told_110 : decode cX11_told 110 = .ok (.goto 9, 3) := by decide +kernel
theorem dX11_told_113 : decode cX11_told 113 = .ok (.aload_n 0, 1) := by decide +kernel
theorem dX11_told_114 : decode cX11_told 114 = .ok (.getfield 37, 3) := by decide +kernel
theorem dX11_told_117 : decode cX11_told 117 = .ok (.iload_n 1, 1) := by decide +kernel
theorem dX11_told_118 : decode cX11_told 118 = .ok (.iaload, 1) := by decide +kernel
theorem dX11_told_119 : decode cX11_told 119 = .ok (.ireturn, 1) := by decide +kernel
theorem dX11_partOf_0 : decode cX11_partOf 0 = .ok (.aload_n 0, 1) := by decide +kernel
theorem dX11_partOf_1 : decode cX11_partOf 1 = .ok (.iload_n 1, 1) := by decide +kernel
theorem dX11_partOf_2 : decode cX11_partOf 2 = .ok (.invokevirtual 123, 3) := by decide +kernel
theorem dX11_partOf_5 : decode cX11_partOf 5 = .ok (.ifCond .eq 28, 3) := by decide +kernel
theorem dX11_partOf_8 : decode cX11_partOf 8 = .ok (.iload_n 2, 1) := by decide +kernel
theorem dX11_partOf_9 : decode cX11_partOf 9 = .ok (.iconst 0, 1) := by decide +kernel
theorem dX11_partOf_10 : decode cX11_partOf 10 = .ok (.aload_n 0, 1) := by decide +kernel
theorem dX11_partOf_11 : decode cX11_partOf 11 = .ok (.getfield 25, 3) := by decide +kernel
theorem dX11_partOf_14 : decode cX11_partOf 14 = .ok (.iload_n 1, 1) := by decide +kernel
theorem dX11_partOf_15 : decode cX11_partOf 15 = .ok (.iaload, 1) := by decide +kernel
theorem dX11_partOf_16 : decode cX11_partOf 16 = .ok (.iconst 1, 1) := by decide +kernel
theorem dX11_partOf_17 : decode cX11_partOf 17 = .ok (.isub, 1) := by decide +kernel
theorem dX11_partOf_18 : decode cX11_partOf 18 = .ok (.invokestatic 103, 3) := by decide +kernel
theorem dX11_partOf_21 : decode cX11_partOf 21 = .ok (.ifCond .eq 12, 3) := by decide +kernel
theorem dX11_partOf_24 : decode cX11_partOf 24 = .ok (.iload_n 3, 1) := by decide +kernel
theorem dX11_partOf_25 : decode cX11_partOf 25 = .ok (.iconst 0, 1) := by decide +kernel
theorem dX11_partOf_26 : decode cX11_partOf 26 = .ok (.iconst 1, 1) := by decide +kernel
theorem dX11_partOf_27 : decode cX11_partOf 27 = .ok (.invokestatic 103, 3) := by decide +kernel
theorem dX11_partOf_30 : decode cX11_partOf 30 = .ok (.ifCond .ne 6, 3) := by decide +kernel
theorem dX11_partOf_33 : decode cX11_partOf 33 = .ok (.bipush (-2), 2) := by decide +kernel
theorem dX11_partOf_35 : decode cX11_partOf 35 = .ok (.ireturn, 1) := by decide +kernel
theorem dX11_partOf_36 : decode cX11_partOf 36 = .ok (.iload_n 3, 1) := by decide +kernel
theorem dX11_partOf_37 : decode cX11_partOf 37 = .ok (.ifCond .ne 17, 3) := by decide +kernel
theorem dX11_partOf_40 : decode cX11_partOf 40 = .ok (.aload_n 0, 1) := by decide +kernel
theorem dX11_partOf_41 : decode cX11_partOf 41 = .ok (.getfield 28, 3) := by decide +kernel
theorem dX11_partOf_44 : decode cX11_partOf 44 = .ok (.bipush 8, 2) := by decide +kernel
theorem dX11_partOf_46 : decode cX11_partOf 46 = .ok (.iload_n 1, 1) := by decide +kernel
theorem dX11_partOf_47 : decode cX11_partOf 47 = .ok (.imul, 1) := by decide +kernel
theorem dX11_partOf_48 : decode cX11_partOf 48 = .ok (.iload_n 2, 1) := by decide +kernel
theorem dX11_partOf_49 : decode cX11_partOf 49 = .ok (.iadd, 1) := by decide +kernel
theorem dX11_partOf_50 : decode cX11_partOf 50 = .ok (.iaload, 1) := by decide +kernel
theorem dX11_partOf_51 : decode cX11_partOf 51 = .ok (.goto 14, 3) := by decide +kernel
theorem dX11_partOf_54 : decode cX11_partOf 54 = .ok (.aload_n 0, 1) := by decide +kernel
theorem dX11_partOf_55 : decode cX11_partOf 55 = .ok (.getfield 31, 3) := by decide +kernel
theorem dX11_partOf_58 : decode cX11_partOf 58 = .ok (.bipush 8, 2) := by decide +kernel
theorem dX11_partOf_60 : decode cX11_partOf 60 = .ok (.iload_n 1, 1) := by decide +kernel
theorem dX11_partOf_61 : decode cX11_partOf 61 = .ok (.imul, 1) := by decide +kernel
theorem dX11_partOf_62 : decode cX11_partOf 62 = .ok (.iload_n 2, 1) := by decide +kernel
theorem dX11_partOf_63 : decode cX11_partOf 63 = .ok (.iadd, 1) := by decide +kernel
theorem dX11_partOf_64 : decode cX11_partOf 64 = .ok (.iaload, 1) := by decide +kernel
theorem dX11_partOf_65 : decode cX11_partOf 65 = .ok (.ireturn, 1) := by decide +kernel
theorem dX11_costs_0 : decode cX11_costs 0 = .ok (.iconst 0, 1) := by decide +kernel
theorem dX11_costs_1 : decode cX11_costs 1 = .ok (.istore_n 1, 1) := by decide +kernel
theorem dX11_costs_2 : decode cX11_costs 2 = .ok (.iload_n 1, 1) := by decide +kernel
theorem dX11_costs_3 : decode cX11_costs 3 = .ok (.aload_n 0, 1) := by decide +kernel
theorem dX11_costs_4 : decode cX11_costs 4 = .ok (.getfield 107, 3) := by decide +kernel
theorem dX11_costs_7 : decode cX11_costs 7 = .ok (.if_icmp .ge 160, 3) := by decide +kernel
theorem dX11_costs_10 : decode cX11_costs 10 = .ok (.aload_n 0, 1) := by decide +kernel
theorem dX11_costs_11 : decode cX11_costs 11 = .ok (.getfield 16, 3) := by decide +kernel
theorem dX11_costs_14 : decode cX11_costs 14 = .ok (.iload_n 1, 1) := by decide +kernel
theorem dX11_costs_15 : decode cX11_costs 15 = .ok (.iaload, 1) := by decide +kernel
theorem dX11_costs_16 : decode cX11_costs 16 = .ok (.ifCond .ne 17, 3) := by decide +kernel
theorem dX11_costs_19 : decode cX11_costs 19 = .ok (.aload_n 0, 1) := by decide +kernel
theorem dX11_costs_20 : decode cX11_costs 20 = .ok (.getfield 13, 3) := by decide +kernel
theorem dX11_costs_23 : decode cX11_costs 23 = .ok (.aload_n 0, 1) := by decide +kernel
theorem dX11_costs_24 : decode cX11_costs 24 = .ok (.getfield 19, 3) := by decide +kernel
theorem dX11_costs_27 : decode cX11_costs 27 = .ok (.iload_n 1, 1) := by decide +kernel
theorem dX11_costs_28 : decode cX11_costs 28 = .ok (.iaload, 1) := by decide +kernel
theorem dX11_costs_29 : decode cX11_costs 29 = .ok (.iaload, 1) := by decide +kernel
theorem dX11_costs_30 : decode cX11_costs 30 = .ok (.goto 32, 3) := by decide +kernel
theorem dX11_costs_33 : decode cX11_costs 33 = .ok (.aload_n 0, 1) := by decide +kernel
theorem dX11_costs_34 : decode cX11_costs 34 = .ok (.getfield 16, 3) := by decide +kernel
theorem dX11_costs_37 : decode cX11_costs 37 = .ok (.iload_n 1, 1) := by decide +kernel
theorem dX11_costs_38 : decode cX11_costs 38 = .ok (.iaload, 1) := by decide +kernel
theorem dX11_costs_39 : decode cX11_costs 39 = .ok (.iconst 1, 1) := by decide +kernel
theorem dX11_costs_40 : decode cX11_costs 40 = .ok (.if_icmp .ne 21, 3) := by decide +kernel
theorem dX11_costs_43 : decode cX11_costs 43 = .ok (.aload_n 0, 1) := by decide +kernel
theorem dX11_costs_44 : decode cX11_costs 44 = .ok (.getfield 22, 3) := by decide +kernel
theorem dX11_costs_47 : decode cX11_costs 47 = .ok (.iload_n 1, 1) := by decide +kernel
theorem dX11_costs_48 : decode cX11_costs 48 = .ok (.iaload, 1) := by decide +kernel
theorem dX11_costs_49 : decode cX11_costs 49 = .ok (.aload_n 0, 1) := by decide +kernel
theorem dX11_costs_50 : decode cX11_costs 50 = .ok (.getfield 19, 3) := by decide +kernel
theorem dX11_costs_53 : decode cX11_costs 53 = .ok (.iload_n 1, 1) := by decide +kernel
theorem dX11_costs_54 : decode cX11_costs 54 = .ok (.iaload, 1) := by decide +kernel
theorem dX11_costs_55 : decode cX11_costs 55 = .ok (.isub, 1) := by decide +kernel
theorem dX11_costs_56 : decode cX11_costs 56 = .ok (.iconst 1, 1) := by decide +kernel
theorem dX11_costs_57 : decode cX11_costs 57 = .ok (.iadd, 1) := by decide +kernel
theorem dX11_costs_58 : decode cX11_costs 58 = .ok (.goto 4, 3) := by decide +kernel
theorem dX11_costs_61 : decode cX11_costs 61 = .ok (.iconst 0, 1) := by decide +kernel
theorem dX11_costs_62 : decode cX11_costs 62 = .ok (.istore_n 2, 1) := by decide +kernel
theorem dX11_costs_63 : decode cX11_costs 63 = .ok (.aload_n 0, 1) := by decide +kernel
theorem dX11_costs_64 : decode cX11_costs 64 = .ok (.getfield 16, 3) := by decide +kernel
theorem dX11_costs_67 : decode cX11_costs 67 = .ok (.iload_n 1, 1) := by decide +kernel
theorem dX11_costs_68 : decode cX11_costs 68 = .ok (.iaload, 1) := by decide +kernel
theorem dX11_costs_69 : decode cX11_costs 69 = .ok (.bipush 6, 2) := by decide +kernel
theorem dX11_costs_71 : decode cX11_costs 71 = .ok (.if_icmp .ne 23, 3) := by decide +kernel
theorem dX11_costs_74 : decode cX11_costs 74 = .ok (.aload_n 0, 1) := by decide +kernel
theorem dX11_costs_75 : decode cX11_costs 75 = .ok (.getfield 37, 3) := by decide +kernel
theorem dX11_costs_78 : decode cX11_costs 78 = .ok (.iload_n 1, 1) := by decide +kernel
theorem dX11_costs_79 : decode cX11_costs 79 = .ok (.iaload, 1) := by decide +kernel
theorem dX11_costs_80 : decode cX11_costs 80 = .ok (.iconst (-1), 1) := by decide +kernel
theorem dX11_costs_81 : decode cX11_costs 81 = .ok (.if_icmp .eq 13, 3) := by decide +kernel
theorem dX11_costs_84 : decode cX11_costs 84 = .ok (.aload_n 0, 1) := by decide +kernel
theorem dX11_costs_85 : decode cX11_costs 85 = .ok (.getfield 37, 3) := by decide +kernel
theorem dX11_costs_88 : decode cX11_costs 88 = .ok (.iload_n 1, 1) := by decide +kernel
theorem dX11_costs_89 : decode cX11_costs 89 = .ok (.iaload, 1) := by decide +kernel
theorem dX11_costs_90 : decode cX11_costs 90 = .ok (.istore_n 2, 1) := by decide +kernel
theorem dX11_costs_91 : decode cX11_costs 91 = .ok (.goto 63, 3) := by decide +kernel
theorem dX11_costs_94 : decode cX11_costs 94 = .ok (.aload_n 0, 1) := by decide +kernel
theorem dX11_costs_95 : decode cX11_costs 95 = .ok (.getfield 25, 3) := by decide +kernel
theorem dX11_costs_98 : decode cX11_costs 98 = .ok (.iload_n 1, 1) := by decide +kernel
theorem dX11_costs_99 : decode cX11_costs 99 = .ok (.iaload, 1) := by decide +kernel
theorem dX11_costs_100 : decode cX11_costs 100 = .ok (.ifCond .le 28, 3) := by decide +kernel
theorem dX11_costs_103 : decode cX11_costs 103 = .ok (.aload_n 0, 1) := by decide +kernel
theorem dX11_costs_104 : decode cX11_costs 104 = .ok (.getfield 16, 3) := by decide +kernel
theorem dX11_costs_107 : decode cX11_costs 107 = .ok (.iload_n 1, 1) := by decide +kernel
theorem dX11_costs_108 : decode cX11_costs 108 = .ok (.iaload, 1) := by decide +kernel
theorem dX11_costs_109 : decode cX11_costs 109 = .ok (.iconst 3, 1) := by decide +kernel
theorem dX11_costs_110 : decode cX11_costs 110 = .ok (.if_icmp .le 18, 3) := by decide +kernel
theorem dX11_costs_113 : decode cX11_costs 113 = .ok (.aload_n 0, 1) := by decide +kernel
theorem dX11_costs_114 : decode cX11_costs 114 = .ok (.getfield 60, 3) := by decide +kernel
theorem dX11_costs_117 : decode cX11_costs 117 = .ok (.aload_n 0, 1) := by decide +kernel
theorem dX11_costs_118 : decode cX11_costs 118 = .ok (.getfield 19, 3) := by decide +kernel
theorem dX11_costs_121 : decode cX11_costs 121 = .ok (.iload_n 1, 1) := by decide +kernel
theorem dX11_costs_122 : decode cX11_costs 122 = .ok (.iaload, 1) := by decide +kernel
theorem dX11_costs_123 : decode cX11_costs 123 = .ok (.iaload, 1) := by decide +kernel
theorem dX11_costs_124 : decode cX11_costs 124 = .ok (.istore_n 2, 1) := by decide +kernel
theorem dX11_costs_125 : decode cX11_costs 125 = .ok (.goto 29, 3) := by decide +kernel
theorem dX11_costs_128 : decode cX11_costs 128 = .ok (.aload_n 0, 1) := by decide +kernel
theorem dX11_costs_129 : decode cX11_costs 129 = .ok (.getfield 16, 3) := by decide +kernel
theorem dX11_costs_132 : decode cX11_costs 132 = .ok (.iload_n 1, 1) := by decide +kernel
theorem dX11_costs_133 : decode cX11_costs 133 = .ok (.iaload, 1) := by decide +kernel
theorem dX11_costs_134 : decode cX11_costs 134 = .ok (.iconst 3, 1) := by decide +kernel
theorem dX11_costs_135 : decode cX11_costs 135 = .ok (.if_icmp .eq 13, 3) := by decide +kernel
theorem dX11_costs_138 : decode cX11_costs 138 = .ok (.aload_n 0, 1) := by decide +kernel
theorem dX11_costs_139 : decode cX11_costs 139 = .ok (.getfield 16, 3) := by decide +kernel
theorem dX11_costs_142 : decode cX11_costs 142 = .ok (.iload_n 1, 1) := by decide +kernel
theorem dX11_costs_143 : decode cX11_costs 143 = .ok (.iaload, 1) := by decide +kernel
theorem dX11_costs_144 : decode cX11_costs 144 = .ok (.iconst 2, 1) := by decide +kernel
theorem dX11_costs_145 : decode cX11_costs 145 = .ok (.if_icmp .ne 9, 3) := by decide +kernel
theorem dX11_costs_148 : decode cX11_costs 148 = .ok (.aload_n 0, 1) := by decide +kernel
theorem dX11_costs_149 : decode cX11_costs 149 = .ok (.iload_n 1, 1) := by decide +kernel
theorem dX11_costs_150 : decode cX11_costs 150 = .ok (.invokevirtual 137, 3) := by decide +kernel
theorem dX11_costs_153 : decode cX11_costs 153 = .ok (.istore_n 2, 1) := by decide +kernel
theorem dX11_costs_154 : decode cX11_costs 154 = .ok (.aload_n 0, 1) := by decide +kernel
theorem dX11_costs_155 : decode cX11_costs 155 = .ok (.getfield 60, 3) := by decide +kernel
theorem dX11_costs_158 : decode cX11_costs 158 = .ok (.iload_n 1, 1) := by decide +kernel
theorem dX11_costs_159 : decode cX11_costs 159 = .ok (.iload_n 2, 1) := by decide +kernel
theorem dX11_costs_160 : decode cX11_costs 160 = .ok (.iastore, 1) := by decide +kernel
theorem dX11_costs_161 : decode cX11_costs 161 = .ok (.iinc 1 1, 3) := by decide +kernel
theorem dX11_costs_164 : decode cX11_costs 164 = .ok (.goto (-162), 3) := by decide +kernel
theorem dX11_costs_167 : decode cX11_costs 167 = .ok (.return_, 1) := by decide +kernel
theorem dX11_together_0 : decode cX11_together 0 = .ok (.ldc 119, 2) := by decide +kernel
theorem dX11_together_2 : decode cX11_together 2 = .ok (.istore_n 2, 1) := by decide +kernel
theorem dX11_together_3 : decode cX11_together 3 = .ok (.iconst 0, 1) := by decide +kernel
theorem dX11_together_4 : decode cX11_together 4 = .ok (.istore_n 3, 1) := by decide +kernel
theorem dX11_together_5 : decode cX11_together 5 = .ok (.iconst 0, 1) := by decide +kernel
theorem dX11_together_6 : decode cX11_together 6 = .ok (.istore 4, 2) := by decide +kernel
theorem dX11_together_8 : decode cX11_together 8 = .ok (.iload 4, 2) := by decide +kernel
theorem dX11_together_10 : decode cX11_together 10 = .ok (.aload_n 0, 1) := by decide +kernel
theorem dX11_together_11 : decode cX11_together 11 = .ok (.getfield 25, 3) := by decide +kernel
theorem dX11_together_14 : decode cX11_together 14 = .ok (.iload_n 1, 1) := by decide +kernel
theorem dX11_together_15 : decode cX11_together 15 = .ok (.iaload, 1) := by decide +kernel
theorem dX11_together_16 : decode cX11_together 16 = .ok (.if_icmp .ge 76, 3) := by decide +kernel
theorem dX11_together_19 : decode cX11_together 19 = .ok (.aload_n 0, 1) := by decide +kernel
theorem dX11_together_20 : decode cX11_together 20 = .ok (.getfield 28, 3) := by decide +kernel
theorem dX11_together_23 : decode cX11_together 23 = .ok (.bipush 8, 2) := by decide +kernel
theorem dX11_together_25 : decode cX11_together 25 = .ok (.iload_n 1, 1) := by decide +kernel
theorem dX11_together_26 : decode cX11_together 26 = .ok (.imul, 1) := by decide +kernel
theorem dX11_together_27 : decode cX11_together 27 = .ok (.iload 4, 2) := by decide +kernel
theorem dX11_together_29 : decode cX11_together 29 = .ok (.iadd, 1) := by decide +kernel
theorem dX11_together_30 : decode cX11_together 30 = .ok (.iaload, 1) := by decide +kernel
theorem dX11_together_31 : decode cX11_together 31 = .ok (.istore 5, 2) := by decide +kernel
theorem dX11_together_33 : decode cX11_together 33 = .ok (.aload_n 0, 1) := by decide +kernel
theorem dX11_together_34 : decode cX11_together 34 = .ok (.getfield 60, 3) := by decide +kernel
theorem dX11_together_37 : decode cX11_together 37 = .ok (.aload_n 0, 1) := by decide +kernel
theorem dX11_together_38 : decode cX11_together 38 = .ok (.getfield 31, 3) := by decide +kernel
theorem dX11_together_41 : decode cX11_together 41 = .ok (.bipush 8, 2) := by decide +kernel
theorem dX11_together_43 : decode cX11_together 43 = .ok (.iload_n 1, 1) := by decide +kernel
theorem dX11_together_44 : decode cX11_together 44 = .ok (.imul, 1) := by decide +kernel
theorem dX11_together_45 : decode cX11_together 45 = .ok (.iload 4, 2) := by decide +kernel
theorem dX11_together_47 : decode cX11_together 47 = .ok (.iadd, 1) := by decide +kernel
theorem dX11_together_48 : decode cX11_together 48 = .ok (.iaload, 1) := by decide +kernel
theorem dX11_together_49 : decode cX11_together 49 = .ok (.iaload, 1) := by decide +kernel
theorem dX11_together_50 : decode cX11_together 50 = .ok (.istore 6, 2) := by decide +kernel
theorem dX11_together_52 : decode cX11_together 52 = .ok (.iload 5, 2) := by decide +kernel
theorem dX11_together_54 : decode cX11_together 54 = .ok (.iconst 2, 1) := by decide +kernel
theorem dX11_together_55 : decode cX11_together 55 = .ok (.if_icmp .ge 14, 3) := by decide +kernel
theorem dX11_together_58 : decode cX11_together 58 = .ok (.iload 6, 2) := by decide +kernel
theorem dX11_together_60 : decode cX11_together 60 = .ok (.iload_n 2, 1) := by decide +kernel
theorem dX11_together_61 : decode cX11_together 61 = .ok (.if_icmp .ge 8, 3) := by decide +kernel
theorem dX11_together_64 : decode cX11_together 64 = .ok (.iload 6, 2) := by decide +kernel
theorem dX11_together_66 : decode cX11_together 66 = .ok (.goto 4, 3) := by decide +kernel
theorem dX11_together_69 : decode cX11_together 69 = .ok (.iload_n 2, 1) := by decide +kernel
theorem dX11_together_70 : decode cX11_together 70 = .ok (.istore_n 2, 1) := by decide +kernel
theorem dX11_together_71 : decode cX11_together 71 = .ok (.iload_n 3, 1) := by decide +kernel
theorem dX11_together_72 : decode cX11_together 72 = .ok (.iload 5, 2) := by decide +kernel
theorem dX11_together_74 : decode cX11_together 74 = .ok (.iconst 3, 1) := by decide +kernel
theorem dX11_together_75 : decode cX11_together 75 = .ok (.if_icmp .ne 8, 3) := by decide +kernel
theorem dX11_together_78 : decode cX11_together 78 = .ok (.iload 6, 2) := by decide +kernel
theorem dX11_together_80 : decode cX11_together 80 = .ok (.goto 4, 3) := by decide +kernel
theorem dX11_together_83 : decode cX11_together 83 = .ok (.iconst 0, 1) := by decide +kernel
theorem dX11_together_84 : decode cX11_together 84 = .ok (.iadd, 1) := by decide +kernel
theorem dX11_together_85 : decode cX11_together 85 = .ok (.istore_n 3, 1) := by decide +kernel
theorem dX11_together_86 : decode cX11_together 86 = .ok (.iinc 4 1, 3) := by decide +kernel
theorem dX11_together_89 : decode cX11_together 89 = .ok (.goto (-81), 3) := by decide +kernel
theorem dX11_together_92 : decode cX11_together 92 = .ok (.iload_n 2, 1) := by decide +kernel
theorem dX11_together_93 : decode cX11_together 93 = .ok (.ldc 119, 2) := by decide +kernel
theorem dX11_together_95 : decode cX11_together 95 = .ok (.if_icmp .ge 7, 3) := by decide +kernel
theorem dX11_together_98 : decode cX11_together 98 = .ok (.iload_n 2, 1) := by decide +kernel
theorem dX11_together_99 : decode cX11_together 99 = .ok (.goto 17, 3) := by decide +kernel
theorem dX11_together_102 : decode cX11_together 102 = .ok (.iload_n 3, 1) := by decide +kernel
theorem dX11_together_103 : decode cX11_together 103 = .ok (.sipush 512, 3) := by decide +kernel
theorem dX11_together_106 : decode cX11_together 106 = .ok (.if_icmp .ge 7, 3) := by decide +kernel
theorem dX11_together_109 : decode cX11_together 109 = .ok (.iload_n 3, 1) := by decide +kernel
theorem dX11_together_110 : decode cX11_together 110 = .ok (.goto 6, 3) := by decide +kernel
theorem dX11_together_113 : decode cX11_together 113 = .ok (.sipush 512, 3) := by decide +kernel
theorem dX11_together_116 : decode cX11_together 116 = .ok (.ireturn, 1) := by decide +kernel
theorem dX11_mayAll_0 : decode cX11_mayAll 0 = .ok (.iconst 0, 1) := by decide +kernel
theorem dX11_mayAll_1 : decode cX11_mayAll 1 = .ok (.istore_n 3, 1) := by decide +kernel
theorem dX11_mayAll_2 : decode cX11_mayAll 2 = .ok (.iload_n 3, 1) := by decide +kernel
theorem dX11_mayAll_3 : decode cX11_mayAll 3 = .ok (.iload_n 2, 1) := by decide +kernel
theorem dX11_mayAll_4 : decode cX11_mayAll 4 = .ok (.if_icmp .gt 366, 3) := by decide +kernel
theorem dX11_mayAll_7 : decode cX11_mayAll 7 = .ok (.aload_n 0, 1) := by decide +kernel
theorem dX11_mayAll_8 : decode cX11_mayAll 8 = .ok (.getfield 16, 3) := by decide +kernel
theorem dX11_mayAll_11 : decode cX11_mayAll 11 = .ok (.iload_n 3, 1) := by decide +kernel
theorem dX11_mayAll_12 : decode cX11_mayAll 12 = .ok (.iaload, 1) := by decide +kernel
theorem dX11_mayAll_13 : decode cX11_mayAll 13 = .ok (.ifCond .ne 32, 3) := by decide +kernel
theorem dX11_mayAll_16 : decode cX11_mayAll 16 = .ok (.aload_n 0, 1) := by decide +kernel
theorem dX11_mayAll_17 : decode cX11_mayAll 17 = .ok (.getfield 7, 3) := by decide +kernel
theorem dX11_mayAll_20 : decode cX11_mayAll 20 = .ok (.sipush 512, 3) := by decide +kernel
theorem dX11_mayAll_23 : decode cX11_mayAll 23 = .ok (.aload_n 0, 1) := by decide +kernel
theorem dX11_mayAll_24 : decode cX11_mayAll 24 = .ok (.getfield 19, 3) := by decide +kernel
theorem dX11_mayAll_27 : decode cX11_mayAll 27 = .ok (.iload_n 3, 1) := by decide +kernel
theorem dX11_mayAll_28 : decode cX11_mayAll 28 = .ok (.iaload, 1) := by decide +kernel
theorem dX11_mayAll_29 : decode cX11_mayAll 29 = .ok (.imul, 1) := by decide +kernel
theorem dX11_mayAll_30 : decode cX11_mayAll 30 = .ok (.iload_n 1, 1) := by decide +kernel
theorem dX11_mayAll_31 : decode cX11_mayAll 31 = .ok (.iadd, 1) := by decide +kernel
theorem dX11_mayAll_32 : decode cX11_mayAll 32 = .ok (.iaload, 1) := by decide +kernel
theorem dX11_mayAll_33 : decode cX11_mayAll 33 = .ok (.iconst (-1), 1) := by decide +kernel
theorem dX11_mayAll_34 : decode cX11_mayAll 34 = .ok (.if_icmp .eq 7, 3) := by decide +kernel
theorem dX11_mayAll_37 : decode cX11_mayAll 37 = .ok (.iconst 1, 1) := by decide +kernel
theorem dX11_mayAll_38 : decode cX11_mayAll 38 = .ok (.goto 41, 3) := by decide +kernel
theorem dX11_mayAll_41 : decode cX11_mayAll 41 = .ok (.iconst 0, 1) := by decide +kernel
theorem dX11_mayAll_42 : decode cX11_mayAll 42 = .ok (.goto 37, 3) := by decide +kernel
theorem dX11_mayAll_45 : decode cX11_mayAll 45 = .ok (.aload_n 0, 1) := by decide +kernel
theorem dX11_mayAll_46 : decode cX11_mayAll 46 = .ok (.getfield 16, 3) := by decide +kernel
theorem dX11_mayAll_49 : decode cX11_mayAll 49 = .ok (.iload_n 3, 1) := by decide +kernel
theorem dX11_mayAll_50 : decode cX11_mayAll 50 = .ok (.iaload, 1) := by decide +kernel
theorem dX11_mayAll_51 : decode cX11_mayAll 51 = .ok (.iconst 1, 1) := by decide +kernel
theorem dX11_mayAll_52 : decode cX11_mayAll 52 = .ok (.if_icmp .ne 26, 3) := by decide +kernel
theorem dX11_mayAll_55 : decode cX11_mayAll 55 = .ok (.iload_n 1, 1) := by decide +kernel
theorem dX11_mayAll_56 : decode cX11_mayAll 56 = .ok (.aload_n 0, 1) := by decide +kernel
theorem dX11_mayAll_57 : decode cX11_mayAll 57 = .ok (.getfield 19, 3) := by decide +kernel
theorem dX11_mayAll_60 : decode cX11_mayAll 60 = .ok (.iload_n 3, 1) := by decide +kernel
theorem dX11_mayAll_61 : decode cX11_mayAll 61 = .ok (.iaload, 1) := by decide +kernel
theorem dX11_mayAll_62 : decode cX11_mayAll 62 = .ok (.aload_n 0, 1) := by decide +kernel
theorem dX11_mayAll_63 : decode cX11_mayAll 63 = .ok (.getfield 22, 3) := by decide +kernel
theorem dX11_mayAll_66 : decode cX11_mayAll 66 = .ok (.iload_n 3, 1) := by decide +kernel
theorem dX11_mayAll_67 : decode cX11_mayAll 67 = .ok (.iaload, 1) := by decide +kernel
theorem dX11_mayAll_68 : decode cX11_mayAll 68 = .ok (.invokestatic 103, 3) := by decide +kernel
theorem dX11_mayAll_71 : decode cX11_mayAll 71 = .ok (.ifCond .eq 7, 3) := by decide +kernel
theorem dX11_mayAll_74 : decode cX11_mayAll 74 = .ok (.iconst 1, 1) := by decide +kernel
theorem dX11_mayAll_75 : decode cX11_mayAll 75 = .ok (.goto 4, 3) := by decide +kernel
theorem dX11_mayAll_78 : decode cX11_mayAll 78 = .ok (.iconst 0, 1) := by decide +kernel
theorem dX11_mayAll_79 : decode cX11_mayAll 79 = .ok (.istore 4, 2) := by decide +kernel
theorem dX11_mayAll_81 : decode cX11_mayAll 81 = .ok (.aload_n 0, 1) := by decide +kernel
theorem dX11_mayAll_82 : decode cX11_mayAll 82 = .ok (.getfield 16, 3) := by decide +kernel
theorem dX11_mayAll_85 : decode cX11_mayAll 85 = .ok (.iload_n 3, 1) := by decide +kernel
theorem dX11_mayAll_86 : decode cX11_mayAll 86 = .ok (.iaload, 1) := by decide +kernel
theorem dX11_mayAll_87 : decode cX11_mayAll 87 = .ok (.bipush 6, 2) := by decide +kernel
theorem dX11_mayAll_89 : decode cX11_mayAll 89 = .ok (.if_icmp .ne 27, 3) := by decide +kernel
theorem dX11_mayAll_92 : decode cX11_mayAll 92 = .ok (.aload_n 0, 1) := by decide +kernel
theorem dX11_mayAll_93 : decode cX11_mayAll 93 = .ok (.getfield 37, 3) := by decide +kernel
theorem dX11_mayAll_96 : decode cX11_mayAll 96 = .ok (.iload_n 3, 1) := by decide +kernel
theorem dX11_mayAll_97 : decode cX11_mayAll 97 = .ok (.iaload, 1) := by decide +kernel
theorem dX11_mayAll_98 : decode cX11_mayAll 98 = .ok (.iconst (-1), 1) := by decide +kernel
theorem dX11_mayAll_99 : decode cX11_mayAll 99 = .ok (.if_icmp .eq 17, 3) := by decide +kernel
theorem dX11_mayAll_102 : decode cX11_mayAll 102 = .ok (.aload_n 0, 1) := by decide +kernel
theorem dX11_mayAll_103 : decode cX11_mayAll 103 = .ok (.getfield 41, 3) := by decide +kernel
theorem dX11_mayAll_106 : decode cX11_mayAll 106 = .ok (.sipush 512, 3) := by decide +kernel
theorem dX11_mayAll_109 : decode cX11_mayAll 109 = .ok (.iload_n 3, 1) := by decide +kernel
theorem dX11_mayAll_110 : decode cX11_mayAll 110 = .ok (.imul, 1) := by decide +kernel
theorem dX11_mayAll_111 : decode cX11_mayAll 111 = .ok (.iload_n 1, 1) := by decide +kernel
theorem dX11_mayAll_112 : decode cX11_mayAll 112 = .ok (.iadd, 1) := by decide +kernel
theorem dX11_mayAll_113 : decode cX11_mayAll 113 = .ok (.baload, 1) := by decide +kernel
theorem dX11_mayAll_114 : decode cX11_mayAll 114 = .ok (.istore 4, 2) := by decide +kernel
theorem dX11_mayAll_116 : decode cX11_mayAll 116 = .ok (.aload_n 0, 1) := by decide +kernel
theorem dX11_mayAll_117 : decode cX11_mayAll 117 = .ok (.getfield 63, 3) := by decide +kernel
theorem dX11_mayAll_120 : decode cX11_mayAll 120 = .ok (.iload_n 3, 1) := by decide +kernel
theorem dX11_mayAll_121 : decode cX11_mayAll 121 = .ok (.iload 4, 2) := by decide +kernel
theorem dX11_mayAll_123 : decode cX11_mayAll 123 = .ok (.bastore, 1) := by decide +kernel
theorem dX11_mayAll_124 : decode cX11_mayAll 124 = .ok (.aload_n 0, 1) := by decide +kernel
theorem dX11_mayAll_125 : decode cX11_mayAll 125 = .ok (.getfield 66, 3) := by decide +kernel
theorem dX11_mayAll_128 : decode cX11_mayAll 128 = .ok (.iload_n 3, 1) := by decide +kernel
theorem dX11_mayAll_129 : decode cX11_mayAll 129 = .ok (.iload 4, 2) := by decide +kernel
theorem dX11_mayAll_131 : decode cX11_mayAll 131 = .ok (.bastore, 1) := by decide +kernel
theorem dX11_mayAll_132 : decode cX11_mayAll 132 = .ok (.aload_n 0, 1) := by decide +kernel
theorem dX11_mayAll_133 : decode cX11_mayAll 133 = .ok (.getfield 16, 3) := by decide +kernel
theorem dX11_mayAll_136 : decode cX11_mayAll 136 = .ok (.iload_n 3, 1) := by decide +kernel
theorem dX11_mayAll_137 : decode cX11_mayAll 137 = .ok (.iaload, 1) := by decide +kernel
theorem dX11_mayAll_138 : decode cX11_mayAll 138 = .ok (.iconst 2, 1) := by decide +kernel
theorem dX11_mayAll_139 : decode cX11_mayAll 139 = .ok (.if_icmp .ne 30, 3) := by decide +kernel
theorem dX11_mayAll_142 : decode cX11_mayAll 142 = .ok (.aload_n 0, 1) := by decide +kernel
theorem dX11_mayAll_143 : decode cX11_mayAll 143 = .ok (.getfield 63, 3) := by decide +kernel
theorem dX11_mayAll_146 : decode cX11_mayAll 146 = .ok (.iload_n 3, 1) := by decide +kernel
theorem dX11_mayAll_147 : decode cX11_mayAll 147 = .ok (.aload_n 0, 1) := by decide +kernel
theorem dX11_mayAll_148 : decode cX11_mayAll 148 = .ok (.iload_n 3, 1) := by decide +kernel
theorem dX11_mayAll_149 : decode cX11_mayAll 149 = .ok (.iconst 0, 1) := by decide +kernel
theorem dX11_mayAll_150 : decode cX11_mayAll 150 = .ok (.invokevirtual 141, 3) := by decide +kernel
theorem dX11_mayAll_153 : decode cX11_mayAll 153 = .ok (.bastore, 1) := by decide +kernel
theorem dX11_mayAll_154 : decode cX11_mayAll 154 = .ok (.aload_n 0, 1) := by decide +kernel
theorem dX11_mayAll_155 : decode cX11_mayAll 155 = .ok (.getfield 66, 3) := by decide +kernel
theorem dX11_mayAll_158 : decode cX11_mayAll 158 = .ok (.iload_n 3, 1) := by decide +kernel
theorem dX11_mayAll_159 : decode cX11_mayAll 159 = .ok (.aload_n 0, 1) := by decide +kernel
theorem dX11_mayAll_160 : decode cX11_mayAll 160 = .ok (.iload_n 3, 1) := by decide +kernel
theorem dX11_mayAll_161 : decode cX11_mayAll 161 = .ok (.iconst 1, 1) := by decide +kernel
theorem dX11_mayAll_162 : decode cX11_mayAll 162 = .ok (.invokevirtual 141, 3) := by decide +kernel
theorem dX11_mayAll_165 : decode cX11_mayAll 165 = .ok (.bastore, 1) := by decide +kernel
theorem dX11_mayAll_166 : decode cX11_mayAll 166 = .ok (.goto 198, 3) := by decide +kernel
theorem dX11_mayAll_169 : decode cX11_mayAll 169 = .ok (.aload_n 0, 1) := by decide +kernel
theorem dX11_mayAll_170 : decode cX11_mayAll 170 = .ok (.getfield 16, 3) := by decide +kernel
theorem dX11_mayAll_173 : decode cX11_mayAll 173 = .ok (.iload_n 3, 1) := by decide +kernel
theorem dX11_mayAll_174 : decode cX11_mayAll 174 = .ok (.iaload, 1) := by decide +kernel
theorem dX11_mayAll_175 : decode cX11_mayAll 175 = .ok (.iconst 3, 1) := by decide +kernel
theorem dX11_mayAll_176 : decode cX11_mayAll 176 = .ok (.if_icmp .ne 106, 3) := by decide +kernel
theorem dX11_mayAll_179 : decode cX11_mayAll 179 = .ok (.iconst 0, 1) := by decide +kernel
theorem dX11_mayAll_180 : decode cX11_mayAll 180 = .ok (.istore 5, 2) := by decide +kernel
theorem dX11_mayAll_182 : decode cX11_mayAll 182 = .ok (.iload 5, 2) := by decide +kernel
theorem dX11_mayAll_184 : decode cX11_mayAll 184 = .ok (.aload_n 0, 1) := by decide +kernel
theorem dX11_mayAll_185 : decode cX11_mayAll 185 = .ok (.getfield 25, 3) := by decide +kernel
theorem dX11_mayAll_188 : decode cX11_mayAll 188 = .ok (.iload_n 3, 1) := by decide +kernel
theorem dX11_mayAll_189 : decode cX11_mayAll 189 = .ok (.iaload, 1) := by decide +kernel
theorem dX11_mayAll_190 : decode cX11_mayAll 190 = .ok (.if_icmp .ge 89, 3) := by decide +kernel
theorem dX11_mayAll_193 : decode cX11_mayAll 193 = .ok (.aload_n 0, 1) := by decide +kernel
theorem dX11_mayAll_194 : decode cX11_mayAll 194 = .ok (.getfield 63, 3) := by decide +kernel
theorem dX11_mayAll_197 : decode cX11_mayAll 197 = .ok (.iload_n 3, 1) := by decide +kernel
theorem dX11_mayAll_198 : decode cX11_mayAll 198 = .ok (.aload_n 0, 1) := by decide +kernel
theorem dX11_mayAll_199 : decode cX11_mayAll 199 = .ok (.getfield 63, 3) := by decide +kernel
theorem dX11_mayAll_202 : decode cX11_mayAll 202 = .ok (.iload_n 3, 1) := by decide +kernel
theorem dX11_mayAll_203 : decode cX11_mayAll 203 = .ok (.baload, 1) := by decide +kernel
theorem dX11_mayAll_204 : decode cX11_mayAll 204 = .ok (.ifCond .ne 23, 3) := by decide +kernel
theorem dX11_mayAll_207 : decode cX11_mayAll 207 = .ok (.aload_n 0, 1) := by decide +kernel
theorem dX11_mayAll_208 : decode cX11_mayAll 208 = .ok (.getfield 63, 3) := by decide +kernel
theorem dX11_mayAll_211 : decode cX11_mayAll 211 = .ok (.aload_n 0, 1) := by decide +kernel
theorem dX11_mayAll_212 : decode cX11_mayAll 212 = .ok (.getfield 31, 3) := by decide +kernel
theorem dX11_mayAll_215 : decode cX11_mayAll 215 = .ok (.bipush 8, 2) := by decide +kernel
theorem dX11_mayAll_217 : decode cX11_mayAll 217 = .ok (.iload_n 3, 1) := by decide +kernel
theorem dX11_mayAll_218 : decode cX11_mayAll 218 = .ok (.imul, 1) := by decide +kernel
theorem dX11_mayAll_219 : decode cX11_mayAll 219 = .ok (.iload 5, 2) := by decide +kernel
theorem dX11_mayAll_221 : decode cX11_mayAll 221 = .ok (.iadd, 1) := by decide +kernel
theorem dX11_mayAll_222 : decode cX11_mayAll 222 = .ok (.iaload, 1) := by decide +kernel
theorem dX11_mayAll_223 : decode cX11_mayAll 223 = .ok (.baload, 1) := by decide +kernel
theorem dX11_mayAll_224 : decode cX11_mayAll 224 = .ok (.ifCond .eq 7, 3) := by decide +kernel
theorem dX11_mayAll_227 : decode cX11_mayAll 227 = .ok (.iconst 1, 1) := by decide +kernel
theorem dX11_mayAll_228 : decode cX11_mayAll 228 = .ok (.goto 4, 3) := by decide +kernel
theorem dX11_mayAll_231 : decode cX11_mayAll 231 = .ok (.iconst 0, 1) := by decide +kernel
theorem dX11_mayAll_232 : decode cX11_mayAll 232 = .ok (.bastore, 1) := by decide +kernel
theorem dX11_mayAll_233 : decode cX11_mayAll 233 = .ok (.aload_n 0, 1) := by decide +kernel
theorem dX11_mayAll_234 : decode cX11_mayAll 234 = .ok (.getfield 66, 3) := by decide +kernel
theorem dX11_mayAll_237 : decode cX11_mayAll 237 = .ok (.iload_n 3, 1) := by decide +kernel
theorem dX11_mayAll_238 : decode cX11_mayAll 238 = .ok (.aload_n 0, 1) := by decide +kernel
theorem dX11_mayAll_239 : decode cX11_mayAll 239 = .ok (.getfield 66, 3) := by decide +kernel
theorem dX11_mayAll_242 : decode cX11_mayAll 242 = .ok (.iload_n 3, 1) := by decide +kernel
theorem dX11_mayAll_243 : decode cX11_mayAll 243 = .ok (.baload, 1) := by decide +kernel
theorem dX11_mayAll_244 : decode cX11_mayAll 244 = .ok (.ifCond .ne 23, 3) := by decide +kernel
theorem dX11_mayAll_247 : decode cX11_mayAll 247 = .ok (.aload_n 0, 1) := by decide +kernel
theorem dX11_mayAll_248 : decode cX11_mayAll 248 = .ok (.getfield 66, 3) := by decide +kernel
theorem dX11_mayAll_251 : decode cX11_mayAll 251 = .ok (.aload_n 0, 1) := by decide +kernel
theorem dX11_mayAll_252 : decode cX11_mayAll 252 = .ok (.getfield 31, 3) := by decide +kernel
theorem dX11_mayAll_255 : decode cX11_mayAll 255 = .ok (.bipush 8, 2) := by decide +kernel
theorem dX11_mayAll_257 : decode cX11_mayAll 257 = .ok (.iload_n 3, 1) := by decide +kernel
theorem dX11_mayAll_258 : decode cX11_mayAll 258 = .ok (.imul, 1) := by decide +kernel
theorem dX11_mayAll_259 : decode cX11_mayAll 259 = .ok (.iload 5, 2) := by decide +kernel
theorem dX11_mayAll_261 : decode cX11_mayAll 261 = .ok (.iadd, 1) := by decide +kernel
theorem dX11_mayAll_262 : decode cX11_mayAll 262 = .ok (.iaload, 1) := by decide +kernel
theorem dX11_mayAll_263 : decode cX11_mayAll 263 = .ok (.baload, 1) := by decide +kernel
theorem dX11_mayAll_264 : decode cX11_mayAll 264 = .ok (.ifCond .eq 7, 3) := by decide +kernel
theorem dX11_mayAll_267 : decode cX11_mayAll 267 = .ok (.iconst 1, 1) := by decide +kernel
theorem dX11_mayAll_268 : decode cX11_mayAll 268 = .ok (.goto 4, 3) := by decide +kernel
theorem dX11_mayAll_271 : decode cX11_mayAll 271 = .ok (.iconst 0, 1) := by decide +kernel
theorem dX11_mayAll_272 : decode cX11_mayAll 272 = .ok (.bastore, 1) := by decide +kernel
theorem dX11_mayAll_273 : decode cX11_mayAll 273 = .ok (.iinc 5 1, 3) := by decide +kernel
theorem dX11_mayAll_276 : decode cX11_mayAll 276 = .ok (.goto (-94), 3) := by decide +kernel
theorem dX11_mayAll_279 : decode cX11_mayAll 279 = .ok (.goto 85, 3) := by decide +kernel
theorem dX11_mayAll_282 : decode cX11_mayAll 282 = .ok (.aload_n 0, 1) := by decide +kernel
theorem dX11_mayAll_283 : decode cX11_mayAll 283 = .ok (.getfield 25, 3) := by decide +kernel
theorem dX11_mayAll_286 : decode cX11_mayAll 286 = .ok (.iload_n 3, 1) := by decide +kernel
theorem dX11_mayAll_287 : decode cX11_mayAll 287 = .ok (.iaload, 1) := by decide +kernel
theorem dX11_mayAll_288 : decode cX11_mayAll 288 = .ok (.ifCond .le 76, 3) := by decide +kernel
theorem dX11_mayAll_291 : decode cX11_mayAll 291 = .ok (.aload_n 0, 1) := by decide +kernel
theorem dX11_mayAll_292 : decode cX11_mayAll 292 = .ok (.getfield 16, 3) := by decide +kernel
theorem dX11_mayAll_295 : decode cX11_mayAll 295 = .ok (.iload_n 3, 1) := by decide +kernel
theorem dX11_mayAll_296 : decode cX11_mayAll 296 = .ok (.iaload, 1) := by decide +kernel
theorem dX11_mayAll_297 : decode cX11_mayAll 297 = .ok (.bipush 6, 2) := by decide +kernel
theorem dX11_mayAll_299 : decode cX11_mayAll 299 = .ok (.if_icmp .ne 13, 3) := by decide +kernel
theorem dX11_mayAll_302 : decode cX11_mayAll 302 = .ok (.aload_n 0, 1) := by decide +kernel
theorem dX11_mayAll_303 : decode cX11_mayAll 303 = .ok (.getfield 37, 3) := by decide +kernel
theorem dX11_mayAll_306 : decode cX11_mayAll 306 = .ok (.iload_n 3, 1) := by decide +kernel
theorem dX11_mayAll_307 : decode cX11_mayAll 307 = .ok (.iaload, 1) := by decide +kernel
theorem dX11_mayAll_308 : decode cX11_mayAll 308 = .ok (.iconst (-1), 1) := by decide +kernel
theorem dX11_mayAll_309 : decode cX11_mayAll 309 = .ok (.if_icmp .ne 55, 3) := by decide +kernel
theorem dX11_mayAll_312 : decode cX11_mayAll 312 = .ok (.aload_n 0, 1) := by decide +kernel
theorem dX11_mayAll_313 : decode cX11_mayAll 313 = .ok (.getfield 63, 3) := by decide +kernel
theorem dX11_mayAll_316 : decode cX11_mayAll 316 = .ok (.iload_n 3, 1) := by decide +kernel
theorem dX11_mayAll_317 : decode cX11_mayAll 317 = .ok (.aload_n 0, 1) := by decide +kernel
theorem dX11_mayAll_318 : decode cX11_mayAll 318 = .ok (.getfield 63, 3) := by decide +kernel
theorem dX11_mayAll_321 : decode cX11_mayAll 321 = .ok (.aload_n 0, 1) := by decide +kernel
theorem dX11_mayAll_322 : decode cX11_mayAll 322 = .ok (.getfield 19, 3) := by decide +kernel
theorem dX11_mayAll_325 : decode cX11_mayAll 325 = .ok (.iload_n 3, 1) := by decide +kernel
theorem dX11_mayAll_326 : decode cX11_mayAll 326 = .ok (.iaload, 1) := by decide +kernel
theorem dX11_mayAll_327 : decode cX11_mayAll 327 = .ok (.baload, 1) := by decide +kernel
theorem dX11_mayAll_328 : decode cX11_mayAll 328 = .ok (.bastore, 1) := by decide +kernel
theorem dX11_mayAll_329 : decode cX11_mayAll 329 = .ok (.aload_n 0, 1) := by decide +kernel
theorem dX11_mayAll_330 : decode cX11_mayAll 330 = .ok (.getfield 66, 3) := by decide +kernel
theorem dX11_mayAll_333 : decode cX11_mayAll 333 = .ok (.iload_n 3, 1) := by decide +kernel
theorem dX11_mayAll_334 : decode cX11_mayAll 334 = .ok (.aload_n 0, 1) := by decide +kernel
theorem dX11_mayAll_335 : decode cX11_mayAll 335 = .ok (.getfield 16, 3) := by decide +kernel
theorem dX11_mayAll_338 : decode cX11_mayAll 338 = .ok (.iload_n 3, 1) := by decide +kernel
theorem dX11_mayAll_339 : decode cX11_mayAll 339 = .ok (.iaload, 1) := by decide +kernel
theorem dX11_mayAll_340 : decode cX11_mayAll 340 = .ok (.iconst 5, 1) := by decide +kernel
theorem dX11_mayAll_341 : decode cX11_mayAll 341 = .ok (.if_icmp .eq 21, 3) := by decide +kernel
theorem dX11_mayAll_344 : decode cX11_mayAll 344 = .ok (.aload_n 0, 1) := by decide +kernel
theorem dX11_mayAll_345 : decode cX11_mayAll 345 = .ok (.getfield 66, 3) := by decide +kernel
theorem dX11_mayAll_348 : decode cX11_mayAll 348 = .ok (.aload_n 0, 1) := by decide +kernel
theorem dX11_mayAll_349 : decode cX11_mayAll 349 = .ok (.getfield 19, 3) := by decide +kernel
theorem dX11_mayAll_352 : decode cX11_mayAll 352 = .ok (.iload_n 3, 1) := by decide +kernel
theorem dX11_mayAll_353 : decode cX11_mayAll 353 = .ok (.iaload, 1) := by decide +kernel
theorem dX11_mayAll_354 : decode cX11_mayAll 354 = .ok (.baload, 1) := by decide +kernel
theorem dX11_mayAll_355 : decode cX11_mayAll 355 = .ok (.ifCond .eq 7, 3) := by decide +kernel
theorem dX11_mayAll_358 : decode cX11_mayAll 358 = .ok (.iconst 1, 1) := by decide +kernel
theorem dX11_mayAll_359 : decode cX11_mayAll 359 = .ok (.goto 4, 3) := by decide +kernel
theorem dX11_mayAll_362 : decode cX11_mayAll 362 = .ok (.iconst 0, 1) := by decide +kernel
theorem dX11_mayAll_363 : decode cX11_mayAll 363 = .ok (.bastore, 1) := by decide +kernel
theorem dX11_mayAll_364 : decode cX11_mayAll 364 = .ok (.iinc 3 1, 3) := by decide +kernel
theorem dX11_mayAll_367 : decode cX11_mayAll 367 = .ok (.goto (-365), 3) := by decide +kernel
theorem dX11_mayAll_370 : decode cX11_mayAll 370 = .ok (.return_, 1) := by decide +kernel
theorem dX11_fits_0 : decode cX11_fits 0 = .ok (.iconst 1, 1) := by decide +kernel
theorem dX11_fits_1 : decode cX11_fits 1 = .ok (.istore_n 3, 1) := by decide +kernel
theorem dX11_fits_2 : decode cX11_fits 2 = .ok (.iconst 0, 1) := by decide +kernel
theorem dX11_fits_3 : decode cX11_fits 3 = .ok (.istore 4, 2) := by decide +kernel
theorem dX11_fits_5 : decode cX11_fits 5 = .ok (.iconst 0, 1) := by decide +kernel
theorem dX11_fits_6 : decode cX11_fits 6 = .ok (.istore 5, 2) := by decide +kernel
theorem dX11_fits_8 : decode cX11_fits 8 = .ok (.iconst 0, 1) := by decide +kernel
theorem dX11_fits_9 : decode cX11_fits 9 = .ok (.istore 6, 2) := by decide +kernel
theorem dX11_fits_11 : decode cX11_fits 11 = .ok (.iload 6, 2) := by decide +kernel
theorem dX11_fits_13 : decode cX11_fits 13 = .ok (.aload_n 0, 1) := by decide +kernel
theorem dX11_fits_14 : decode cX11_fits 14 = .ok (.getfield 25, 3) := by decide +kernel
theorem dX11_fits_17 : decode cX11_fits 17 = .ok (.iload_n 1, 1) := by decide +kernel
theorem dX11_fits_18 : decode cX11_fits 18 = .ok (.iaload, 1) := by decide +kernel
theorem dX11_fits_19 : decode cX11_fits 19 = .ok (.if_icmp .ge 147, 3) := by decide +kernel
theorem dX11_fits_22 : decode cX11_fits 22 = .ok (.aload_n 0, 1) := by decide +kernel
theorem dX11_fits_23 : decode cX11_fits 23 = .ok (.getfield 31, 3) := by decide +kernel
theorem dX11_fits_26 : decode cX11_fits 26 = .ok (.bipush 8, 2) := by decide +kernel
theorem dX11_fits_28 : decode cX11_fits 28 = .ok (.iload_n 1, 1) := by decide +kernel
theorem dX11_fits_29 : decode cX11_fits 29 = .ok (.imul, 1) := by decide +kernel
theorem dX11_fits_30 : decode cX11_fits 30 = .ok (.iload 6, 2) := by decide +kernel
theorem dX11_fits_32 : decode cX11_fits 32 = .ok (.iadd, 1) := by decide +kernel
theorem dX11_fits_33 : decode cX11_fits 33 = .ok (.iaload, 1) := by decide +kernel
theorem dX11_fits_34 : decode cX11_fits 34 = .ok (.istore 7, 2) := by decide +kernel
theorem dX11_fits_36 : decode cX11_fits 36 = .ok (.aload_n 0, 1) := by decide +kernel
theorem dX11_fits_37 : decode cX11_fits 37 = .ok (.getfield 28, 3) := by decide +kernel
theorem dX11_fits_40 : decode cX11_fits 40 = .ok (.bipush 8, 2) := by decide +kernel
theorem dX11_fits_42 : decode cX11_fits 42 = .ok (.iload_n 1, 1) := by decide +kernel
theorem dX11_fits_43 : decode cX11_fits 43 = .ok (.imul, 1) := by decide +kernel
theorem dX11_fits_44 : decode cX11_fits 44 = .ok (.iload 6, 2) := by decide +kernel
theorem dX11_fits_46 : decode cX11_fits 46 = .ok (.iadd, 1) := by decide +kernel
theorem dX11_fits_47 : decode cX11_fits 47 = .ok (.iaload, 1) := by decide +kernel
theorem dX11_fits_48 : decode cX11_fits 48 = .ok (.istore 8, 2) := by decide +kernel
theorem dX11_fits_50 : decode cX11_fits 50 = .ok (.iload_n 2, 1) := by decide +kernel
theorem dX11_fits_51 : decode cX11_fits 51 = .ok (.iload 8, 2) := by decide +kernel
theorem dX11_fits_53 : decode cX11_fits 53 = .ok (.iconst 2, 1) := by decide +kernel
theorem dX11_fits_54 : decode cX11_fits 54 = .ok (.if_icmp .eq 7, 3) := by decide +kernel
theorem dX11_fits_57 : decode cX11_fits 57 = .ok (.iconst 1, 1) := by decide +kernel
theorem dX11_fits_58 : decode cX11_fits 58 = .ok (.goto 4, 3) := by decide +kernel
theorem dX11_fits_61 : decode cX11_fits 61 = .ok (.iconst 0, 1) := by decide +kernel
theorem dX11_fits_62 : decode cX11_fits 62 = .ok (.if_icmp .ne 13, 3) := by decide +kernel
theorem dX11_fits_65 : decode cX11_fits 65 = .ok (.aload_n 0, 1) := by decide +kernel
theorem dX11_fits_66 : decode cX11_fits 66 = .ok (.getfield 66, 3) := by decide +kernel
theorem dX11_fits_69 : decode cX11_fits 69 = .ok (.iload 7, 2) := by decide +kernel
theorem dX11_fits_71 : decode cX11_fits 71 = .ok (.baload, 1) := by decide +kernel
theorem dX11_fits_72 : decode cX11_fits 72 = .ok (.goto 10, 3) := by decide +kernel
theorem dX11_fits_75 : decode cX11_fits 75 = .ok (.aload_n 0, 1) := by decide +kernel
theorem dX11_fits_76 : decode cX11_fits 76 = .ok (.getfield 63, 3) := by decide +kernel
theorem dX11_fits_79 : decode cX11_fits 79 = .ok (.iload 7, 2) := by decide +kernel
theorem dX11_fits_81 : decode cX11_fits 81 = .ok (.baload, 1) := by decide +kernel
theorem dX11_fits_82 : decode cX11_fits 82 = .ok (.istore 9, 2) := by decide +kernel
theorem dX11_fits_84 : decode cX11_fits 84 = .ok (.iload_n 3, 1) := by decide +kernel
theorem dX11_fits_85 : decode cX11_fits 85 = .ok (.ifCond .eq 29, 3) := by decide +kernel
theorem dX11_fits_88 : decode cX11_fits 88 = .ok (.iload 8, 2) := by decide +kernel
theorem dX11_fits_90 : decode cX11_fits 90 = .ok (.iconst 3, 1) := by decide +kernel
theorem dX11_fits_91 : decode cX11_fits 91 = .ok (.if_icmp .eq 19, 3) := by decide +kernel
theorem dX11_fits_94 : decode cX11_fits 94 = .ok (.iload 9, 2) := by decide +kernel
theorem dX11_fits_96 : decode cX11_fits 96 = .ok (.iload 8, 2) := by decide +kernel
theorem dX11_fits_98 : decode cX11_fits 98 = .ok (.iconst 2, 1) := by decide +kernel
theorem dX11_fits_99 : decode cX11_fits 99 = .ok (.if_icmp .eq 7, 3) := by decide +kernel
theorem dX11_fits_102 : decode cX11_fits 102 = .ok (.iconst 1, 1) := by decide +kernel
theorem dX11_fits_103 : decode cX11_fits 103 = .ok (.goto 4, 3) := by decide +kernel
theorem dX11_fits_106 : decode cX11_fits 106 = .ok (.iconst 0, 1) := by decide +kernel
theorem dX11_fits_107 : decode cX11_fits 107 = .ok (.if_icmp .ne 7, 3) := by decide +kernel
theorem dX11_fits_110 : decode cX11_fits 110 = .ok (.iconst 1, 1) := by decide +kernel
theorem dX11_fits_111 : decode cX11_fits 111 = .ok (.goto 4, 3) := by decide +kernel
theorem dX11_fits_114 : decode cX11_fits 114 = .ok (.iconst 0, 1) := by decide +kernel
theorem dX11_fits_115 : decode cX11_fits 115 = .ok (.istore_n 3, 1) := by decide +kernel
theorem dX11_fits_116 : decode cX11_fits 116 = .ok (.iload 4, 2) := by decide +kernel
theorem dX11_fits_118 : decode cX11_fits 118 = .ok (.ifCond .ne 14, 3) := by decide +kernel
theorem dX11_fits_121 : decode cX11_fits 121 = .ok (.iload 8, 2) := by decide +kernel
theorem dX11_fits_123 : decode cX11_fits 123 = .ok (.iconst 2, 1) := by decide +kernel
theorem dX11_fits_124 : decode cX11_fits 124 = .ok (.if_icmp .eq 12, 3) := by decide +kernel
theorem dX11_fits_127 : decode cX11_fits 127 = .ok (.iload 9, 2) := by decide +kernel
theorem dX11_fits_129 : decode cX11_fits 129 = .ok (.ifCond .eq 7, 3) := by decide +kernel
theorem dX11_fits_132 : decode cX11_fits 132 = .ok (.iconst 1, 1) := by decide +kernel
theorem dX11_fits_133 : decode cX11_fits 133 = .ok (.goto 4, 3) := by decide +kernel
theorem dX11_fits_136 : decode cX11_fits 136 = .ok (.iconst 0, 1) := by decide +kernel
theorem dX11_fits_137 : decode cX11_fits 137 = .ok (.istore 4, 2) := by decide +kernel
theorem dX11_fits_139 : decode cX11_fits 139 = .ok (.iload 5, 2) := by decide +kernel
theorem dX11_fits_141 : decode cX11_fits 141 = .ok (.iload 8, 2) := by decide +kernel
theorem dX11_fits_143 : decode cX11_fits 143 = .ok (.iconst 3, 1) := by decide +kernel
theorem dX11_fits_144 : decode cX11_fits 144 = .ok (.if_icmp .ne 12, 3) := by decide +kernel
theorem dX11_fits_147 : decode cX11_fits 147 = .ok (.iload 9, 2) := by decide +kernel
theorem dX11_fits_149 : decode cX11_fits 149 = .ok (.ifCond .eq 7, 3) := by decide +kernel
theorem dX11_fits_152 : decode cX11_fits 152 = .ok (.iconst 1, 1) := by decide +kernel
theorem dX11_fits_153 : decode cX11_fits 153 = .ok (.goto 4, 3) := by decide +kernel
theorem dX11_fits_156 : decode cX11_fits 156 = .ok (.iconst 0, 1) := by decide +kernel
theorem dX11_fits_157 : decode cX11_fits 157 = .ok (.iadd, 1) := by decide +kernel
theorem dX11_fits_158 : decode cX11_fits 158 = .ok (.istore 5, 2) := by decide +kernel
theorem dX11_fits_160 : decode cX11_fits 160 = .ok (.iinc 6 1, 3) := by decide +kernel
theorem dX11_fits_163 : decode cX11_fits 163 = .ok (.goto (-152), 3) := by decide +kernel
theorem dX11_fits_166 : decode cX11_fits 166 = .ok (.iload_n 3, 1) := by decide +kernel
theorem dX11_fits_167 : decode cX11_fits 167 = .ok (.ifCond .eq 23, 3) := by decide +kernel
theorem dX11_fits_170 : decode cX11_fits 170 = .ok (.iload 4, 2) := by decide +kernel
theorem dX11_fits_172 : decode cX11_fits 172 = .ok (.ifCond .eq 18, 3) := by decide +kernel
theorem dX11_fits_175 : decode cX11_fits 175 = .ok (.iload 5, 2) := by decide +kernel
theorem dX11_fits_177 : decode cX11_fits 177 = .ok (.aload_n 0, 1) := by decide +kernel
theorem dX11_fits_178 : decode cX11_fits 178 = .ok (.getfield 19, 3) := by decide +kernel
theorem dX11_fits_181 : decode cX11_fits 181 = .ok (.iload_n 1, 1) := by decide +kernel
theorem dX11_fits_182 : decode cX11_fits 182 = .ok (.iaload, 1) := by decide +kernel
theorem dX11_fits_183 : decode cX11_fits 183 = .ok (.if_icmp .lt 7, 3) := by decide +kernel
theorem dX11_fits_186 : decode cX11_fits 186 = .ok (.iconst 1, 1) := by decide +kernel
theorem dX11_fits_187 : decode cX11_fits 187 = .ok (.goto 4, 3) := by decide +kernel
theorem dX11_fits_190 : decode cX11_fits 190 = .ok (.iconst 0, 1) := by decide +kernel
theorem dX11_fits_191 : decode cX11_fits 191 = .ok (.ireturn, 1) := by decide +kernel
theorem dX11_may_0 : decode cX11_may 0 = .ok (.aload_n 0, 1) := by decide +kernel
theorem dX11_may_1 : decode cX11_may 1 = .ok (.iload_n 1, 1) := by decide +kernel
theorem dX11_may_2 : decode cX11_may 2 = .ok (.invokevirtual 123, 3) := by decide +kernel
theorem dX11_may_5 : decode cX11_may 5 = .ok (.ifCond .eq 10, 3) := by decide +kernel
theorem dX11_may_8 : decode cX11_may 8 = .ok (.iload_n 2, 1) := by decide +kernel
theorem dX11_may_9 : decode cX11_may 9 = .ok (.invokestatic 115, 3) := by decide +kernel
theorem dX11_may_12 : decode cX11_may 12 = .ok (.ifCond .ne 5, 3) := by decide +kernel
theorem dX11_may_15 : decode cX11_may 15 = .ok (.iconst 0, 1) := by decide +kernel
theorem dX11_may_16 : decode cX11_may 16 = .ok (.ireturn, 1) := by decide +kernel
theorem dX11_may_17 : decode cX11_may 17 = .ok (.aload_n 0, 1) := by decide +kernel
theorem dX11_may_18 : decode cX11_may 18 = .ok (.iload_n 2, 1) := by decide +kernel
theorem dX11_may_19 : decode cX11_may 19 = .ok (.iload_n 1, 1) := by decide +kernel
theorem dX11_may_20 : decode cX11_may 20 = .ok (.invokevirtual 145, 3) := by decide +kernel
theorem dX11_may_23 : decode cX11_may 23 = .ok (.aload_n 0, 1) := by decide +kernel
theorem dX11_may_24 : decode cX11_may 24 = .ok (.getfield 63, 3) := by decide +kernel
theorem dX11_may_27 : decode cX11_may 27 = .ok (.iload_n 1, 1) := by decide +kernel
theorem dX11_may_28 : decode cX11_may 28 = .ok (.baload, 1) := by decide +kernel
theorem dX11_may_29 : decode cX11_may 29 = .ok (.ireturn, 1) := by decide +kernel
theorem dX11_sure_0 : decode cX11_sure 0 = .ok (.aload_n 0, 1) := by decide +kernel
theorem dX11_sure_1 : decode cX11_sure 1 = .ok (.iload_n 1, 1) := by decide +kernel
theorem dX11_sure_2 : decode cX11_sure 2 = .ok (.invokevirtual 123, 3) := by decide +kernel
theorem dX11_sure_5 : decode cX11_sure 5 = .ok (.ifCond .eq 10, 3) := by decide +kernel
theorem dX11_sure_8 : decode cX11_sure 8 = .ok (.iload_n 2, 1) := by decide +kernel
theorem dX11_sure_9 : decode cX11_sure 9 = .ok (.invokestatic 115, 3) := by decide +kernel
theorem dX11_sure_12 : decode cX11_sure 12 = .ok (.ifCond .ne 5, 3) := by decide +kernel
theorem dX11_sure_15 : decode cX11_sure 15 = .ok (.iconst 0, 1) := by decide +kernel
theorem dX11_sure_16 : decode cX11_sure 16 = .ok (.ireturn, 1) := by decide +kernel
theorem dX11_sure_17 : decode cX11_sure 17 = .ok (.aload_n 0, 1) := by decide +kernel
theorem dX11_sure_18 : decode cX11_sure 18 = .ok (.iload_n 2, 1) := by decide +kernel
theorem dX11_sure_19 : decode cX11_sure 19 = .ok (.iload_n 1, 1) := by decide +kernel
theorem dX11_sure_20 : decode cX11_sure 20 = .ok (.invokevirtual 145, 3) := by decide +kernel
theorem dX11_sure_23 : decode cX11_sure 23 = .ok (.aload_n 0, 1) := by decide +kernel
theorem dX11_sure_24 : decode cX11_sure 24 = .ok (.getfield 66, 3) := by decide +kernel
theorem dX11_sure_27 : decode cX11_sure 27 = .ok (.iload_n 1, 1) := by decide +kernel
theorem dX11_sure_28 : decode cX11_sure 28 = .ok (.baload, 1) := by decide +kernel
theorem dX11_sure_29 : decode cX11_sure 29 = .ok (.ireturn, 1) := by decide +kernel
theorem dX11_come_0 : decode cX11_come 0 = .ok (.aload_n 0, 1) := by decide +kernel
theorem dX11_come_1 : decode cX11_come 1 = .ok (.getfield 69, 3) := by decide +kernel
theorem dX11_come_4 : decode cX11_come 4 = .ok (.iload_n 1, 1) := by decide +kernel
theorem dX11_come_5 : decode cX11_come 5 = .ok (.iaload, 1) := by decide +kernel
theorem dX11_come_6 : decode cX11_come 6 = .ok (.iconst (-1), 1) := by decide +kernel
theorem dX11_come_7 : decode cX11_come 7 = .ok (.if_icmp .eq 4, 3) := by decide +kernel
theorem dX11_come_10 : decode cX11_come 10 = .ok (.return_, 1) := by decide +kernel
theorem dX11_come_11 : decode cX11_come 11 = .ok (.aload_n 0, 1) := by decide +kernel
theorem dX11_come_12 : decode cX11_come 12 = .ok (.getfield 63, 3) := by decide +kernel
theorem dX11_come_15 : decode cX11_come 15 = .ok (.iload_n 1, 1) := by decide +kernel
theorem dX11_come_16 : decode cX11_come 16 = .ok (.baload, 1) := by decide +kernel
theorem dX11_come_17 : decode cX11_come 17 = .ok (.ifCond .ne 11, 3) := by decide +kernel
theorem dX11_come_20 : decode cX11_come 20 = .ok (.aload_n 0, 1) := by decide +kernel
theorem dX11_come_21 : decode cX11_come 21 = .ok (.getfield 69, 3) := by decide +kernel
theorem dX11_come_24 : decode cX11_come 24 = .ok (.iload_n 1, 1) := by decide +kernel
theorem dX11_come_25 : decode cX11_come 25 = .ok (.iconst 0, 1) := by decide +kernel
theorem dX11_come_26 : decode cX11_come 26 = .ok (.iastore, 1) := by decide +kernel
theorem dX11_come_27 : decode cX11_come 27 = .ok (.return_, 1) := by decide +kernel
theorem dX11_come_28 : decode cX11_come 28 = .ok (.aload_n 0, 1) := by decide +kernel
theorem dX11_come_29 : decode cX11_come 29 = .ok (.getfield 79, 3) := by decide +kernel
theorem dX11_come_32 : decode cX11_come 32 = .ok (.iload_n 1, 1) := by decide +kernel
theorem dX11_come_33 : decode cX11_come 33 = .ok (.iconst 0, 1) := by decide +kernel
theorem dX11_come_34 : decode cX11_come 34 = .ok (.iastore, 1) := by decide +kernel
theorem dX11_come_35 : decode cX11_come 35 = .ok (.aload_n 0, 1) := by decide +kernel
theorem dX11_come_36 : decode cX11_come 36 = .ok (.getfield 16, 3) := by decide +kernel
theorem dX11_come_39 : decode cX11_come 39 = .ok (.iload_n 1, 1) := by decide +kernel
theorem dX11_come_40 : decode cX11_come 40 = .ok (.iaload, 1) := by decide +kernel
theorem dX11_come_41 : decode cX11_come 41 = .ok (.iconst 2, 1) := by decide +kernel
theorem dX11_come_42 : decode cX11_come 42 = .ok (.if_icmp .ne 8, 3) := by decide +kernel
theorem dX11_come_45 : decode cX11_come 45 = .ok (.aload_n 0, 1) := by decide +kernel
theorem dX11_come_46 : decode cX11_come 46 = .ok (.iload_n 1, 1) := by decide +kernel
theorem dX11_come_47 : decode cX11_come 47 = .ok (.invokevirtual 149, 3) := by decide +kernel
theorem dX11_come_50 : decode cX11_come 50 = .ok (.aload_n 0, 1) := by decide +kernel
theorem dX11_come_51 : decode cX11_come 51 = .ok (.getfield 82, 3) := by decide +kernel
theorem dX11_come_54 : decode cX11_come 54 = .ok (.aload_n 0, 1) := by decide +kernel
theorem dX11_come_55 : decode cX11_come 55 = .ok (.getfield 152, 3) := by decide +kernel
theorem dX11_come_58 : decode cX11_come 58 = .ok (.iload_n 1, 1) := by decide +kernel
theorem dX11_come_59 : decode cX11_come 59 = .ok (.iastore, 1) := by decide +kernel
theorem dX11_come_60 : decode cX11_come 60 = .ok (.aload_n 0, 1) := by decide +kernel
theorem dX11_come_61 : decode cX11_come 61 = .ok (.dup, 1) := by decide +kernel
theorem dX11_come_62 : decode cX11_come 62 = .ok (.getfield 152, 3) := by decide +kernel
theorem dX11_come_65 : decode cX11_come 65 = .ok (.iconst 1, 1) := by decide +kernel
theorem dX11_come_66 : decode cX11_come 66 = .ok (.iadd, 1) := by decide +kernel
theorem dX11_come_67 : decode cX11_come 67 = .ok (.putfield 152, 3) := by decide +kernel
theorem dX11_come_70 : decode cX11_come 70 = .ok (.return_, 1) := by decide +kernel
theorem dX11_sort_0 : decode cX11_sort 0 = .ok (.iconst 0, 1) := by decide +kernel
theorem dX11_sort_1 : decode cX11_sort 1 = .ok (.istore_n 2, 1) := by decide +kernel
theorem dX11_sort_2 : decode cX11_sort 2 = .ok (.iconst 0, 1) := by decide +kernel
theorem dX11_sort_3 : decode cX11_sort 3 = .ok (.istore_n 3, 1) := by decide +kernel
theorem dX11_sort_4 : decode cX11_sort 4 = .ok (.iload_n 3, 1) := by decide +kernel
theorem dX11_sort_5 : decode cX11_sort 5 = .ok (.aload_n 0, 1) := by decide +kernel
theorem dX11_sort_6 : decode cX11_sort 6 = .ok (.getfield 25, 3) := by decide +kernel
theorem dX11_sort_9 : decode cX11_sort 9 = .ok (.iload_n 1, 1) := by decide +kernel
theorem dX11_sort_10 : decode cX11_sort 10 = .ok (.iaload, 1) := by decide +kernel
theorem dX11_sort_11 : decode cX11_sort 11 = .ok (.if_icmp .ge 132, 3) := by decide +kernel
theorem dX11_sort_14 : decode cX11_sort 14 = .ok (.aload_n 0, 1) := by decide +kernel
theorem dX11_sort_15 : decode cX11_sort 15 = .ok (.getfield 28, 3) := by decide +kernel
theorem dX11_sort_18 : decode cX11_sort 18 = .ok (.bipush 8, 2) := by decide +kernel
theorem dX11_sort_20 : decode cX11_sort 20 = .ok (.iload_n 1, 1) := by decide +kernel
theorem dX11_sort_21 : decode cX11_sort 21 = .ok (.imul, 1) := by decide +kernel
theorem dX11_sort_22 : decode cX11_sort 22 = .ok (.iload_n 3, 1) := by decide +kernel
theorem dX11_sort_23 : decode cX11_sort 23 = .ok (.iadd, 1) := by decide +kernel
theorem dX11_sort_24 : decode cX11_sort 24 = .ok (.iaload, 1) := by decide +kernel
theorem dX11_sort_25 : decode cX11_sort 25 = .ok (.iconst 2, 1) := by decide +kernel
theorem dX11_sort_26 : decode cX11_sort 26 = .ok (.if_icmp .ge 111, 3) := by decide +kernel
theorem dX11_sort_29 : decode cX11_sort 29 = .ok (.aload_n 0, 1) := by decide +kernel
theorem dX11_sort_30 : decode cX11_sort 30 = .ok (.getfield 60, 3) := by decide +kernel
theorem dX11_sort_33 : decode cX11_sort 33 = .ok (.aload_n 0, 1) := by decide +kernel
theorem dX11_sort_34 : decode cX11_sort 34 = .ok (.getfield 31, 3) := by decide +kernel
theorem dX11_sort_37 : decode cX11_sort 37 = .ok (.bipush 8, 2) := by decide +kernel
theorem dX11_sort_39 : decode cX11_sort 39 = .ok (.iload_n 1, 1) := by decide +kernel
theorem dX11_sort_40 : decode cX11_sort 40 = .ok (.imul, 1) := by decide +kernel
theorem dX11_sort_41 : decode cX11_sort 41 = .ok (.iload_n 3, 1) := by decide +kernel
theorem dX11_sort_42 : decode cX11_sort 42 = .ok (.iadd, 1) := by decide +kernel
theorem dX11_sort_43 : decode cX11_sort 43 = .ok (.iaload, 1) := by decide +kernel
theorem dX11_sort_44 : decode cX11_sort 44 = .ok (.iaload, 1) := by decide +kernel
theorem dX11_sort_45 : decode cX11_sort 45 = .ok (.istore 4, 2) := by decide +kernel
theorem dX11_sort_47 : decode cX11_sort 47 = .ok (.iload_n 2, 1) := by decide +kernel
theorem dX11_sort_48 : decode cX11_sort 48 = .ok (.istore 5, 2) := by decide +kernel
theorem dX11_sort_50 : decode cX11_sort 50 = .ok (.iload 5, 2) := by decide +kernel
theorem dX11_sort_52 : decode cX11_sort 52 = .ok (.ifCond .le 69, 3) := by decide +kernel
theorem dX11_sort_55 : decode cX11_sort 55 = .ok (.aload_n 0, 1) := by decide +kernel
theorem dX11_sort_56 : decode cX11_sort 56 = .ok (.getfield 60, 3) := by decide +kernel
theorem dX11_sort_59 : decode cX11_sort 59 = .ok (.aload_n 0, 1) := by decide +kernel
theorem dX11_sort_60 : decode cX11_sort 60 = .ok (.getfield 31, 3) := by decide +kernel
theorem dX11_sort_63 : decode cX11_sort 63 = .ok (.bipush 8, 2) := by decide +kernel
theorem dX11_sort_65 : decode cX11_sort 65 = .ok (.iload_n 1, 1) := by decide +kernel
theorem dX11_sort_66 : decode cX11_sort 66 = .ok (.imul, 1) := by decide +kernel
theorem dX11_sort_67 : decode cX11_sort 67 = .ok (.aload_n 0, 1) := by decide +kernel
theorem dX11_sort_68 : decode cX11_sort 68 = .ok (.getfield 76, 3) := by decide +kernel
theorem dX11_sort_71 : decode cX11_sort 71 = .ok (.bipush 8, 2) := by decide +kernel
theorem dX11_sort_73 : decode cX11_sort 73 = .ok (.iload_n 1, 1) := by decide +kernel
theorem dX11_sort_74 : decode cX11_sort 74 = .ok (.imul, 1) := by decide +kernel
theorem dX11_sort_75 : decode cX11_sort 75 = .ok (.iload 5, 2) := by decide +kernel
theorem dX11_sort_77 : decode cX11_sort 77 = .ok (.iadd, 1) := by decide +kernel
theorem dX11_sort_78 : decode cX11_sort 78 = .ok (.iconst 1, 1) := by decide +kernel
theorem dX11_sort_79 : decode cX11_sort 79 = .ok (.isub, 1) := by decide +kernel
theorem dX11_sort_80 : decode cX11_sort 80 = .ok (.iaload, 1) := by decide +kernel
theorem dX11_sort_81 : decode cX11_sort 81 = .ok (.iadd, 1) := by decide +kernel
theorem dX11_sort_82 : decode cX11_sort 82 = .ok (.iaload, 1) := by decide +kernel
theorem dX11_sort_83 : decode cX11_sort 83 = .ok (.iaload, 1) := by decide +kernel
theorem dX11_sort_84 : decode cX11_sort 84 = .ok (.iload 4, 2) := by decide +kernel
theorem dX11_sort_86 : decode cX11_sort 86 = .ok (.if_icmp .le 35, 3) := by decide +kernel
theorem dX11_sort_89 : decode cX11_sort 89 = .ok (.aload_n 0, 1) := by decide +kernel
theorem dX11_sort_90 : decode cX11_sort 90 = .ok (.getfield 76, 3) := by decide +kernel
theorem dX11_sort_93 : decode cX11_sort 93 = .ok (.bipush 8, 2) := by decide +kernel
theorem dX11_sort_95 : decode cX11_sort 95 = .ok (.iload_n 1, 1) := by decide +kernel
theorem dX11_sort_96 : decode cX11_sort 96 = .ok (.imul, 1) := by decide +kernel
theorem dX11_sort_97 : decode cX11_sort 97 = .ok (.iload 5, 2) := by decide +kernel
theorem dX11_sort_99 : decode cX11_sort 99 = .ok (.iadd, 1) := by decide +kernel
theorem dX11_sort_100 : decode cX11_sort 100 = .ok (.aload_n 0, 1) := by decide +kernel
theorem dX11_sort_101 : decode cX11_sort 101 = .ok (.getfield 76, 3) := by decide +kernel
theorem dX11_sort_104 : decode cX11_sort 104 = .ok (.bipush 8, 2) := by decide +kernel
theorem dX11_sort_106 : decode cX11_sort 106 = .ok (.iload_n 1, 1) := by decide +kernel
theorem dX11_sort_107 : decode cX11_sort 107 = .ok (.imul, 1) := by decide +kernel
theorem dX11_sort_108 : decode cX11_sort 108 = .ok (.iload 5, 2) := by decide +kernel
theorem dX11_sort_110 : decode cX11_sort 110 = .ok (.iadd, 1) := by decide +kernel
theorem dX11_sort_111 : decode cX11_sort 111 = .ok (.iconst 1, 1) := by decide +kernel
theorem dX11_sort_112 : decode cX11_sort 112 = .ok (.isub, 1) := by decide +kernel
theorem dX11_sort_113 : decode cX11_sort 113 = .ok (.iaload, 1) := by decide +kernel
theorem dX11_sort_114 : decode cX11_sort 114 = .ok (.iastore, 1) := by decide +kernel
theorem dX11_sort_115 : decode cX11_sort 115 = .ok (.iinc 5 (-1), 3) := by decide +kernel
theorem dX11_sort_118 : decode cX11_sort 118 = .ok (.goto (-68), 3) := by decide +kernel
theorem dX11_sort_121 : decode cX11_sort 121 = .ok (.aload_n 0, 1) := by decide +kernel
theorem dX11_sort_122 : decode cX11_sort 122 = .ok (.getfield 76, 3) := by decide +kernel
theorem dX11_sort_125 : decode cX11_sort 125 = .ok (.bipush 8, 2) := by decide +kernel
theorem dX11_sort_127 : decode cX11_sort 127 = .ok (.iload_n 1, 1) := by decide +kernel
theorem dX11_sort_128 : decode cX11_sort 128 = .ok (.imul, 1) := by decide +kernel
theorem dX11_sort_129 : decode cX11_sort 129 = .ok (.iload 5, 2) := by decide +kernel
theorem dX11_sort_131 : decode cX11_sort 131 = .ok (.iadd, 1) := by decide +kernel
theorem dX11_sort_132 : decode cX11_sort 132 = .ok (.iload_n 3, 1) := by decide +kernel
theorem dX11_sort_133 : decode cX11_sort 133 = .ok (.iastore, 1) := by decide +kernel
theorem dX11_sort_134 : decode cX11_sort 134 = .ok (.iinc 2 1, 3) := by decide +kernel
theorem dX11_sort_137 : decode cX11_sort 137 = .ok (.iinc 3 1, 3) := by decide +kernel
theorem dX11_sort_140 : decode cX11_sort 140 = .ok (.goto (-136), 3) := by decide +kernel
theorem dX11_sort_143 : decode cX11_sort 143 = .ok (.iconst 2, 1) := by decide +kernel
theorem dX11_sort_144 : decode cX11_sort 144 = .ok (.istore_n 3, 1) := by decide +kernel
theorem dX11_sort_145 : decode cX11_sort 145 = .ok (.iload_n 3, 1) := by decide +kernel
theorem dX11_sort_146 : decode cX11_sort 146 = .ok (.iconst 3, 1) := by decide +kernel
theorem dX11_sort_147 : decode cX11_sort 147 = .ok (.if_icmp .gt 61, 3) := by decide +kernel
theorem dX11_sort_150 : decode cX11_sort 150 = .ok (.iconst 0, 1) := by decide +kernel
theorem dX11_sort_151 : decode cX11_sort 151 = .ok (.istore 4, 2) := by decide +kernel
theorem dX11_sort_153 : decode cX11_sort 153 = .ok (.iload 4, 2) := by decide +kernel
theorem dX11_sort_155 : decode cX11_sort 155 = .ok (.aload_n 0, 1) := by decide +kernel
theorem dX11_sort_156 : decode cX11_sort 156 = .ok (.getfield 25, 3) := by decide +kernel
theorem dX11_sort_159 : decode cX11_sort 159 = .ok (.iload_n 1, 1) := by decide +kernel
theorem dX11_sort_160 : decode cX11_sort 160 = .ok (.iaload, 1) := by decide +kernel
theorem dX11_sort_161 : decode cX11_sort 161 = .ok (.if_icmp .ge 41, 3) := by decide +kernel
theorem dX11_sort_164 : decode cX11_sort 164 = .ok (.aload_n 0, 1) := by decide +kernel
theorem dX11_sort_165 : decode cX11_sort 165 = .ok (.getfield 28, 3) := by decide +kernel
theorem dX11_sort_168 : decode cX11_sort 168 = .ok (.bipush 8, 2) := by decide +kernel
theorem dX11_sort_170 : decode cX11_sort 170 = .ok (.iload_n 1, 1) := by decide +kernel
theorem dX11_sort_171 : decode cX11_sort 171 = .ok (.imul, 1) := by decide +kernel
theorem dX11_sort_172 : decode cX11_sort 172 = .ok (.iload 4, 2) := by decide +kernel
theorem dX11_sort_174 : decode cX11_sort 174 = .ok (.iadd, 1) := by decide +kernel
