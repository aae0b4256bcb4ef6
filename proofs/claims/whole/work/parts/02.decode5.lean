theorem dX11_sort_175 : decode cX11_sort 175 = .ok (.iaload, 1) := by decide +kernel
theorem dX11_sort_176 : decode cX11_sort 176 = .ok (.iload_n 3, 1) := by decide +kernel
theorem dX11_sort_177 : decode cX11_sort 177 = .ok (.if_icmp .ne 19, 3) := by decide +kernel
theorem dX11_sort_180 : decode cX11_sort 180 = .ok (.aload_n 0, 1) := by decide +kernel
theorem dX11_sort_181 : decode cX11_sort 181 = .ok (.getfield 76, 3) := by decide +kernel
theorem dX11_sort_184 : decode cX11_sort 184 = .ok (.bipush 8, 2) := by decide +kernel
theorem dX11_sort_186 : decode cX11_sort 186 = .ok (.iload_n 1, 1) := by decide +kernel
theorem dX11_sort_187 : decode cX11_sort 187 = .ok (.imul, 1) := by decide +kernel
theorem dX11_sort_188 : decode cX11_sort 188 = .ok (.iload_n 2, 1) := by decide +kernel
theorem dX11_sort_189 : decode cX11_sort 189 = .ok (.iadd, 1) := by decide +kernel
theorem dX11_sort_190 : decode cX11_sort 190 = .ok (.iload 4, 2) := by decide +kernel
theorem dX11_sort_192 : decode cX11_sort 192 = .ok (.iastore, 1) := by decide +kernel
theorem dX11_sort_193 : decode cX11_sort 193 = .ok (.iinc 2 1, 3) := by decide +kernel
theorem dX11_sort_196 : decode cX11_sort 196 = .ok (.iinc 4 1, 3) := by decide +kernel
theorem dX11_sort_199 : decode cX11_sort 199 = .ok (.goto (-46), 3) := by decide +kernel
theorem dX11_sort_202 : decode cX11_sort 202 = .ok (.iinc 3 1, 3) := by decide +kernel
theorem dX11_sort_205 : decode cX11_sort 205 = .ok (.goto (-60), 3) := by decide +kernel
theorem dX11_sort_208 : decode cX11_sort 208 = .ok (.return_, 1) := by decide +kernel
theorem dX11_go_0 : decode cX11_go 0 = .ok (.aload_n 0, 1) := by decide +kernel
theorem dX11_go_1 : decode cX11_go 1 = .ok (.invokevirtual 134, 3) := by decide +kernel
theorem dX11_go_4 : decode cX11_go 4 = .ok (.aload_n 0, 1) := by decide +kernel
theorem dX11_go_5 : decode cX11_go 5 = .ok (.iload_n 2, 1) := by decide +kernel
theorem dX11_go_6 : decode cX11_go 6 = .ok (.iload_n 1, 1) := by decide +kernel
theorem dX11_go_7 : decode cX11_go 7 = .ok (.invokevirtual 145, 3) := by decide +kernel
theorem dX11_go_10 : decode cX11_go 10 = .ok (.iconst 0, 1) := by decide +kernel
theorem dX11_go_11 : decode cX11_go 11 = .ok (.istore_n 3, 1) := by decide +kernel
theorem dX11_go_12 : decode cX11_go 12 = .ok (.iload_n 3, 1) := by decide +kernel
theorem dX11_go_13 : decode cX11_go 13 = .ok (.iload_n 1, 1) := by decide +kernel
theorem dX11_go_14 : decode cX11_go 14 = .ok (.if_icmp .gt 23, 3) := by decide +kernel
theorem dX11_go_17 : decode cX11_go 17 = .ok (.aload_n 0, 1) := by decide +kernel
theorem dX11_go_18 : decode cX11_go 18 = .ok (.getfield 69, 3) := by decide +kernel
theorem dX11_go_21 : decode cX11_go 21 = .ok (.iload_n 3, 1) := by decide +kernel
theorem dX11_go_22 : decode cX11_go 22 = .ok (.iconst (-1), 1) := by decide +kernel
theorem dX11_go_23 : decode cX11_go 23 = .ok (.iastore, 1) := by decide +kernel
theorem dX11_go_24 : decode cX11_go 24 = .ok (.aload_n 0, 1) := by decide +kernel
theorem dX11_go_25 : decode cX11_go 25 = .ok (.getfield 72, 3) := by decide +kernel
theorem dX11_go_28 : decode cX11_go 28 = .ok (.iload_n 3, 1) := by decide +kernel
theorem dX11_go_29 : decode cX11_go 29 = .ok (.lconst 0, 1) := by decide +kernel
theorem dX11_go_30 : decode cX11_go 30 = .ok (.lastore, 1) := by decide +kernel
theorem dX11_go_31 : decode cX11_go 31 = .ok (.iinc 3 1, 3) := by decide +kernel
theorem dX11_go_34 : decode cX11_go 34 = .ok (.goto (-22), 3) := by decide +kernel
theorem dX11_go_37 : decode cX11_go 37 = .ok (.aload_n 0, 1) := by decide +kernel
theorem dX11_go_38 : decode cX11_go 38 = .ok (.iconst 0, 1) := by decide +kernel
theorem dX11_go_39 : decode cX11_go 39 = .ok (.putfield 152, 3) := by decide +kernel
theorem dX11_go_42 : decode cX11_go 42 = .ok (.aload_n 0, 1) := by decide +kernel
theorem dX11_go_43 : decode cX11_go 43 = .ok (.iload_n 1, 1) := by decide +kernel
theorem dX11_go_44 : decode cX11_go 44 = .ok (.invokevirtual 155, 3) := by decide +kernel
theorem dX11_go_47 : decode cX11_go 47 = .ok (.aload_n 0, 1) := by decide +kernel
theorem dX11_go_48 : decode cX11_go 48 = .ok (.getfield 152, 3) := by decide +kernel
theorem dX11_go_51 : decode cX11_go 51 = .ok (.ifCond .le 160, 3) := by decide +kernel
theorem dX11_go_54 : decode cX11_go 54 = .ok (.aload_n 0, 1) := by decide +kernel
theorem dX11_go_55 : decode cX11_go 55 = .ok (.getfield 82, 3) := by decide +kernel
theorem dX11_go_58 : decode cX11_go 58 = .ok (.aload_n 0, 1) := by decide +kernel
theorem dX11_go_59 : decode cX11_go 59 = .ok (.getfield 152, 3) := by decide +kernel
theorem dX11_go_62 : decode cX11_go 62 = .ok (.iconst 1, 1) := by decide +kernel
theorem dX11_go_63 : decode cX11_go 63 = .ok (.isub, 1) := by decide +kernel
theorem dX11_go_64 : decode cX11_go 64 = .ok (.iaload, 1) := by decide +kernel
theorem dX11_go_65 : decode cX11_go 65 = .ok (.istore_n 3, 1) := by decide +kernel
theorem dX11_go_66 : decode cX11_go 66 = .ok (.aload_n 0, 1) := by decide +kernel
theorem dX11_go_67 : decode cX11_go 67 = .ok (.getfield 69, 3) := by decide +kernel
theorem dX11_go_70 : decode cX11_go 70 = .ok (.iload_n 3, 1) := by decide +kernel
theorem dX11_go_71 : decode cX11_go 71 = .ok (.iaload, 1) := by decide +kernel
theorem dX11_go_72 : decode cX11_go 72 = .ok (.iconst (-1), 1) := by decide +kernel
theorem dX11_go_73 : decode cX11_go 73 = .ok (.if_icmp .eq 16, 3) := by decide +kernel
theorem dX11_go_76 : decode cX11_go 76 = .ok (.aload_n 0, 1) := by decide +kernel
theorem dX11_go_77 : decode cX11_go 77 = .ok (.dup, 1) := by decide +kernel
theorem dX11_go_78 : decode cX11_go 78 = .ok (.getfield 152, 3) := by decide +kernel
theorem dX11_go_81 : decode cX11_go 81 = .ok (.iconst 1, 1) := by decide +kernel
theorem dX11_go_82 : decode cX11_go 82 = .ok (.isub, 1) := by decide +kernel
theorem dX11_go_83 : decode cX11_go 83 = .ok (.putfield 152, 3) := by decide +kernel
theorem dX11_go_86 : decode cX11_go 86 = .ok (.goto 122, 3) := by decide +kernel
theorem dX11_go_89 : decode cX11_go 89 = .ok (.aload_n 0, 1) := by decide +kernel
theorem dX11_go_90 : decode cX11_go 90 = .ok (.getfield 16, 3) := by decide +kernel
theorem dX11_go_93 : decode cX11_go 93 = .ok (.iload_n 3, 1) := by decide +kernel
theorem dX11_go_94 : decode cX11_go 94 = .ok (.iaload, 1) := by decide +kernel
theorem dX11_go_95 : decode cX11_go 95 = .ok (.iconst 2, 1) := by decide +kernel
theorem dX11_go_96 : decode cX11_go 96 = .ok (.if_icmp .ne 11, 3) := by decide +kernel
theorem dX11_go_99 : decode cX11_go 99 = .ok (.aload_n 0, 1) := by decide +kernel
theorem dX11_go_100 : decode cX11_go 100 = .ok (.iload_n 3, 1) := by decide +kernel
theorem dX11_go_101 : decode cX11_go 101 = .ok (.invokevirtual 158, 3) := by decide +kernel
theorem dX11_go_104 : decode cX11_go 104 = .ok (.goto 104, 3) := by decide +kernel
theorem dX11_go_107 : decode cX11_go 107 = .ok (.aload_n 0, 1) := by decide +kernel
theorem dX11_go_108 : decode cX11_go 108 = .ok (.getfield 16, 3) := by decide +kernel
theorem dX11_go_111 : decode cX11_go 111 = .ok (.iload_n 3, 1) := by decide +kernel
theorem dX11_go_112 : decode cX11_go 112 = .ok (.iaload, 1) := by decide +kernel
theorem dX11_go_113 : decode cX11_go 113 = .ok (.iconst 3, 1) := by decide +kernel
theorem dX11_go_114 : decode cX11_go 114 = .ok (.if_icmp .ne 11, 3) := by decide +kernel
theorem dX11_go_117 : decode cX11_go 117 = .ok (.aload_n 0, 1) := by decide +kernel
theorem dX11_go_118 : decode cX11_go 118 = .ok (.iload_n 3, 1) := by decide +kernel
theorem dX11_go_119 : decode cX11_go 119 = .ok (.invokevirtual 161, 3) := by decide +kernel
theorem dX11_go_122 : decode cX11_go 122 = .ok (.goto 86, 3) := by decide +kernel
theorem dX11_go_125 : decode cX11_go 125 = .ok (.aload_n 0, 1) := by decide +kernel
theorem dX11_go_126 : decode cX11_go 126 = .ok (.getfield 25, 3) := by decide +kernel
theorem dX11_go_129 : decode cX11_go 129 = .ok (.iload_n 3, 1) := by decide +kernel
theorem dX11_go_130 : decode cX11_go 130 = .ok (.iaload, 1) := by decide +kernel
theorem dX11_go_131 : decode cX11_go 131 = .ok (.ifCond .le 33, 3) := by decide +kernel
theorem dX11_go_134 : decode cX11_go 134 = .ok (.aload_n 0, 1) := by decide +kernel
theorem dX11_go_135 : decode cX11_go 135 = .ok (.getfield 16, 3) := by decide +kernel
theorem dX11_go_138 : decode cX11_go 138 = .ok (.iload_n 3, 1) := by decide +kernel
theorem dX11_go_139 : decode cX11_go 139 = .ok (.iaload, 1) := by decide +kernel
theorem dX11_go_140 : decode cX11_go 140 = .ok (.bipush 6, 2) := by decide +kernel
theorem dX11_go_142 : decode cX11_go 142 = .ok (.if_icmp .ne 13, 3) := by decide +kernel
theorem dX11_go_145 : decode cX11_go 145 = .ok (.aload_n 0, 1) := by decide +kernel
theorem dX11_go_146 : decode cX11_go 146 = .ok (.getfield 37, 3) := by decide +kernel
theorem dX11_go_149 : decode cX11_go 149 = .ok (.iload_n 3, 1) := by decide +kernel
theorem dX11_go_150 : decode cX11_go 150 = .ok (.iaload, 1) := by decide +kernel
theorem dX11_go_151 : decode cX11_go 151 = .ok (.iconst (-1), 1) := by decide +kernel
theorem dX11_go_152 : decode cX11_go 152 = .ok (.if_icmp .ne 12, 3) := by decide +kernel
theorem dX11_go_155 : decode cX11_go 155 = .ok (.aload_n 0, 1) := by decide +kernel
theorem dX11_go_156 : decode cX11_go 156 = .ok (.iload_n 3, 1) := by decide +kernel
theorem dX11_go_157 : decode cX11_go 157 = .ok (.iload_n 2, 1) := by decide +kernel
theorem dX11_go_158 : decode cX11_go 158 = .ok (.invokevirtual 164, 3) := by decide +kernel
theorem dX11_go_161 : decode cX11_go 161 = .ok (.goto 47, 3) := by decide +kernel
theorem dX11_go_164 : decode cX11_go 164 = .ok (.aload_n 0, 1) := by decide +kernel
theorem dX11_go_165 : decode cX11_go 165 = .ok (.getfield 69, 3) := by decide +kernel
theorem dX11_go_168 : decode cX11_go 168 = .ok (.iload_n 3, 1) := by decide +kernel
theorem dX11_go_169 : decode cX11_go 169 = .ok (.iconst 1, 1) := by decide +kernel
theorem dX11_go_170 : decode cX11_go 170 = .ok (.iastore, 1) := by decide +kernel
theorem dX11_go_171 : decode cX11_go 171 = .ok (.aload_n 0, 1) := by decide +kernel
theorem dX11_go_172 : decode cX11_go 172 = .ok (.getfield 72, 3) := by decide +kernel
theorem dX11_go_175 : decode cX11_go 175 = .ok (.iload_n 3, 1) := by decide +kernel
theorem dX11_go_176 : decode cX11_go 176 = .ok (.aload_n 0, 1) := by decide +kernel
theorem dX11_go_177 : decode cX11_go 177 = .ok (.getfield 16, 3) := by decide +kernel
theorem dX11_go_180 : decode cX11_go 180 = .ok (.iload_n 3, 1) := by decide +kernel
theorem dX11_go_181 : decode cX11_go 181 = .ok (.iaload, 1) := by decide +kernel
theorem dX11_go_182 : decode cX11_go 182 = .ok (.ifCond .ne 24, 3) := by decide +kernel
theorem dX11_go_185 : decode cX11_go 185 = .ok (.aload_n 0, 1) := by decide +kernel
theorem dX11_go_186 : decode cX11_go 186 = .ok (.getfield 7, 3) := by decide +kernel
theorem dX11_go_189 : decode cX11_go 189 = .ok (.sipush 512, 3) := by decide +kernel
theorem dX11_go_192 : decode cX11_go 192 = .ok (.aload_n 0, 1) := by decide +kernel
theorem dX11_go_193 : decode cX11_go 193 = .ok (.getfield 19, 3) := by decide +kernel
theorem dX11_go_196 : decode cX11_go 196 = .ok (.iload_n 3, 1) := by decide +kernel
theorem dX11_go_197 : decode cX11_go 197 = .ok (.iaload, 1) := by decide +kernel
theorem dX11_go_198 : decode cX11_go 198 = .ok (.imul, 1) := by decide +kernel
theorem dX11_go_199 : decode cX11_go 199 = .ok (.iload_n 2, 1) := by decide +kernel
theorem dX11_go_200 : decode cX11_go 200 = .ok (.iadd, 1) := by decide +kernel
theorem dX11_go_201 : decode cX11_go 201 = .ok (.iaload, 1) := by decide +kernel
theorem dX11_go_202 : decode cX11_go 202 = .ok (.i2l, 1) := by decide +kernel
theorem dX11_go_203 : decode cX11_go 203 = .ok (.goto 4, 3) := by decide +kernel
theorem dX11_go_206 : decode cX11_go 206 = .ok (.lconst 0, 1) := by decide +kernel
theorem dX11_go_207 : decode cX11_go 207 = .ok (.lastore, 1) := by decide +kernel
theorem dX11_go_208 : decode cX11_go 208 = .ok (.goto (-161), 3) := by decide +kernel
theorem dX11_go_211 : decode cX11_go 211 = .ok (.aload_n 0, 1) := by decide +kernel
theorem dX11_go_212 : decode cX11_go 212 = .ok (.getfield 69, 3) := by decide +kernel
theorem dX11_go_215 : decode cX11_go 215 = .ok (.iload_n 1, 1) := by decide +kernel
theorem dX11_go_216 : decode cX11_go 216 = .ok (.iaload, 1) := by decide +kernel
theorem dX11_go_217 : decode cX11_go 217 = .ok (.iconst 1, 1) := by decide +kernel
theorem dX11_go_218 : decode cX11_go 218 = .ok (.if_icmp .ne 7, 3) := by decide +kernel
theorem dX11_go_221 : decode cX11_go 221 = .ok (.iconst 1, 1) := by decide +kernel
theorem dX11_go_222 : decode cX11_go 222 = .ok (.goto 4, 3) := by decide +kernel
theorem dX11_go_225 : decode cX11_go 225 = .ok (.iconst 0, 1) := by decide +kernel
theorem dX11_go_226 : decode cX11_go 226 = .ok (.ireturn, 1) := by decide +kernel
theorem dX11_goOne_0 : decode cX11_goOne 0 = .ok (.aload_n 0, 1) := by decide +kernel
theorem dX11_goOne_1 : decode cX11_goOne 1 = .ok (.getfield 19, 3) := by decide +kernel
theorem dX11_goOne_4 : decode cX11_goOne 4 = .ok (.iload_n 1, 1) := by decide +kernel
theorem dX11_goOne_5 : decode cX11_goOne 5 = .ok (.iaload, 1) := by decide +kernel
theorem dX11_goOne_6 : decode cX11_goOne 6 = .ok (.istore_n 3, 1) := by decide +kernel
theorem dX11_goOne_7 : decode cX11_goOne 7 = .ok (.aload_n 0, 1) := by decide +kernel
theorem dX11_goOne_8 : decode cX11_goOne 8 = .ok (.iload_n 3, 1) := by decide +kernel
theorem dX11_goOne_9 : decode cX11_goOne 9 = .ok (.invokevirtual 155, 3) := by decide +kernel
theorem dX11_goOne_12 : decode cX11_goOne 12 = .ok (.aload_n 0, 1) := by decide +kernel
theorem dX11_goOne_13 : decode cX11_goOne 13 = .ok (.getfield 69, 3) := by decide +kernel
theorem dX11_goOne_16 : decode cX11_goOne 16 = .ok (.iload_n 3, 1) := by decide +kernel
theorem dX11_goOne_17 : decode cX11_goOne 17 = .ok (.iaload, 1) := by decide +kernel
theorem dX11_goOne_18 : decode cX11_goOne 18 = .ok (.iconst (-1), 1) := by decide +kernel
theorem dX11_goOne_19 : decode cX11_goOne 19 = .ok (.if_icmp .ne 4, 3) := by decide +kernel
theorem dX11_goOne_22 : decode cX11_goOne 22 = .ok (.return_, 1) := by decide +kernel
theorem dX11_goOne_23 : decode cX11_goOne 23 = .ok (.aload_n 0, 1) := by decide +kernel
theorem dX11_goOne_24 : decode cX11_goOne 24 = .ok (.getfield 69, 3) := by decide +kernel
theorem dX11_goOne_27 : decode cX11_goOne 27 = .ok (.iload_n 3, 1) := by decide +kernel
theorem dX11_goOne_28 : decode cX11_goOne 28 = .ok (.iaload, 1) := by decide +kernel
theorem dX11_goOne_29 : decode cX11_goOne 29 = .ok (.istore 4, 2) := by decide +kernel
theorem dX11_goOne_31 : decode cX11_goOne 31 = .ok (.aload_n 0, 1) := by decide +kernel
theorem dX11_goOne_32 : decode cX11_goOne 32 = .ok (.getfield 16, 3) := by decide +kernel
theorem dX11_goOne_35 : decode cX11_goOne 35 = .ok (.iload_n 1, 1) := by decide +kernel
theorem dX11_goOne_36 : decode cX11_goOne 36 = .ok (.iaload, 1) := by decide +kernel
theorem dX11_goOne_37 : decode cX11_goOne 37 = .ok (.iconst 5, 1) := by decide +kernel
theorem dX11_goOne_38 : decode cX11_goOne 38 = .ok (.if_icmp .ne 75, 3) := by decide +kernel
theorem dX11_goOne_41 : decode cX11_goOne 41 = .ok (.iload 4, 2) := by decide +kernel
theorem dX11_goOne_43 : decode cX11_goOne 43 = .ok (.iconst 1, 1) := by decide +kernel
theorem dX11_goOne_44 : decode cX11_goOne 44 = .ok (.if_icmp .ne 69, 3) := by decide +kernel
theorem dX11_goOne_47 : decode cX11_goOne 47 = .ok (.aload_n 0, 1) := by decide +kernel
theorem dX11_goOne_48 : decode cX11_goOne 48 = .ok (.getfield 34, 3) := by decide +kernel
theorem dX11_goOne_51 : decode cX11_goOne 51 = .ok (.iload_n 1, 1) := by decide +kernel
theorem dX11_goOne_52 : decode cX11_goOne 52 = .ok (.dup2, 1) := by decide +kernel
theorem dX11_goOne_53 : decode cX11_goOne 53 = .ok (.iaload, 1) := by decide +kernel
theorem dX11_goOne_54 : decode cX11_goOne 54 = .ok (.iconst 1, 1) := by decide +kernel
theorem dX11_goOne_55 : decode cX11_goOne 55 = .ok (.iadd, 1) := by decide +kernel
theorem dX11_goOne_56 : decode cX11_goOne 56 = .ok (.iastore, 1) := by decide +kernel
theorem dX11_goOne_57 : decode cX11_goOne 57 = .ok (.aload_n 0, 1) := by decide +kernel
theorem dX11_goOne_58 : decode cX11_goOne 58 = .ok (.dup, 1) := by decide +kernel
theorem dX11_goOne_59 : decode cX11_goOne 59 = .ok (.getfield 167, 3) := by decide +kernel
theorem dX11_goOne_62 : decode cX11_goOne 62 = .ok (.iconst 1, 1) := by decide +kernel
theorem dX11_goOne_63 : decode cX11_goOne 63 = .ok (.iadd, 1) := by decide +kernel
theorem dX11_goOne_64 : decode cX11_goOne 64 = .ok (.putfield 167, 3) := by decide +kernel
theorem dX11_goOne_67 : decode cX11_goOne 67 = .ok (.aload_n 0, 1) := by decide +kernel
theorem dX11_goOne_68 : decode cX11_goOne 68 = .ok (.getfield 22, 3) := by decide +kernel
theorem dX11_goOne_71 : decode cX11_goOne 71 = .ok (.iload_n 1, 1) := by decide +kernel
theorem dX11_goOne_72 : decode cX11_goOne 72 = .ok (.iaload, 1) := by decide +kernel
theorem dX11_goOne_73 : decode cX11_goOne 73 = .ok (.ldc 119, 2) := by decide +kernel
theorem dX11_goOne_75 : decode cX11_goOne 75 = .ok (.idiv, 1) := by decide +kernel
theorem dX11_goOne_76 : decode cX11_goOne 76 = .ok (.iload_n 2, 1) := by decide +kernel
theorem dX11_goOne_77 : decode cX11_goOne 77 = .ok (.imul, 1) := by decide +kernel
theorem dX11_goOne_78 : decode cX11_goOne 78 = .ok (.aload_n 0, 1) := by decide +kernel
theorem dX11_goOne_79 : decode cX11_goOne 79 = .ok (.getfield 22, 3) := by decide +kernel
theorem dX11_goOne_82 : decode cX11_goOne 82 = .ok (.iload_n 1, 1) := by decide +kernel
theorem dX11_goOne_83 : decode cX11_goOne 83 = .ok (.iaload, 1) := by decide +kernel
theorem dX11_goOne_84 : decode cX11_goOne 84 = .ok (.sipush 1000, 3) := by decide +kernel
theorem dX11_goOne_87 : decode cX11_goOne 87 = .ok (.idiv, 1) := by decide +kernel
theorem dX11_goOne_88 : decode cX11_goOne 88 = .ok (.sipush 1000, 3) := by decide +kernel
theorem dX11_goOne_91 : decode cX11_goOne 91 = .ok (.irem, 1) := by decide +kernel
theorem dX11_goOne_92 : decode cX11_goOne 92 = .ok (.irem, 1) := by decide +kernel
theorem dX11_goOne_93 : decode cX11_goOne 93 = .ok (.aload_n 0, 1) := by decide +kernel
theorem dX11_goOne_94 : decode cX11_goOne 94 = .ok (.getfield 22, 3) := by decide +kernel
theorem dX11_goOne_97 : decode cX11_goOne 97 = .ok (.iload_n 1, 1) := by decide +kernel
theorem dX11_goOne_98 : decode cX11_goOne 98 = .ok (.iaload, 1) := by decide +kernel
theorem dX11_goOne_99 : decode cX11_goOne 99 = .ok (.sipush 1000, 3) := by decide +kernel
theorem dX11_goOne_102 : decode cX11_goOne 102 = .ok (.irem, 1) := by decide +kernel
theorem dX11_goOne_103 : decode cX11_goOne 103 = .ok (.if_icmp .ge 7, 3) := by decide +kernel
theorem dX11_goOne_106 : decode cX11_goOne 106 = .ok (.iconst 1, 1) := by decide +kernel
theorem dX11_goOne_107 : decode cX11_goOne 107 = .ok (.goto 4, 3) := by decide +kernel
theorem dX11_goOne_110 : decode cX11_goOne 110 = .ok (.iconst 0, 1) := by decide +kernel
theorem dX11_goOne_111 : decode cX11_goOne 111 = .ok (.istore 4, 2) := by decide +kernel
theorem dX11_goOne_113 : decode cX11_goOne 113 = .ok (.aload_n 0, 1) := by decide +kernel
theorem dX11_goOne_114 : decode cX11_goOne 114 = .ok (.getfield 69, 3) := by decide +kernel
theorem dX11_goOne_117 : decode cX11_goOne 117 = .ok (.iload_n 1, 1) := by decide +kernel
theorem dX11_goOne_118 : decode cX11_goOne 118 = .ok (.iload 4, 2) := by decide +kernel
theorem dX11_goOne_120 : decode cX11_goOne 120 = .ok (.iastore, 1) := by decide +kernel
theorem dX11_goOne_121 : decode cX11_goOne 121 = .ok (.aload_n 0, 1) := by decide +kernel
theorem dX11_goOne_122 : decode cX11_goOne 122 = .ok (.getfield 72, 3) := by decide +kernel
theorem dX11_goOne_125 : decode cX11_goOne 125 = .ok (.iload_n 1, 1) := by decide +kernel
theorem dX11_goOne_126 : decode cX11_goOne 126 = .ok (.aload_n 0, 1) := by decide +kernel
theorem dX11_goOne_127 : decode cX11_goOne 127 = .ok (.getfield 16, 3) := by decide +kernel
theorem dX11_goOne_130 : decode cX11_goOne 130 = .ok (.iload_n 1, 1) := by decide +kernel
theorem dX11_goOne_131 : decode cX11_goOne 131 = .ok (.iaload, 1) := by decide +kernel
theorem dX11_goOne_132 : decode cX11_goOne 132 = .ok (.iconst 4, 1) := by decide +kernel
theorem dX11_goOne_133 : decode cX11_goOne 133 = .ok (.if_icmp .ne 13, 3) := by decide +kernel
theorem dX11_goOne_136 : decode cX11_goOne 136 = .ok (.aload_n 0, 1) := by decide +kernel
theorem dX11_goOne_137 : decode cX11_goOne 137 = .ok (.getfield 22, 3) := by decide +kernel
theorem dX11_goOne_140 : decode cX11_goOne 140 = .ok (.iload_n 1, 1) := by decide +kernel
theorem dX11_goOne_141 : decode cX11_goOne 141 = .ok (.iaload, 1) := by decide +kernel
theorem dX11_goOne_142 : decode cX11_goOne 142 = .ok (.i2l, 1) := by decide +kernel
theorem dX11_goOne_143 : decode cX11_goOne 143 = .ok (.goto 23, 3) := by decide +kernel
theorem dX11_goOne_146 : decode cX11_goOne 146 = .ok (.aload_n 0, 1) := by decide +kernel
theorem dX11_goOne_147 : decode cX11_goOne 147 = .ok (.getfield 16, 3) := by decide +kernel
theorem dX11_goOne_150 : decode cX11_goOne 150 = .ok (.iload_n 1, 1) := by decide +kernel
theorem dX11_goOne_151 : decode cX11_goOne 151 = .ok (.iaload, 1) := by decide +kernel
theorem dX11_goOne_152 : decode cX11_goOne 152 = .ok (.iconst 5, 1) := by decide +kernel
theorem dX11_goOne_153 : decode cX11_goOne 153 = .ok (.if_icmp .ne 12, 3) := by decide +kernel
theorem dX11_goOne_156 : decode cX11_goOne 156 = .ok (.aload_n 0, 1) := by decide +kernel
theorem dX11_goOne_157 : decode cX11_goOne 157 = .ok (.getfield 72, 3) := by decide +kernel
theorem dX11_goOne_160 : decode cX11_goOne 160 = .ok (.iload_n 3, 1) := by decide +kernel
theorem dX11_goOne_161 : decode cX11_goOne 161 = .ok (.laload, 1) := by decide +kernel
theorem dX11_goOne_162 : decode cX11_goOne 162 = .ok (.goto 4, 3) := by decide +kernel
theorem dX11_goOne_165 : decode cX11_goOne 165 = .ok (.lconst 0, 1) := by decide +kernel
theorem dX11_goOne_166 : decode cX11_goOne 166 = .ok (.lastore, 1) := by decide +kernel
theorem dX11_goOne_167 : decode cX11_goOne 167 = .ok (.return_, 1) := by decide +kernel
theorem dX11_goBest_0 : decode cX11_goBest 0 = .ok (.aload_n 0, 1) := by decide +kernel
theorem dX11_goBest_1 : decode cX11_goBest 1 = .ok (.getfield 79, 3) := by decide +kernel
theorem dX11_goBest_4 : decode cX11_goBest 4 = .ok (.iload_n 1, 1) := by decide +kernel
theorem dX11_goBest_5 : decode cX11_goBest 5 = .ok (.iaload, 1) := by decide +kernel
theorem dX11_goBest_6 : decode cX11_goBest 6 = .ok (.aload_n 0, 1) := by decide +kernel
theorem dX11_goBest_7 : decode cX11_goBest 7 = .ok (.getfield 25, 3) := by decide +kernel
theorem dX11_goBest_10 : decode cX11_goBest 10 = .ok (.iload_n 1, 1) := by decide +kernel
theorem dX11_goBest_11 : decode cX11_goBest 11 = .ok (.iaload, 1) := by decide +kernel
theorem dX11_goBest_12 : decode cX11_goBest 12 = .ok (.if_icmp .ge 49, 3) := by decide +kernel
theorem dX11_goBest_15 : decode cX11_goBest 15 = .ok (.aload_n 0, 1) := by decide +kernel
theorem dX11_goBest_16 : decode cX11_goBest 16 = .ok (.getfield 31, 3) := by decide +kernel
theorem dX11_goBest_19 : decode cX11_goBest 19 = .ok (.bipush 8, 2) := by decide +kernel
theorem dX11_goBest_21 : decode cX11_goBest 21 = .ok (.iload_n 1, 1) := by decide +kernel
theorem dX11_goBest_22 : decode cX11_goBest 22 = .ok (.imul, 1) := by decide +kernel
theorem dX11_goBest_23 : decode cX11_goBest 23 = .ok (.aload_n 0, 1) := by decide +kernel
theorem dX11_goBest_24 : decode cX11_goBest 24 = .ok (.getfield 79, 3) := by decide +kernel
theorem dX11_goBest_27 : decode cX11_goBest 27 = .ok (.iload_n 1, 1) := by decide +kernel
theorem dX11_goBest_28 : decode cX11_goBest 28 = .ok (.iaload, 1) := by decide +kernel
theorem dX11_goBest_29 : decode cX11_goBest 29 = .ok (.iadd, 1) := by decide +kernel
theorem dX11_goBest_30 : decode cX11_goBest 30 = .ok (.iaload, 1) := by decide +kernel
theorem dX11_goBest_31 : decode cX11_goBest 31 = .ok (.istore_n 2, 1) := by decide +kernel
theorem dX11_goBest_32 : decode cX11_goBest 32 = .ok (.aload_n 0, 1) := by decide +kernel
theorem dX11_goBest_33 : decode cX11_goBest 33 = .ok (.iload_n 2, 1) := by decide +kernel
theorem dX11_goBest_34 : decode cX11_goBest 34 = .ok (.invokevirtual 155, 3) := by decide +kernel
theorem dX11_goBest_37 : decode cX11_goBest 37 = .ok (.aload_n 0, 1) := by decide +kernel
theorem dX11_goBest_38 : decode cX11_goBest 38 = .ok (.getfield 69, 3) := by decide +kernel
theorem dX11_goBest_41 : decode cX11_goBest 41 = .ok (.iload_n 2, 1) := by decide +kernel
theorem dX11_goBest_42 : decode cX11_goBest 42 = .ok (.iaload, 1) := by decide +kernel
theorem dX11_goBest_43 : decode cX11_goBest 43 = .ok (.iconst (-1), 1) := by decide +kernel
theorem dX11_goBest_44 : decode cX11_goBest 44 = .ok (.if_icmp .ne 4, 3) := by decide +kernel
theorem dX11_goBest_47 : decode cX11_goBest 47 = .ok (.return_, 1) := by decide +kernel
theorem dX11_goBest_48 : decode cX11_goBest 48 = .ok (.aload_n 0, 1) := by decide +kernel
theorem dX11_goBest_49 : decode cX11_goBest 49 = .ok (.getfield 79, 3) := by decide +kernel
theorem dX11_goBest_52 : decode cX11_goBest 52 = .ok (.iload_n 1, 1) := by decide +kernel
theorem dX11_goBest_53 : decode cX11_goBest 53 = .ok (.dup2, 1) := by decide +kernel
theorem dX11_goBest_54 : decode cX11_goBest 54 = .ok (.iaload, 1) := by decide +kernel
theorem dX11_goBest_55 : decode cX11_goBest 55 = .ok (.iconst 1, 1) := by decide +kernel
theorem dX11_goBest_56 : decode cX11_goBest 56 = .ok (.iadd, 1) := by decide +kernel
theorem dX11_goBest_57 : decode cX11_goBest 57 = .ok (.iastore, 1) := by decide +kernel
theorem dX11_goBest_58 : decode cX11_goBest 58 = .ok (.goto (-58), 3) := by decide +kernel
theorem dX11_goBest_61 : decode cX11_goBest 61 = .ok (.iconst 0, 1) := by decide +kernel
theorem dX11_goBest_62 : decode cX11_goBest 62 = .ok (.istore_n 2, 1) := by decide +kernel
theorem dX11_goBest_63 : decode cX11_goBest 63 = .ok (.lconst 0, 1) := by decide +kernel
theorem dX11_goBest_64 : decode cX11_goBest 64 = .ok (.lstore_n 3, 1) := by decide +kernel
theorem dX11_goBest_65 : decode cX11_goBest 65 = .ok (.lconst 0, 1) := by decide +kernel
theorem dX11_goBest_66 : decode cX11_goBest 66 = .ok (.lstore 5, 2) := by decide +kernel
theorem dX11_goBest_68 : decode cX11_goBest 68 = .ok (.iconst 0, 1) := by decide +kernel
theorem dX11_goBest_69 : decode cX11_goBest 69 = .ok (.istore 7, 2) := by decide +kernel
theorem dX11_goBest_71 : decode cX11_goBest 71 = .ok (.iload 7, 2) := by decide +kernel
theorem dX11_goBest_73 : decode cX11_goBest 73 = .ok (.aload_n 0, 1) := by decide +kernel
theorem dX11_goBest_74 : decode cX11_goBest 74 = .ok (.getfield 25, 3) := by decide +kernel
theorem dX11_goBest_77 : decode cX11_goBest 77 = .ok (.iload_n 1, 1) := by decide +kernel
theorem dX11_goBest_78 : decode cX11_goBest 78 = .ok (.iaload, 1) := by decide +kernel
theorem dX11_goBest_79 : decode cX11_goBest 79 = .ok (.if_icmp .ge 76, 3) := by decide +kernel
theorem dX11_goBest_82 : decode cX11_goBest 82 = .ok (.aload_n 0, 1) := by decide +kernel
theorem dX11_goBest_83 : decode cX11_goBest 83 = .ok (.getfield 31, 3) := by decide +kernel
theorem dX11_goBest_86 : decode cX11_goBest 86 = .ok (.bipush 8, 2) := by decide +kernel
theorem dX11_goBest_88 : decode cX11_goBest 88 = .ok (.iload_n 1, 1) := by decide +kernel
theorem dX11_goBest_89 : decode cX11_goBest 89 = .ok (.imul, 1) := by decide +kernel
theorem dX11_goBest_90 : decode cX11_goBest 90 = .ok (.iload 7, 2) := by decide +kernel
theorem dX11_goBest_92 : decode cX11_goBest 92 = .ok (.iadd, 1) := by decide +kernel
theorem dX11_goBest_93 : decode cX11_goBest 93 = .ok (.iaload, 1) := by decide +kernel
theorem dX11_goBest_94 : decode cX11_goBest 94 = .ok (.istore 8, 2) := by decide +kernel
theorem dX11_goBest_96 : decode cX11_goBest 96 = .ok (.aload_n 0, 1) := by decide +kernel
theorem dX11_goBest_97 : decode cX11_goBest 97 = .ok (.getfield 69, 3) := by decide +kernel
theorem dX11_goBest_100 : decode cX11_goBest 100 = .ok (.iload 8, 2) := by decide +kernel
theorem dX11_goBest_102 : decode cX11_goBest 102 = .ok (.iaload, 1) := by decide +kernel
theorem dX11_goBest_103 : decode cX11_goBest 103 = .ok (.iconst 1, 1) := by decide +kernel
theorem dX11_goBest_104 : decode cX11_goBest 104 = .ok (.if_icmp .ne 45, 3) := by decide +kernel
theorem dX11_goBest_107 : decode cX11_goBest 107 = .ok (.iload_n 2, 1) := by decide +kernel
theorem dX11_goBest_108 : decode cX11_goBest 108 = .ok (.ifCond .eq 15, 3) := by decide +kernel
theorem dX11_goBest_111 : decode cX11_goBest 111 = .ok (.aload_n 0, 1) := by decide +kernel
theorem dX11_goBest_112 : decode cX11_goBest 112 = .ok (.getfield 72, 3) := by decide +kernel
theorem dX11_goBest_115 : decode cX11_goBest 115 = .ok (.iload 8, 2) := by decide +kernel
theorem dX11_goBest_117 : decode cX11_goBest 117 = .ok (.laload, 1) := by decide +kernel
theorem dX11_goBest_118 : decode cX11_goBest 118 = .ok (.lload_n 3, 1) := by decide +kernel
theorem dX11_goBest_119 : decode cX11_goBest 119 = .ok (.lcmp, 1) := by decide +kernel
theorem dX11_goBest_120 : decode cX11_goBest 120 = .ok (.ifCond .le 13, 3) := by decide +kernel
theorem dX11_goBest_123 : decode cX11_goBest 123 = .ok (.aload_n 0, 1) := by decide +kernel
theorem dX11_goBest_124 : decode cX11_goBest 124 = .ok (.getfield 72, 3) := by decide +kernel
theorem dX11_goBest_127 : decode cX11_goBest 127 = .ok (.iload 8, 2) := by decide +kernel
theorem dX11_goBest_129 : decode cX11_goBest 129 = .ok (.laload, 1) := by decide +kernel
theorem dX11_goBest_130 : decode cX11_goBest 130 = .ok (.goto 4, 3) := by decide +kernel
theorem dX11_goBest_133 : decode cX11_goBest 133 = .ok (.lload_n 3, 1) := by decide +kernel
theorem dX11_goBest_134 : decode cX11_goBest 134 = .ok (.lstore_n 3, 1) := by decide +kernel
theorem dX11_goBest_135 : decode cX11_goBest 135 = .ok (.lload 5, 2) := by decide +kernel
theorem dX11_goBest_137 : decode cX11_goBest 137 = .ok (.aload_n 0, 1) := by decide +kernel
theorem dX11_goBest_138 : decode cX11_goBest 138 = .ok (.getfield 72, 3) := by decide +kernel
theorem dX11_goBest_141 : decode cX11_goBest 141 = .ok (.iload 8, 2) := by decide +kernel
theorem dX11_goBest_143 : decode cX11_goBest 143 = .ok (.laload, 1) := by decide +kernel
theorem dX11_goBest_144 : decode cX11_goBest 144 = .ok (.ladd, 1) := by decide +kernel
theorem dX11_goBest_145 : decode cX11_goBest 145 = .ok (.lstore 5, 2) := by decide +kernel
theorem dX11_goBest_147 : decode cX11_goBest 147 = .ok (.iconst 1, 1) := by decide +kernel
theorem dX11_goBest_148 : decode cX11_goBest 148 = .ok (.istore_n 2, 1) := by decide +kernel
theorem dX11_goBest_149 : decode cX11_goBest 149 = .ok (.iinc 7 1, 3) := by decide +kernel
theorem dX11_goBest_152 : decode cX11_goBest 152 = .ok (.goto (-81), 3) := by decide +kernel
theorem dX11_goBest_155 : decode cX11_goBest 155 = .ok (.aload_n 0, 1) := by decide +kernel
theorem dX11_goBest_156 : decode cX11_goBest 156 = .ok (.getfield 69, 3) := by decide +kernel
theorem dX11_goBest_159 : decode cX11_goBest 159 = .ok (.iload_n 1, 1) := by decide +kernel
theorem dX11_goBest_160 : decode cX11_goBest 160 = .ok (.iload_n 2, 1) := by decide +kernel
theorem dX11_goBest_161 : decode cX11_goBest 161 = .ok (.ifCond .eq 7, 3) := by decide +kernel
theorem dX11_goBest_164 : decode cX11_goBest 164 = .ok (.iconst 1, 1) := by decide +kernel
theorem dX11_goBest_165 : decode cX11_goBest 165 = .ok (.goto 4, 3) := by decide +kernel
theorem dX11_goBest_168 : decode cX11_goBest 168 = .ok (.iconst 0, 1) := by decide +kernel
theorem dX11_goBest_169 : decode cX11_goBest 169 = .ok (.iastore, 1) := by decide +kernel
theorem dX11_goBest_170 : decode cX11_goBest 170 = .ok (.aload_n 0, 1) := by decide +kernel
theorem dX11_goBest_171 : decode cX11_goBest 171 = .ok (.getfield 72, 3) := by decide +kernel
theorem dX11_goBest_174 : decode cX11_goBest 174 = .ok (.iload_n 1, 1) := by decide +kernel
theorem dX11_goBest_175 : decode cX11_goBest 175 = .ok (.lload_n 3, 1) := by decide +kernel
theorem dX11_goBest_176 : decode cX11_goBest 176 = .ok (.lload 5, 2) := by decide +kernel
theorem dX11_goBest_178 : decode cX11_goBest 178 = .ok (.lload_n 3, 1) := by decide +kernel
theorem dX11_goBest_179 : decode cX11_goBest 179 = .ok (.lsub, 1) := by decide +kernel
theorem dX11_goBest_180 : decode cX11_goBest 180 = .ok (.aload_n 0, 1) := by decide +kernel
theorem dX11_goBest_181 : decode cX11_goBest 181 = .ok (.getfield 19, 3) := by decide +kernel
theorem dX11_goBest_184 : decode cX11_goBest 184 = .ok (.iload_n 1, 1) := by decide +kernel
theorem dX11_goBest_185 : decode cX11_goBest 185 = .ok (.iaload, 1) := by decide +kernel
theorem dX11_goBest_186 : decode cX11_goBest 186 = .ok (.i2l, 1) := by decide +kernel
theorem dX11_goBest_187 : decode cX11_goBest 187 = .ok (.lmul, 1) := by decide +kernel
theorem dX11_goBest_188 : decode cX11_goBest 188 = .ok (.ldc2_w 170, 3) := by decide +kernel
theorem dX11_goBest_191 : decode cX11_goBest 191 = .ok (.ldiv, 1) := by decide +kernel
theorem dX11_goBest_192 : decode cX11_goBest 192 = .ok (.ladd, 1) := by decide +kernel
theorem dX11_goBest_193 : decode cX11_goBest 193 = .ok (.lastore, 1) := by decide +kernel
theorem dX11_goBest_194 : decode cX11_goBest 194 = .ok (.return_, 1) := by decide +kernel
theorem dX11_goBool_0 : decode cX11_goBool 0 = .ok (.aload_n 0, 1) := by decide +kernel
theorem dX11_goBool_1 : decode cX11_goBool 1 = .ok (.getfield 79, 3) := by decide +kernel
theorem dX11_goBool_4 : decode cX11_goBool 4 = .ok (.iload_n 1, 1) := by decide +kernel
theorem dX11_goBool_5 : decode cX11_goBool 5 = .ok (.iaload, 1) := by decide +kernel
theorem dX11_goBool_6 : decode cX11_goBool 6 = .ok (.aload_n 0, 1) := by decide +kernel
theorem dX11_goBool_7 : decode cX11_goBool 7 = .ok (.getfield 25, 3) := by decide +kernel
theorem dX11_goBool_10 : decode cX11_goBool 10 = .ok (.iload_n 1, 1) := by decide +kernel
theorem dX11_goBool_11 : decode cX11_goBool 11 = .ok (.iaload, 1) := by decide +kernel
theorem dX11_goBool_12 : decode cX11_goBool 12 = .ok (.if_icmp .ge 154, 3) := by decide +kernel
theorem dX11_goBool_15 : decode cX11_goBool 15 = .ok (.bipush 8, 2) := by decide +kernel
theorem dX11_goBool_17 : decode cX11_goBool 17 = .ok (.iload_n 1, 1) := by decide +kernel
theorem dX11_goBool_18 : decode cX11_goBool 18 = .ok (.imul, 1) := by decide +kernel
theorem dX11_goBool_19 : decode cX11_goBool 19 = .ok (.aload_n 0, 1) := by decide +kernel
theorem dX11_goBool_20 : decode cX11_goBool 20 = .ok (.getfield 76, 3) := by decide +kernel
theorem dX11_goBool_23 : decode cX11_goBool 23 = .ok (.bipush 8, 2) := by decide +kernel
theorem dX11_goBool_25 : decode cX11_goBool 25 = .ok (.iload_n 1, 1) := by decide +kernel
theorem dX11_goBool_26 : decode cX11_goBool 26 = .ok (.imul, 1) := by decide +kernel
theorem dX11_goBool_27 : decode cX11_goBool 27 = .ok (.aload_n 0, 1) := by decide +kernel
theorem dX11_goBool_28 : decode cX11_goBool 28 = .ok (.getfield 79, 3) := by decide +kernel
theorem dX11_goBool_31 : decode cX11_goBool 31 = .ok (.iload_n 1, 1) := by decide +kernel
theorem dX11_goBool_32 : decode cX11_goBool 32 = .ok (.iaload, 1) := by decide +kernel
theorem dX11_goBool_33 : decode cX11_goBool 33 = .ok (.iadd, 1) := by decide +kernel
theorem dX11_goBool_34 : decode cX11_goBool 34 = .ok (.iaload, 1) := by decide +kernel
theorem dX11_goBool_35 : decode cX11_goBool 35 = .ok (.iadd, 1) := by decide +kernel
theorem dX11_goBool_36 : decode cX11_goBool 36 = .ok (.istore_n 2, 1) := by decide +kernel
theorem dX11_goBool_37 : decode cX11_goBool 37 = .ok (.aload_n 0, 1) := by decide +kernel
theorem dX11_goBool_38 : decode cX11_goBool 38 = .ok (.getfield 31, 3) := by decide +kernel
theorem dX11_goBool_41 : decode cX11_goBool 41 = .ok (.iload_n 2, 1) := by decide +kernel
theorem dX11_goBool_42 : decode cX11_goBool 42 = .ok (.iaload, 1) := by decide +kernel
theorem dX11_goBool_43 : decode cX11_goBool 43 = .ok (.istore_n 3, 1) := by decide +kernel
theorem dX11_goBool_44 : decode cX11_goBool 44 = .ok (.aload_n 0, 1) := by decide +kernel
theorem dX11_goBool_45 : decode cX11_goBool 45 = .ok (.getfield 28, 3) := by decide +kernel
theorem dX11_goBool_48 : decode cX11_goBool 48 = .ok (.iload_n 2, 1) := by decide +kernel
theorem dX11_goBool_49 : decode cX11_goBool 49 = .ok (.iaload, 1) := by decide +kernel
theorem dX11_goBool_50 : decode cX11_goBool 50 = .ok (.istore 4, 2) := by decide +kernel
theorem dX11_goBool_52 : decode cX11_goBool 52 = .ok (.iload 4, 2) := by decide +kernel
theorem dX11_goBool_54 : decode cX11_goBool 54 = .ok (.iconst 1, 1) := by decide +kernel
theorem dX11_goBool_55 : decode cX11_goBool 55 = .ok (.if_icmp .eq 9, 3) := by decide +kernel
theorem dX11_goBool_58 : decode cX11_goBool 58 = .ok (.iload 4, 2) := by decide +kernel
theorem dX11_goBool_60 : decode cX11_goBool 60 = .ok (.iconst 2, 1) := by decide +kernel
theorem dX11_goBool_61 : decode cX11_goBool 61 = .ok (.if_icmp .ne 16, 3) := by decide +kernel
theorem dX11_goBool_64 : decode cX11_goBool 64 = .ok (.aload_n 0, 1) := by decide +kernel
theorem dX11_goBool_65 : decode cX11_goBool 65 = .ok (.getfield 66, 3) := by decide +kernel
theorem dX11_goBool_68 : decode cX11_goBool 68 = .ok (.iload_n 3, 1) := by decide +kernel
theorem dX11_goBool_69 : decode cX11_goBool 69 = .ok (.baload, 1) := by decide +kernel
theorem dX11_goBool_70 : decode cX11_goBool 70 = .ok (.ifCond .eq 7, 3) := by decide +kernel
theorem dX11_goBool_73 : decode cX11_goBool 73 = .ok (.iconst 1, 1) := by decide +kernel
theorem dX11_goBool_74 : decode cX11_goBool 74 = .ok (.goto 4, 3) := by decide +kernel
theorem dX11_goBool_77 : decode cX11_goBool 77 = .ok (.iconst 0, 1) := by decide +kernel
theorem dX11_goBool_78 : decode cX11_goBool 78 = .ok (.istore 5, 2) := by decide +kernel
theorem dX11_goBool_80 : decode cX11_goBool 80 = .ok (.iload 5, 2) := by decide +kernel
theorem dX11_goBool_82 : decode cX11_goBool 82 = .ok (.ifCond .ne 19, 3) := by decide +kernel
theorem dX11_goBool_85 : decode cX11_goBool 85 = .ok (.aload_n 0, 1) := by decide +kernel
theorem dX11_goBool_86 : decode cX11_goBool 86 = .ok (.iload_n 3, 1) := by decide +kernel
theorem dX11_goBool_87 : decode cX11_goBool 87 = .ok (.invokevirtual 155, 3) := by decide +kernel
theorem dX11_goBool_90 : decode cX11_goBool 90 = .ok (.aload_n 0, 1) := by decide +kernel
theorem dX11_goBool_91 : decode cX11_goBool 91 = .ok (.getfield 69, 3) := by decide +kernel
theorem dX11_goBool_94 : decode cX11_goBool 94 = .ok (.iload_n 3, 1) := by decide +kernel
theorem dX11_goBool_95 : decode cX11_goBool 95 = .ok (.iaload, 1) := by decide +kernel
theorem dX11_goBool_96 : decode cX11_goBool 96 = .ok (.iconst (-1), 1) := by decide +kernel
theorem dX11_goBool_97 : decode cX11_goBool 97 = .ok (.if_icmp .ne 4, 3) := by decide +kernel
theorem dX11_goBool_100 : decode cX11_goBool 100 = .ok (.return_, 1) := by decide +kernel
theorem dX11_goBool_101 : decode cX11_goBool 101 = .ok (.iload 5, 2) := by decide +kernel
theorem dX11_goBool_103 : decode cX11_goBool 103 = .ok (.ifCond .ne 13, 3) := by decide +kernel
theorem dX11_goBool_106 : decode cX11_goBool 106 = .ok (.aload_n 0, 1) := by decide +kernel
theorem dX11_goBool_107 : decode cX11_goBool 107 = .ok (.getfield 69, 3) := by decide +kernel
theorem dX11_goBool_110 : decode cX11_goBool 110 = .ok (.iload_n 3, 1) := by decide +kernel
theorem dX11_goBool_111 : decode cX11_goBool 111 = .ok (.iaload, 1) := by decide +kernel
theorem dX11_goBool_112 : decode cX11_goBool 112 = .ok (.iconst 1, 1) := by decide +kernel
theorem dX11_goBool_113 : decode cX11_goBool 113 = .ok (.if_icmp .ne 7, 3) := by decide +kernel
theorem dX11_goBool_116 : decode cX11_goBool 116 = .ok (.iconst 1, 1) := by decide +kernel
theorem dX11_goBool_117 : decode cX11_goBool 117 = .ok (.goto 4, 3) := by decide +kernel
theorem dX11_goBool_120 : decode cX11_goBool 120 = .ok (.iconst 0, 1) := by decide +kernel
theorem dX11_goBool_121 : decode cX11_goBool 121 = .ok (.istore 6, 2) := by decide +kernel
theorem dX11_goBool_123 : decode cX11_goBool 123 = .ok (.iload 4, 2) := by decide +kernel
theorem dX11_goBool_125 : decode cX11_goBool 125 = .ok (.iconst 2, 1) := by decide +kernel
theorem dX11_goBool_126 : decode cX11_goBool 126 = .ok (.if_icmp .ge 8, 3) := by decide +kernel
theorem dX11_goBool_129 : decode cX11_goBool 129 = .ok (.iload 6, 2) := by decide +kernel
theorem dX11_goBool_131 : decode cX11_goBool 131 = .ok (.ifCond .eq 14, 3) := by decide +kernel
theorem dX11_goBool_134 : decode cX11_goBool 134 = .ok (.iload 4, 2) := by decide +kernel
theorem dX11_goBool_136 : decode cX11_goBool 136 = .ok (.iconst 2, 1) := by decide +kernel
theorem dX11_goBool_137 : decode cX11_goBool 137 = .ok (.if_icmp .ne 16, 3) := by decide +kernel
theorem dX11_goBool_140 : decode cX11_goBool 140 = .ok (.iload 6, 2) := by decide +kernel
theorem dX11_goBool_142 : decode cX11_goBool 142 = .ok (.ifCond .eq 11, 3) := by decide +kernel
theorem dX11_goBool_145 : decode cX11_goBool 145 = .ok (.aload_n 0, 1) := by decide +kernel
theorem dX11_goBool_146 : decode cX11_goBool 146 = .ok (.getfield 69, 3) := by decide +kernel
theorem dX11_goBool_149 : decode cX11_goBool 149 = .ok (.iload_n 1, 1) := by decide +kernel
theorem dX11_goBool_150 : decode cX11_goBool 150 = .ok (.iconst 0, 1) := by decide +kernel
theorem dX11_goBool_151 : decode cX11_goBool 151 = .ok (.iastore, 1) := by decide +kernel
theorem dX11_goBool_152 : decode cX11_goBool 152 = .ok (.return_, 1) := by decide +kernel
theorem dX11_goBool_153 : decode cX11_goBool 153 = .ok (.aload_n 0, 1) := by decide +kernel
theorem dX11_goBool_154 : decode cX11_goBool 154 = .ok (.getfield 79, 3) := by decide +kernel
theorem dX11_goBool_157 : decode cX11_goBool 157 = .ok (.iload_n 1, 1) := by decide +kernel
theorem dX11_goBool_158 : decode cX11_goBool 158 = .ok (.dup2, 1) := by decide +kernel
theorem dX11_goBool_159 : decode cX11_goBool 159 = .ok (.iaload, 1) := by decide +kernel
theorem dX11_goBool_160 : decode cX11_goBool 160 = .ok (.iconst 1, 1) := by decide +kernel
theorem dX11_goBool_161 : decode cX11_goBool 161 = .ok (.iadd, 1) := by decide +kernel
theorem dX11_goBool_162 : decode cX11_goBool 162 = .ok (.iastore, 1) := by decide +kernel
theorem dX11_goBool_163 : decode cX11_goBool 163 = .ok (.goto (-163), 3) := by decide +kernel
theorem dX11_goBool_166 : decode cX11_goBool 166 = .ok (.iconst 0, 1) := by decide +kernel
theorem dX11_goBool_167 : decode cX11_goBool 167 = .ok (.istore_n 2, 1) := by decide +kernel
theorem dX11_goBool_168 : decode cX11_goBool 168 = .ok (.iconst 0, 1) := by decide +kernel
theorem dX11_goBool_169 : decode cX11_goBool 169 = .ok (.istore_n 3, 1) := by decide +kernel
theorem dX11_goBool_170 : decode cX11_goBool 170 = .ok (.lconst 0, 1) := by decide +kernel
theorem dX11_goBool_171 : decode cX11_goBool 171 = .ok (.lstore 4, 2) := by decide +kernel
theorem dX11_goBool_173 : decode cX11_goBool 173 = .ok (.bipush 8, 2) := by decide +kernel
theorem dX11_goBool_175 : decode cX11_goBool 175 = .ok (.iload_n 1, 1) := by decide +kernel
theorem dX11_goBool_176 : decode cX11_goBool 176 = .ok (.imul, 1) := by decide +kernel
theorem dX11_goBool_177 : decode cX11_goBool 177 = .ok (.istore 6, 2) := by decide +kernel
theorem dX11_goBool_179 : decode cX11_goBool 179 = .ok (.iload 6, 2) := by decide +kernel
theorem dX11_goBool_181 : decode cX11_goBool 181 = .ok (.bipush 8, 2) := by decide +kernel
theorem dX11_goBool_183 : decode cX11_goBool 183 = .ok (.iload_n 1, 1) := by decide +kernel
theorem dX11_goBool_184 : decode cX11_goBool 184 = .ok (.imul, 1) := by decide +kernel
theorem dX11_goBool_185 : decode cX11_goBool 185 = .ok (.aload_n 0, 1) := by decide +kernel
theorem dX11_goBool_186 : decode cX11_goBool 186 = .ok (.getfield 25, 3) := by decide +kernel
theorem dX11_goBool_189 : decode cX11_goBool 189 = .ok (.iload_n 1, 1) := by decide +kernel
theorem dX11_goBool_190 : decode cX11_goBool 190 = .ok (.iaload, 1) := by decide +kernel
theorem dX11_goBool_191 : decode cX11_goBool 191 = .ok (.iadd, 1) := by decide +kernel
theorem dX11_goBool_192 : decode cX11_goBool 192 = .ok (.if_icmp .ge 118, 3) := by decide +kernel
theorem dX11_goBool_195 : decode cX11_goBool 195 = .ok (.aload_n 0, 1) := by decide +kernel
theorem dX11_goBool_196 : decode cX11_goBool 196 = .ok (.getfield 28, 3) := by decide +kernel
theorem dX11_goBool_199 : decode cX11_goBool 199 = .ok (.iload 6, 2) := by decide +kernel
theorem dX11_goBool_201 : decode cX11_goBool 201 = .ok (.iaload, 1) := by decide +kernel
theorem dX11_goBool_202 : decode cX11_goBool 202 = .ok (.iconst 3, 1) := by decide +kernel
theorem dX11_goBool_203 : decode cX11_goBool 203 = .ok (.if_icmp .ne 23, 3) := by decide +kernel
theorem dX11_goBool_206 : decode cX11_goBool 206 = .ok (.aload_n 0, 1) := by decide +kernel
theorem dX11_goBool_207 : decode cX11_goBool 207 = .ok (.getfield 69, 3) := by decide +kernel
theorem dX11_goBool_210 : decode cX11_goBool 210 = .ok (.aload_n 0, 1) := by decide +kernel
theorem dX11_goBool_211 : decode cX11_goBool 211 = .ok (.getfield 31, 3) := by decide +kernel
theorem dX11_goBool_214 : decode cX11_goBool 214 = .ok (.iload 6, 2) := by decide +kernel
theorem dX11_goBool_216 : decode cX11_goBool 216 = .ok (.iaload, 1) := by decide +kernel
theorem dX11_goBool_217 : decode cX11_goBool 217 = .ok (.iaload, 1) := by decide +kernel
theorem dX11_goBool_218 : decode cX11_goBool 218 = .ok (.iconst 1, 1) := by decide +kernel
theorem dX11_goBool_219 : decode cX11_goBool 219 = .ok (.if_icmp .ne 7, 3) := by decide +kernel
theorem dX11_goBool_222 : decode cX11_goBool 222 = .ok (.iconst 1, 1) := by decide +kernel
theorem dX11_goBool_223 : decode cX11_goBool 223 = .ok (.goto 4, 3) := by decide +kernel
theorem dX11_goBool_226 : decode cX11_goBool 226 = .ok (.iconst 0, 1) := by decide +kernel
theorem dX11_goBool_227 : decode cX11_goBool 227 = .ok (.istore 7, 2) := by decide +kernel
theorem dX11_goBool_229 : decode cX11_goBool 229 = .ok (.iload_n 2, 1) := by decide +kernel
theorem dX11_goBool_230 : decode cX11_goBool 230 = .ok (.iload 7, 2) := by decide +kernel
theorem dX11_goBool_232 : decode cX11_goBool 232 = .ok (.ifCond .eq 7, 3) := by decide +kernel
theorem dX11_goBool_235 : decode cX11_goBool 235 = .ok (.iconst 1, 1) := by decide +kernel
theorem dX11_goBool_236 : decode cX11_goBool 236 = .ok (.goto 4, 3) := by decide +kernel
theorem dX11_goBool_239 : decode cX11_goBool 239 = .ok (.iconst 0, 1) := by decide +kernel
theorem dX11_goBool_240 : decode cX11_goBool 240 = .ok (.iadd, 1) := by decide +kernel
theorem dX11_goBool_241 : decode cX11_goBool 241 = .ok (.istore_n 2, 1) := by decide +kernel
theorem dX11_goBool_242 : decode cX11_goBool 242 = .ok (.iload_n 3, 1) := by decide +kernel
theorem dX11_goBool_243 : decode cX11_goBool 243 = .ok (.ifCond .ne 19, 3) := by decide +kernel
theorem dX11_goBool_246 : decode cX11_goBool 246 = .ok (.iload 7, 2) := by decide +kernel
theorem dX11_goBool_248 : decode cX11_goBool 248 = .ok (.ifCond .ne 14, 3) := by decide +kernel
theorem dX11_goBool_251 : decode cX11_goBool 251 = .ok (.aload_n 0, 1) := by decide +kernel
theorem dX11_goBool_252 : decode cX11_goBool 252 = .ok (.getfield 28, 3) := by decide +kernel
theorem dX11_goBool_255 : decode cX11_goBool 255 = .ok (.iload 6, 2) := by decide +kernel
theorem dX11_goBool_257 : decode cX11_goBool 257 = .ok (.iaload, 1) := by decide +kernel
theorem dX11_goBool_258 : decode cX11_goBool 258 = .ok (.iconst 2, 1) := by decide +kernel
theorem dX11_goBool_259 : decode cX11_goBool 259 = .ok (.if_icmp .ge 7, 3) := by decide +kernel
theorem dX11_goBool_262 : decode cX11_goBool 262 = .ok (.iconst 1, 1) := by decide +kernel
theorem dX11_goBool_263 : decode cX11_goBool 263 = .ok (.goto 4, 3) := by decide +kernel
theorem dX11_goBool_266 : decode cX11_goBool 266 = .ok (.iconst 0, 1) := by decide +kernel
theorem dX11_goBool_267 : decode cX11_goBool 267 = .ok (.istore_n 3, 1) := by decide +kernel
theorem dX11_goBool_268 : decode cX11_goBool 268 = .ok (.lload 4, 2) := by decide +kernel
theorem dX11_goBool_270 : decode cX11_goBool 270 = .ok (.iload 7, 2) := by decide +kernel
theorem dX11_goBool_272 : decode cX11_goBool 272 = .ok (.ifCond .ne 13, 3) := by decide +kernel
theorem dX11_goBool_275 : decode cX11_goBool 275 = .ok (.aload_n 0, 1) := by decide +kernel
theorem dX11_goBool_276 : decode cX11_goBool 276 = .ok (.getfield 28, 3) := by decide +kernel
theorem dX11_goBool_279 : decode cX11_goBool 279 = .ok (.iload 6, 2) := by decide +kernel
theorem dX11_goBool_281 : decode cX11_goBool 281 = .ok (.iaload, 1) := by decide +kernel
theorem dX11_goBool_282 : decode cX11_goBool 282 = .ok (.ifCond .ne 18, 3) := by decide +kernel
theorem dX11_goBool_285 : decode cX11_goBool 285 = .ok (.aload_n 0, 1) := by decide +kernel
theorem dX11_goBool_286 : decode cX11_goBool 286 = .ok (.getfield 72, 3) := by decide +kernel
theorem dX11_goBool_289 : decode cX11_goBool 289 = .ok (.aload_n 0, 1) := by decide +kernel
theorem dX11_goBool_290 : decode cX11_goBool 290 = .ok (.getfield 31, 3) := by decide +kernel
theorem dX11_goBool_293 : decode cX11_goBool 293 = .ok (.iload 6, 2) := by decide +kernel
theorem dX11_goBool_295 : decode cX11_goBool 295 = .ok (.iaload, 1) := by decide +kernel
theorem dX11_goBool_296 : decode cX11_goBool 296 = .ok (.laload, 1) := by decide +kernel
theorem dX11_goBool_297 : decode cX11_goBool 297 = .ok (.goto 4, 3) := by decide +kernel
theorem dX11_goBool_300 : decode cX11_goBool 300 = .ok (.lconst 0, 1) := by decide +kernel
theorem dX11_goBool_301 : decode cX11_goBool 301 = .ok (.ladd, 1) := by decide +kernel
theorem dX11_goBool_302 : decode cX11_goBool 302 = .ok (.lstore 4, 2) := by decide +kernel
theorem dX11_goBool_304 : decode cX11_goBool 304 = .ok (.iinc 6 1, 3) := by decide +kernel
theorem dX11_goBool_307 : decode cX11_goBool 307 = .ok (.goto (-128), 3) := by decide +kernel
theorem dX11_goBool_310 : decode cX11_goBool 310 = .ok (.aload_n 0, 1) := by decide +kernel
theorem dX11_goBool_311 : decode cX11_goBool 311 = .ok (.getfield 69, 3) := by decide +kernel
theorem dX11_goBool_314 : decode cX11_goBool 314 = .ok (.iload_n 1, 1) := by decide +kernel
theorem dX11_goBool_315 : decode cX11_goBool 315 = .ok (.iload_n 3, 1) := by decide +kernel
theorem dX11_goBool_316 : decode cX11_goBool 316 = .ok (.ifCond .eq 17, 3) := by decide +kernel
theorem dX11_goBool_319 : decode cX11_goBool 319 = .ok (.iload_n 2, 1) := by decide +kernel
theorem dX11_goBool_320 : decode cX11_goBool 320 = .ok (.aload_n 0, 1) := by decide +kernel
theorem dX11_goBool_321 : decode cX11_goBool 321 = .ok (.getfield 19, 3) := by decide +kernel
theorem dX11_goBool_324 : decode cX11_goBool 324 = .ok (.iload_n 1, 1) := by decide +kernel
theorem dX11_goBool_325 : decode cX11_goBool 325 = .ok (.iaload, 1) := by decide +kernel
theorem dX11_goBool_326 : decode cX11_goBool 326 = .ok (.if_icmp .lt 7, 3) := by decide +kernel
theorem dX11_goBool_329 : decode cX11_goBool 329 = .ok (.iconst 1, 1) := by decide +kernel
theorem dX11_goBool_330 : decode cX11_goBool 330 = .ok (.goto 4, 3) := by decide +kernel
theorem dX11_goBool_333 : decode cX11_goBool 333 = .ok (.iconst 0, 1) := by decide +kernel
theorem dX11_goBool_334 : decode cX11_goBool 334 = .ok (.iastore, 1) := by decide +kernel
theorem dX11_goBool_335 : decode cX11_goBool 335 = .ok (.aload_n 0, 1) := by decide +kernel
theorem dX11_goBool_336 : decode cX11_goBool 336 = .ok (.getfield 72, 3) := by decide +kernel
theorem dX11_goBool_339 : decode cX11_goBool 339 = .ok (.iload_n 1, 1) := by decide +kernel
theorem dX11_goBool_340 : decode cX11_goBool 340 = .ok (.lload 4, 2) := by decide +kernel
theorem dX11_goBool_342 : decode cX11_goBool 342 = .ok (.lastore, 1) := by decide +kernel
theorem dX11_goBool_343 : decode cX11_goBool 343 = .ok (.return_, 1) := by decide +kernel
theorem dX11_look_0 : decode cX11_look 0 = .ok (.aload_n 0, 1) := by decide +kernel
theorem dX11_look_1 : decode cX11_look 1 = .ok (.iload_n 1, 1) := by decide +kernel
theorem dX11_look_2 : decode cX11_look 2 = .ok (.invokevirtual 123, 3) := by decide +kernel
theorem dX11_look_5 : decode cX11_look 5 = .ok (.ifCond .eq 10, 3) := by decide +kernel
theorem dX11_look_8 : decode cX11_look 8 = .ok (.iload_n 2, 1) := by decide +kernel
theorem dX11_look_9 : decode cX11_look 9 = .ok (.invokestatic 115, 3) := by decide +kernel
theorem dX11_look_12 : decode cX11_look 12 = .ok (.ifCond .ne 6, 3) := by decide +kernel
theorem dX11_look_15 : decode cX11_look 15 = .ok (.bipush (-2), 2) := by decide +kernel
theorem dX11_look_17 : decode cX11_look 17 = .ok (.ireturn, 1) := by decide +kernel
theorem dX11_look_18 : decode cX11_look 18 = .ok (.aload_n 0, 1) := by decide +kernel
theorem dX11_look_19 : decode cX11_look 19 = .ok (.iload_n 1, 1) := by decide +kernel
theorem dX11_look_20 : decode cX11_look 20 = .ok (.iload_n 2, 1) := by decide +kernel
theorem dX11_look_21 : decode cX11_look 21 = .ok (.invokevirtual 172, 3) := by decide +kernel
theorem dX11_look_24 : decode cX11_look 24 = .ok (.istore_n 3, 1) := by decide +kernel
theorem dX11_look_25 : decode cX11_look 25 = .ok (.aload_n 0, 1) := by decide +kernel
theorem dX11_look_26 : decode cX11_look 26 = .ok (.iload_n 3, 1) := by decide +kernel
theorem dX11_look_27 : decode cX11_look 27 = .ok (.ifCond .eq 12, 3) := by decide +kernel
theorem dX11_look_30 : decode cX11_look 30 = .ok (.aload_n 0, 1) := by decide +kernel
theorem dX11_look_31 : decode cX11_look 31 = .ok (.getfield 72, 3) := by decide +kernel
theorem dX11_look_34 : decode cX11_look 34 = .ok (.iload_n 1, 1) := by decide +kernel
theorem dX11_look_35 : decode cX11_look 35 = .ok (.laload, 1) := by decide +kernel
theorem dX11_look_36 : decode cX11_look 36 = .ok (.goto 7, 3) := by decide +kernel
theorem dX11_look_39 : decode cX11_look 39 = .ok (.aload_n 0, 1) := by decide +kernel
theorem dX11_look_40 : decode cX11_look 40 = .ok (.getfield 176, 3) := by decide +kernel
theorem dX11_look_43 : decode cX11_look 43 = .ok (.putfield 176, 3) := by decide +kernel
theorem dX11_look_46 : decode cX11_look 46 = .ok (.iload_n 3, 1) := by decide +kernel
theorem dX11_look_47 : decode cX11_look 47 = .ok (.ifCond .eq 7, 3) := by decide +kernel
theorem dX11_look_50 : decode cX11_look 50 = .ok (.iconst 1, 1) := by decide +kernel
theorem dX11_look_51 : decode cX11_look 51 = .ok (.goto 4, 3) := by decide +kernel
theorem dX11_look_54 : decode cX11_look 54 = .ok (.iconst 0, 1) := by decide +kernel
theorem dX11_look_55 : decode cX11_look 55 = .ok (.ireturn, 1) := by decide +kernel
theorem dX11_scored_0 : decode cX11_scored 0 = .ok (.aload_n 0, 1) := by decide +kernel
theorem dX11_scored_1 : decode cX11_scored 1 = .ok (.getfield 176, 3) := by decide +kernel
theorem dX11_scored_4 : decode cX11_scored 4 = .ok (.lreturn, 1) := by decide +kernel
theorem dX11_run_0 : decode cX11_run 0 = .ok (.aload_n 0, 1) := by decide +kernel
theorem dX11_run_1 : decode cX11_run 1 = .ok (.iload_n 1, 1) := by decide +kernel
theorem dX11_run_2 : decode cX11_run 2 = .ok (.invokevirtual 123, 3) := by decide +kernel
theorem dX11_run_5 : decode cX11_run 5 = .ok (.ifCond .ne 6, 3) := by decide +kernel
theorem dX11_run_8 : decode cX11_run 8 = .ok (.bipush (-2), 2) := by decide +kernel
theorem dX11_run_10 : decode cX11_run 10 = .ok (.ireturn, 1) := by decide +kernel
theorem dX11_run_11 : decode cX11_run 11 = .ok (.aload_n 0, 1) := by decide +kernel
theorem dX11_run_12 : decode cX11_run 12 = .ok (.iconst 0, 1) := by decide +kernel
theorem dX11_run_13 : decode cX11_run 13 = .ok (.putfield 180, 3) := by decide +kernel
theorem dX11_run_16 : decode cX11_run 16 = .ok (.iconst 0, 1) := by decide +kernel
theorem dX11_run_17 : decode cX11_run 17 = .ok (.istore_n 2, 1) := by decide +kernel
theorem dX11_run_18 : decode cX11_run 18 = .ok (.iload_n 2, 1) := by decide +kernel
theorem dX11_run_19 : decode cX11_run 19 = .ok (.sipush 512, 3) := by decide +kernel
theorem dX11_run_22 : decode cX11_run 22 = .ok (.if_icmp .ge 53, 3) := by decide +kernel
theorem dX11_run_25 : decode cX11_run 25 = .ok (.aload_n 0, 1) := by decide +kernel
theorem dX11_run_26 : decode cX11_run 26 = .ok (.iload_n 1, 1) := by decide +kernel
theorem dX11_run_27 : decode cX11_run 27 = .ok (.iload_n 2, 1) := by decide +kernel
theorem dX11_run_28 : decode cX11_run 28 = .ok (.invokevirtual 172, 3) := by decide +kernel
theorem dX11_run_31 : decode cX11_run 31 = .ok (.ifCond .eq 38, 3) := by decide +kernel
theorem dX11_run_34 : decode cX11_run 34 = .ok (.aload_n 0, 1) := by decide +kernel
theorem dX11_run_35 : decode cX11_run 35 = .ok (.getfield 85, 3) := by decide +kernel
theorem dX11_run_38 : decode cX11_run 38 = .ok (.aload_n 0, 1) := by decide +kernel
theorem dX11_run_39 : decode cX11_run 39 = .ok (.getfield 180, 3) := by decide +kernel
theorem dX11_run_42 : decode cX11_run 42 = .ok (.iload_n 2, 1) := by decide +kernel
theorem dX11_run_43 : decode cX11_run 43 = .ok (.iastore, 1) := by decide +kernel
theorem dX11_run_44 : decode cX11_run 44 = .ok (.aload_n 0, 1) := by decide +kernel
theorem dX11_run_45 : decode cX11_run 45 = .ok (.getfield 88, 3) := by decide +kernel
theorem dX11_run_48 : decode cX11_run 48 = .ok (.aload_n 0, 1) := by decide +kernel
theorem dX11_run_49 : decode cX11_run 49 = .ok (.getfield 180, 3) := by decide +kernel
theorem dX11_run_52 : decode cX11_run 52 = .ok (.aload_n 0, 1) := by decide +kernel
theorem dX11_run_53 : decode cX11_run 53 = .ok (.getfield 72, 3) := by decide +kernel
theorem dX11_run_56 : decode cX11_run 56 = .ok (.iload_n 1, 1) := by decide +kernel
theorem dX11_run_57 : decode cX11_run 57 = .ok (.laload, 1) := by decide +kernel
theorem dX11_run_58 : decode cX11_run 58 = .ok (.lastore, 1) := by decide +kernel
theorem dX11_run_59 : decode cX11_run 59 = .ok (.aload_n 0, 1) := by decide +kernel
theorem dX11_run_60 : decode cX11_run 60 = .ok (.dup, 1) := by decide +kernel
theorem dX11_run_61 : decode cX11_run 61 = .ok (.getfield 180, 3) := by decide +kernel
theorem dX11_run_64 : decode cX11_run 64 = .ok (.iconst 1, 1) := by decide +kernel
theorem dX11_run_65 : decode cX11_run 65 = .ok (.iadd, 1) := by decide +kernel
theorem dX11_run_66 : decode cX11_run 66 = .ok (.putfield 180, 3) := by decide +kernel
theorem dX11_run_69 : decode cX11_run 69 = .ok (.iinc 2 1, 3) := by decide +kernel
theorem dX11_run_72 : decode cX11_run 72 = .ok (.goto (-54), 3) := by decide +kernel
theorem dX11_run_75 : decode cX11_run 75 = .ok (.aload_n 0, 1) := by decide +kernel
theorem dX11_run_76 : decode cX11_run 76 = .ok (.getfield 180, 3) := by decide +kernel
theorem dX11_run_79 : decode cX11_run 79 = .ok (.ireturn, 1) := by decide +kernel
theorem dX11_found_0 : decode cX11_found 0 = .ok (.iload_n 1, 1) := by decide +kernel
theorem dX11_found_1 : decode cX11_found 1 = .ok (.iconst 0, 1) := by decide +kernel
theorem dX11_found_2 : decode cX11_found 2 = .ok (.aload_n 0, 1) := by decide +kernel
theorem dX11_found_3 : decode cX11_found 3 = .ok (.getfield 180, 3) := by decide +kernel
theorem dX11_found_6 : decode cX11_found 6 = .ok (.iconst 1, 1) := by decide +kernel
theorem dX11_found_7 : decode cX11_found 7 = .ok (.isub, 1) := by decide +kernel
theorem dX11_found_8 : decode cX11_found 8 = .ok (.invokestatic 103, 3) := by decide +kernel
theorem dX11_found_11 : decode cX11_found 11 = .ok (.ifCond .eq 12, 3) := by decide +kernel
theorem dX11_found_14 : decode cX11_found 14 = .ok (.aload_n 0, 1) := by decide +kernel
theorem dX11_found_15 : decode cX11_found 15 = .ok (.getfield 85, 3) := by decide +kernel
theorem dX11_found_18 : decode cX11_found 18 = .ok (.iload_n 1, 1) := by decide +kernel
theorem dX11_found_19 : decode cX11_found 19 = .ok (.iaload, 1) := by decide +kernel
theorem dX11_found_20 : decode cX11_found 20 = .ok (.goto 4, 3) := by decide +kernel
theorem dX11_found_23 : decode cX11_found 23 = .ok (.iconst (-1), 1) := by decide +kernel
theorem dX11_found_24 : decode cX11_found 24 = .ok (.ireturn, 1) := by decide +kernel
theorem dX11_score_0 : decode cX11_score 0 = .ok (.iload_n 1, 1) := by decide +kernel
theorem dX11_score_1 : decode cX11_score 1 = .ok (.iconst 0, 1) := by decide +kernel
theorem dX11_score_2 : decode cX11_score 2 = .ok (.aload_n 0, 1) := by decide +kernel
theorem dX11_score_3 : decode cX11_score 3 = .ok (.getfield 180, 3) := by decide +kernel
theorem dX11_score_6 : decode cX11_score 6 = .ok (.iconst 1, 1) := by decide +kernel
theorem dX11_score_7 : decode cX11_score 7 = .ok (.isub, 1) := by decide +kernel
theorem dX11_score_8 : decode cX11_score 8 = .ok (.invokestatic 103, 3) := by decide +kernel
theorem dX11_score_11 : decode cX11_score 11 = .ok (.ifCond .eq 12, 3) := by decide +kernel
theorem dX11_score_14 : decode cX11_score 14 = .ok (.aload_n 0, 1) := by decide +kernel
theorem dX11_score_15 : decode cX11_score 15 = .ok (.getfield 88, 3) := by decide +kernel
theorem dX11_score_18 : decode cX11_score 18 = .ok (.iload_n 1, 1) := by decide +kernel
theorem dX11_score_19 : decode cX11_score 19 = .ok (.laload, 1) := by decide +kernel
theorem dX11_score_20 : decode cX11_score 20 = .ok (.goto 4, 3) := by decide +kernel
theorem dX11_score_23 : decode cX11_score 23 = .ok (.lconst 0, 1) := by decide +kernel
theorem dX11_score_24 : decode cX11_score 24 = .ok (.lreturn, 1) := by decide +kernel
theorem dX11_keep_0 : decode cX11_keep 0 = .ok (.aload_n 0, 1) := by decide +kernel
theorem dX11_keep_1 : decode cX11_keep 1 = .ok (.iload_n 1, 1) := by decide +kernel
theorem dX11_keep_2 : decode cX11_keep 2 = .ok (.invokevirtual 123, 3) := by decide +kernel
theorem dX11_keep_5 : decode cX11_keep 5 = .ok (.ifCond .eq 14, 3) := by decide +kernel
theorem dX11_keep_8 : decode cX11_keep 8 = .ok (.aload_n 0, 1) := by decide +kernel
theorem dX11_keep_9 : decode cX11_keep 9 = .ok (.getfield 16, 3) := by decide +kernel
theorem dX11_keep_12 : decode cX11_keep 12 = .ok (.iload_n 1, 1) := by decide +kernel
theorem dX11_keep_13 : decode cX11_keep 13 = .ok (.iaload, 1) := by decide +kernel
theorem dX11_keep_14 : decode cX11_keep 14 = .ok (.bipush 6, 2) := by decide +kernel
theorem dX11_keep_16 : decode cX11_keep 16 = .ok (.if_icmp .eq 6, 3) := by decide +kernel
theorem dX11_keep_19 : decode cX11_keep 19 = .ok (.bipush (-2), 2) := by decide +kernel
theorem dX11_keep_21 : decode cX11_keep 21 = .ok (.ireturn, 1) := by decide +kernel
theorem dX11_keep_22 : decode cX11_keep 22 = .ok (.aload_n 0, 1) := by decide +kernel
theorem dX11_keep_23 : decode cX11_keep 23 = .ok (.getfield 37, 3) := by decide +kernel
theorem dX11_keep_26 : decode cX11_keep 26 = .ok (.iload_n 1, 1) := by decide +kernel
theorem dX11_keep_27 : decode cX11_keep 27 = .ok (.iaload, 1) := by decide +kernel
theorem dX11_keep_28 : decode cX11_keep 28 = .ok (.iconst (-1), 1) := by decide +kernel
theorem dX11_keep_29 : decode cX11_keep 29 = .ok (.if_icmp .eq 6, 3) := by decide +kernel
theorem dX11_keep_32 : decode cX11_keep 32 = .ok (.bipush (-4), 2) := by decide +kernel
theorem dX11_keep_34 : decode cX11_keep 34 = .ok (.ireturn, 1) := by decide +kernel
theorem dX11_keep_35 : decode cX11_keep 35 = .ok (.iconst 0, 1) := by decide +kernel
theorem dX11_keep_36 : decode cX11_keep 36 = .ok (.istore_n 2, 1) := by decide +kernel
theorem dX11_keep_37 : decode cX11_keep 37 = .ok (.iconst 0, 1) := by decide +kernel
theorem dX11_keep_38 : decode cX11_keep 38 = .ok (.istore_n 3, 1) := by decide +kernel
theorem dX11_keep_39 : decode cX11_keep 39 = .ok (.iload_n 3, 1) := by decide +kernel
theorem dX11_keep_40 : decode cX11_keep 40 = .ok (.sipush 512, 3) := by decide +kernel
theorem dX11_keep_43 : decode cX11_keep 43 = .ok (.if_icmp .ge 49, 3) := by decide +kernel
theorem dX11_keep_46 : decode cX11_keep 46 = .ok (.aload_n 0, 1) := by decide +kernel
theorem dX11_keep_47 : decode cX11_keep 47 = .ok (.aload_n 0, 1) := by decide +kernel
theorem dX11_keep_48 : decode cX11_keep 48 = .ok (.getfield 19, 3) := by decide +kernel
theorem dX11_keep_51 : decode cX11_keep 51 = .ok (.iload_n 1, 1) := by decide +kernel
theorem dX11_keep_52 : decode cX11_keep 52 = .ok (.iaload, 1) := by decide +kernel
theorem dX11_keep_53 : decode cX11_keep 53 = .ok (.iload_n 3, 1) := by decide +kernel
theorem dX11_keep_54 : decode cX11_keep 54 = .ok (.invokevirtual 172, 3) := by decide +kernel
theorem dX11_keep_57 : decode cX11_keep 57 = .ok (.istore 4, 2) := by decide +kernel
theorem dX11_keep_59 : decode cX11_keep 59 = .ok (.aload_n 0, 1) := by decide +kernel
theorem dX11_keep_60 : decode cX11_keep 60 = .ok (.getfield 41, 3) := by decide +kernel
theorem dX11_keep_63 : decode cX11_keep 63 = .ok (.sipush 512, 3) := by decide +kernel
theorem dX11_keep_66 : decode cX11_keep 66 = .ok (.iload_n 1, 1) := by decide +kernel
theorem dX11_keep_67 : decode cX11_keep 67 = .ok (.imul, 1) := by decide +kernel
theorem dX11_keep_68 : decode cX11_keep 68 = .ok (.iload_n 3, 1) := by decide +kernel
theorem dX11_keep_69 : decode cX11_keep 69 = .ok (.iadd, 1) := by decide +kernel
theorem dX11_keep_70 : decode cX11_keep 70 = .ok (.iload 4, 2) := by decide +kernel
theorem dX11_keep_72 : decode cX11_keep 72 = .ok (.bastore, 1) := by decide +kernel
theorem dX11_keep_73 : decode cX11_keep 73 = .ok (.iload_n 2, 1) := by decide +kernel
theorem dX11_keep_74 : decode cX11_keep 74 = .ok (.iload 4, 2) := by decide +kernel
theorem dX11_keep_76 : decode cX11_keep 76 = .ok (.ifCond .eq 7, 3) := by decide +kernel
theorem dX11_keep_79 : decode cX11_keep 79 = .ok (.iconst 1, 1) := by decide +kernel
theorem dX11_keep_80 : decode cX11_keep 80 = .ok (.goto 4, 3) := by decide +kernel
theorem dX11_keep_83 : decode cX11_keep 83 = .ok (.iconst 0, 1) := by decide +kernel
theorem dX11_keep_84 : decode cX11_keep 84 = .ok (.iadd, 1) := by decide +kernel
theorem dX11_keep_85 : decode cX11_keep 85 = .ok (.istore_n 2, 1) := by decide +kernel
theorem dX11_keep_86 : decode cX11_keep 86 = .ok (.iinc 3 1, 3) := by decide +kernel
theorem dX11_keep_89 : decode cX11_keep 89 = .ok (.goto (-50), 3) := by decide +kernel
theorem dX11_keep_92 : decode cX11_keep 92 = .ok (.aload_n 0, 1) := by decide +kernel
theorem dX11_keep_93 : decode cX11_keep 93 = .ok (.getfield 37, 3) := by decide +kernel
theorem dX11_keep_96 : decode cX11_keep 96 = .ok (.iload_n 1, 1) := by decide +kernel
theorem dX11_keep_97 : decode cX11_keep 97 = .ok (.iload_n 2, 1) := by decide +kernel
theorem dX11_keep_98 : decode cX11_keep 98 = .ok (.iastore, 1) := by decide +kernel
theorem dX11_keep_99 : decode cX11_keep 99 = .ok (.iload_n 2, 1) := by decide +kernel
theorem dX11_keep_100 : decode cX11_keep 100 = .ok (.ireturn, 1) := by decide +kernel
theorem dX11_open_0 : decode cX11_open 0 = .ok (.aload_n 0, 1) := by decide +kernel
theorem dX11_open_1 : decode cX11_open 1 = .ok (.iload_n 1, 1) := by decide +kernel
theorem dX11_open_2 : decode cX11_open 2 = .ok (.invokevirtual 123, 3) := by decide +kernel
theorem dX11_open_5 : decode cX11_open 5 = .ok (.ifCond .ne 6, 3) := by decide +kernel
theorem dX11_open_8 : decode cX11_open 8 = .ok (.bipush (-2), 2) := by decide +kernel
theorem dX11_open_10 : decode cX11_open 10 = .ok (.ireturn, 1) := by decide +kernel
theorem dX11_open_11 : decode cX11_open 11 = .ok (.iconst 0, 1) := by decide +kernel
theorem dX11_open_12 : decode cX11_open 12 = .ok (.istore_n 2, 1) := by decide +kernel
theorem dX11_open_13 : decode cX11_open 13 = .ok (.iload_n 2, 1) := by decide +kernel
theorem dX11_open_14 : decode cX11_open 14 = .ok (.bipush 8, 2) := by decide +kernel
theorem dX11_open_16 : decode cX11_open 16 = .ok (.if_icmp .ge 19, 3) := by decide +kernel
theorem dX11_open_19 : decode cX11_open 19 = .ok (.aload_n 0, 1) := by decide +kernel
theorem dX11_open_20 : decode cX11_open 20 = .ok (.getfield 45, 3) := by decide +kernel
theorem dX11_open_23 : decode cX11_open 23 = .ok (.iload_n 2, 1) := by decide +kernel
theorem dX11_open_24 : decode cX11_open 24 = .ok (.iaload, 1) := by decide +kernel
theorem dX11_open_25 : decode cX11_open 25 = .ok (.iconst (-1), 1) := by decide +kernel
theorem dX11_open_26 : decode cX11_open 26 = .ok (.if_icmp .eq 9, 3) := by decide +kernel
theorem dX11_open_29 : decode cX11_open 29 = .ok (.iinc 2 1, 3) := by decide +kernel
theorem dX11_open_32 : decode cX11_open 32 = .ok (.goto (-19), 3) := by decide +kernel
theorem dX11_open_35 : decode cX11_open 35 = .ok (.iload_n 2, 1) := by decide +kernel
theorem dX11_open_36 : decode cX11_open 36 = .ok (.bipush 8, 2) := by decide +kernel
theorem dX11_open_38 : decode cX11_open 38 = .ok (.if_icmp .ne 6, 3) := by decide +kernel
theorem dX11_open_41 : decode cX11_open 41 = .ok (.bipush (-3), 2) := by decide +kernel
theorem dX11_open_43 : decode cX11_open 43 = .ok (.ireturn, 1) := by decide +kernel
theorem dX11_open_44 : decode cX11_open 44 = .ok (.aload_n 0, 1) := by decide +kernel
theorem dX11_open_45 : decode cX11_open 45 = .ok (.getfield 45, 3) := by decide +kernel
theorem dX11_open_48 : decode cX11_open 48 = .ok (.iload_n 2, 1) := by decide +kernel
theorem dX11_open_49 : decode cX11_open 49 = .ok (.iload_n 1, 1) := by decide +kernel
theorem dX11_open_50 : decode cX11_open 50 = .ok (.iastore, 1) := by decide +kernel
theorem dX11_open_51 : decode cX11_open 51 = .ok (.aload_n 0, 1) := by decide +kernel
theorem dX11_open_52 : decode cX11_open 52 = .ok (.getfield 48, 3) := by decide +kernel
theorem dX11_open_55 : decode cX11_open 55 = .ok (.iload_n 2, 1) := by decide +kernel
theorem dX11_open_56 : decode cX11_open 56 = .ok (.iconst (-1), 1) := by decide +kernel
theorem dX11_open_57 : decode cX11_open 57 = .ok (.iastore, 1) := by decide +kernel
theorem dX11_open_58 : decode cX11_open 58 = .ok (.aload_n 0, 1) := by decide +kernel
theorem dX11_open_59 : decode cX11_open 59 = .ok (.getfield 51, 3) := by decide +kernel
theorem dX11_open_62 : decode cX11_open 62 = .ok (.iload_n 2, 1) := by decide +kernel
theorem dX11_open_63 : decode cX11_open 63 = .ok (.iconst 0, 1) := by decide +kernel
theorem dX11_open_64 : decode cX11_open 64 = .ok (.bastore, 1) := by decide +kernel
theorem dX11_open_65 : decode cX11_open 65 = .ok (.aload_n 0, 1) := by decide +kernel
theorem dX11_open_66 : decode cX11_open 66 = .ok (.getfield 54, 3) := by decide +kernel
theorem dX11_open_69 : decode cX11_open 69 = .ok (.iload_n 2, 1) := by decide +kernel
theorem dX11_open_70 : decode cX11_open 70 = .ok (.iconst 0, 1) := by decide +kernel
theorem dX11_open_71 : decode cX11_open 71 = .ok (.iastore, 1) := by decide +kernel
theorem dX11_open_72 : decode cX11_open 72 = .ok (.iload_n 2, 1) := by decide +kernel
theorem dX11_open_73 : decode cX11_open 73 = .ok (.ireturn, 1) := by decide +kernel
theorem dX11_isOpen_0 : decode cX11_isOpen 0 = .ok (.iload_n 1, 1) := by decide +kernel
theorem dX11_isOpen_1 : decode cX11_isOpen 1 = .ok (.iconst 0, 1) := by decide +kernel
theorem dX11_isOpen_2 : decode cX11_isOpen 2 = .ok (.bipush 7, 2) := by decide +kernel
theorem dX11_isOpen_4 : decode cX11_isOpen 4 = .ok (.invokestatic 103, 3) := by decide +kernel
theorem dX11_isOpen_7 : decode cX11_isOpen 7 = .ok (.ifCond .eq 17, 3) := by decide +kernel
theorem dX11_isOpen_10 : decode cX11_isOpen 10 = .ok (.aload_n 0, 1) := by decide +kernel
theorem dX11_isOpen_11 : decode cX11_isOpen 11 = .ok (.getfield 45, 3) := by decide +kernel
theorem dX11_isOpen_14 : decode cX11_isOpen 14 = .ok (.iload_n 1, 1) := by decide +kernel
theorem dX11_isOpen_15 : decode cX11_isOpen 15 = .ok (.iaload, 1) := by decide +kernel
theorem dX11_isOpen_16 : decode cX11_isOpen 16 = .ok (.iconst (-1), 1) := by decide +kernel
theorem dX11_isOpen_17 : decode cX11_isOpen 17 = .ok (.if_icmp .eq 7, 3) := by decide +kernel
theorem dX11_isOpen_20 : decode cX11_isOpen 20 = .ok (.iconst 1, 1) := by decide +kernel
theorem dX11_isOpen_21 : decode cX11_isOpen 21 = .ok (.goto 4, 3) := by decide +kernel
theorem dX11_isOpen_24 : decode cX11_isOpen 24 = .ok (.iconst 0, 1) := by decide +kernel
theorem dX11_isOpen_25 : decode cX11_isOpen 25 = .ok (.ireturn, 1) := by decide +kernel
theorem dX11_next_0 : decode cX11_next 0 = .ok (.aload_n 0, 1) := by decide +kernel
theorem dX11_next_1 : decode cX11_next 1 = .ok (.iload_n 1, 1) := by decide +kernel
theorem dX11_next_2 : decode cX11_next 2 = .ok (.invokevirtual 183, 3) := by decide +kernel
theorem dX11_next_5 : decode cX11_next 5 = .ok (.ifCond .eq 10, 3) := by decide +kernel
theorem dX11_next_8 : decode cX11_next 8 = .ok (.iload_n 2, 1) := by decide +kernel
theorem dX11_next_9 : decode cX11_next 9 = .ok (.invokestatic 115, 3) := by decide +kernel
theorem dX11_next_12 : decode cX11_next 12 = .ok (.ifCond .ne 6, 3) := by decide +kernel
theorem dX11_next_15 : decode cX11_next 15 = .ok (.bipush (-2), 2) := by decide +kernel
theorem dX11_next_17 : decode cX11_next 17 = .ok (.ireturn, 1) := by decide +kernel
theorem dX11_next_18 : decode cX11_next 18 = .ok (.iload_n 2, 1) := by decide +kernel
theorem dX11_next_19 : decode cX11_next 19 = .ok (.aload_n 0, 1) := by decide +kernel
theorem dX11_next_20 : decode cX11_next 20 = .ok (.getfield 48, 3) := by decide +kernel
theorem dX11_next_23 : decode cX11_next 23 = .ok (.iload_n 1, 1) := by decide +kernel
theorem dX11_next_24 : decode cX11_next 24 = .ok (.iaload, 1) := by decide +kernel
theorem dX11_next_25 : decode cX11_next 25 = .ok (.if_icmp .le 7, 3) := by decide +kernel
theorem dX11_next_28 : decode cX11_next 28 = .ok (.iload_n 2, 1) := by decide +kernel
theorem dX11_next_29 : decode cX11_next 29 = .ok (.goto 11, 3) := by decide +kernel
theorem dX11_next_32 : decode cX11_next 32 = .ok (.aload_n 0, 1) := by decide +kernel
theorem dX11_next_33 : decode cX11_next 33 = .ok (.getfield 48, 3) := by decide +kernel
theorem dX11_next_36 : decode cX11_next 36 = .ok (.iload_n 1, 1) := by decide +kernel
theorem dX11_next_37 : decode cX11_next 37 = .ok (.iaload, 1) := by decide +kernel
theorem dX11_next_38 : decode cX11_next 38 = .ok (.iconst 1, 1) := by decide +kernel
theorem dX11_next_39 : decode cX11_next 39 = .ok (.iadd, 1) := by decide +kernel
theorem dX11_next_40 : decode cX11_next 40 = .ok (.istore_n 3, 1) := by decide +kernel
theorem dX11_next_41 : decode cX11_next 41 = .ok (.aload_n 0, 1) := by decide +kernel
theorem dX11_next_42 : decode cX11_next 42 = .ok (.getfield 51, 3) := by decide +kernel
theorem dX11_next_45 : decode cX11_next 45 = .ok (.iload_n 1, 1) := by decide +kernel
theorem dX11_next_46 : decode cX11_next 46 = .ok (.baload, 1) := by decide +kernel
theorem dX11_next_47 : decode cX11_next 47 = .ok (.ifCond .ne 30, 3) := by decide +kernel
theorem dX11_next_50 : decode cX11_next 50 = .ok (.iload_n 3, 1) := by decide +kernel
theorem dX11_next_51 : decode cX11_next 51 = .ok (.sipush 512, 3) := by decide +kernel
theorem dX11_next_54 : decode cX11_next 54 = .ok (.if_icmp .ge 23, 3) := by decide +kernel
theorem dX11_next_57 : decode cX11_next 57 = .ok (.aload_n 0, 1) := by decide +kernel
theorem dX11_next_58 : decode cX11_next 58 = .ok (.aload_n 0, 1) := by decide +kernel
theorem dX11_next_59 : decode cX11_next 59 = .ok (.getfield 45, 3) := by decide +kernel
theorem dX11_next_62 : decode cX11_next 62 = .ok (.iload_n 1, 1) := by decide +kernel
theorem dX11_next_63 : decode cX11_next 63 = .ok (.iaload, 1) := by decide +kernel
theorem dX11_next_64 : decode cX11_next 64 = .ok (.iload_n 3, 1) := by decide +kernel
theorem dX11_next_65 : decode cX11_next 65 = .ok (.invokevirtual 172, 3) := by decide +kernel
theorem dX11_next_68 : decode cX11_next 68 = .ok (.ifCond .ne 9, 3) := by decide +kernel
theorem dX11_next_71 : decode cX11_next 71 = .ok (.iinc 3 1, 3) := by decide +kernel
theorem dX11_next_74 : decode cX11_next 74 = .ok (.goto (-33), 3) := by decide +kernel
theorem dX11_next_77 : decode cX11_next 77 = .ok (.aload_n 0, 1) := by decide +kernel
theorem dX11_next_78 : decode cX11_next 78 = .ok (.getfield 51, 3) := by decide +kernel
theorem dX11_next_81 : decode cX11_next 81 = .ok (.iload_n 1, 1) := by decide +kernel
theorem dX11_next_82 : decode cX11_next 82 = .ok (.baload, 1) := by decide +kernel
theorem dX11_next_83 : decode cX11_next 83 = .ok (.ifCond .ne 10, 3) := by decide +kernel
theorem dX11_next_86 : decode cX11_next 86 = .ok (.iload_n 3, 1) := by decide +kernel
theorem dX11_next_87 : decode cX11_next 87 = .ok (.sipush 512, 3) := by decide +kernel
theorem dX11_next_90 : decode cX11_next 90 = .ok (.if_icmp .lt 12, 3) := by decide +kernel
theorem dX11_next_93 : decode cX11_next 93 = .ok (.aload_n 0, 1) := by decide +kernel
theorem dX11_next_94 : decode cX11_next 94 = .ok (.getfield 51, 3) := by decide +kernel
theorem dX11_next_97 : decode cX11_next 97 = .ok (.iload_n 1, 1) := by decide +kernel
theorem dX11_next_98 : decode cX11_next 98 = .ok (.iconst 1, 1) := by decide +kernel
theorem dX11_next_99 : decode cX11_next 99 = .ok (.bastore, 1) := by decide +kernel
theorem dX11_next_100 : decode cX11_next 100 = .ok (.iconst (-1), 1) := by decide +kernel
theorem dX11_next_101 : decode cX11_next 101 = .ok (.ireturn, 1) := by decide +kernel
theorem dX11_next_102 : decode cX11_next 102 = .ok (.aload_n 0, 1) := by decide +kernel
theorem dX11_next_103 : decode cX11_next 103 = .ok (.getfield 48, 3) := by decide +kernel
theorem dX11_next_106 : decode cX11_next 106 = .ok (.iload_n 1, 1) := by decide +kernel
theorem dX11_next_107 : decode cX11_next 107 = .ok (.iload_n 3, 1) := by decide +kernel
theorem dX11_next_108 : decode cX11_next 108 = .ok (.iastore, 1) := by decide +kernel
theorem dX11_next_109 : decode cX11_next 109 = .ok (.aload_n 0, 1) := by decide +kernel
theorem dX11_next_110 : decode cX11_next 110 = .ok (.getfield 54, 3) := by decide +kernel
theorem dX11_next_113 : decode cX11_next 113 = .ok (.iload_n 1, 1) := by decide +kernel
theorem dX11_next_114 : decode cX11_next 114 = .ok (.dup2, 1) := by decide +kernel
theorem dX11_next_115 : decode cX11_next 115 = .ok (.iaload, 1) := by decide +kernel
theorem dX11_next_116 : decode cX11_next 116 = .ok (.iconst 1, 1) := by decide +kernel
theorem dX11_next_117 : decode cX11_next 117 = .ok (.iadd, 1) := by decide +kernel
theorem dX11_next_118 : decode cX11_next 118 = .ok (.iastore, 1) := by decide +kernel
theorem dX11_next_119 : decode cX11_next 119 = .ok (.iload_n 3, 1) := by decide +kernel
theorem dX11_next_120 : decode cX11_next 120 = .ok (.ireturn, 1) := by decide +kernel
theorem dX11_close_0 : decode cX11_close 0 = .ok (.aload_n 0, 1) := by decide +kernel
theorem dX11_close_1 : decode cX11_close 1 = .ok (.iload_n 1, 1) := by decide +kernel
theorem dX11_close_2 : decode cX11_close 2 = .ok (.invokevirtual 183, 3) := by decide +kernel
theorem dX11_close_5 : decode cX11_close 5 = .ok (.ifCond .ne 6, 3) := by decide +kernel
theorem dX11_close_8 : decode cX11_close 8 = .ok (.bipush (-2), 2) := by decide +kernel
theorem dX11_close_10 : decode cX11_close 10 = .ok (.ireturn, 1) := by decide +kernel
theorem dX11_close_11 : decode cX11_close 11 = .ok (.aload_n 0, 1) := by decide +kernel
theorem dX11_close_12 : decode cX11_close 12 = .ok (.getfield 45, 3) := by decide +kernel
theorem dX11_close_15 : decode cX11_close 15 = .ok (.iload_n 1, 1) := by decide +kernel
theorem dX11_close_16 : decode cX11_close 16 = .ok (.iconst (-1), 1) := by decide +kernel
theorem dX11_close_17 : decode cX11_close 17 = .ok (.iastore, 1) := by decide +kernel
theorem dX11_close_18 : decode cX11_close 18 = .ok (.aload_n 0, 1) := by decide +kernel
theorem dX11_close_19 : decode cX11_close 19 = .ok (.getfield 54, 3) := by decide +kernel
theorem dX11_close_22 : decode cX11_close 22 = .ok (.iload_n 1, 1) := by decide +kernel
theorem dX11_close_23 : decode cX11_close 23 = .ok (.iaload, 1) := by decide +kernel
theorem dX11_close_24 : decode cX11_close 24 = .ok (.ireturn, 1) := by decide +kernel
theorem dX11_rewrite_0 : decode cX11_rewrite 0 = .ok (.aload_n 0, 1) := by decide +kernel
theorem dX11_rewrite_1 : decode cX11_rewrite 1 = .ok (.iload_n 1, 1) := by decide +kernel
theorem dX11_rewrite_2 : decode cX11_rewrite 2 = .ok (.invokevirtual 123, 3) := by decide +kernel
theorem dX11_rewrite_5 : decode cX11_rewrite 5 = .ok (.ifCond .ne 6, 3) := by decide +kernel
theorem dX11_rewrite_8 : decode cX11_rewrite 8 = .ok (.bipush (-2), 2) := by decide +kernel
theorem dX11_rewrite_10 : decode cX11_rewrite 10 = .ok (.ireturn, 1) := by decide +kernel
theorem dX11_rewrite_11 : decode cX11_rewrite 11 = .ok (.aload_n 0, 1) := by decide +kernel
theorem dX11_rewrite_12 : decode cX11_rewrite 12 = .ok (.getfield 107, 3) := by decide +kernel
theorem dX11_rewrite_15 : decode cX11_rewrite 15 = .ok (.istore_n 2, 1) := by decide +kernel
theorem dX11_rewrite_16 : decode cX11_rewrite 16 = .ok (.aload_n 0, 1) := by decide +kernel
theorem dX11_rewrite_17 : decode cX11_rewrite 17 = .ok (.iconst 0, 1) := by decide +kernel
theorem dX11_rewrite_18 : decode cX11_rewrite 18 = .ok (.putfield 186, 3) := by decide +kernel
theorem dX11_rewrite_21 : decode cX11_rewrite 21 = .ok (.iconst 0, 1) := by decide +kernel
theorem dX11_rewrite_22 : decode cX11_rewrite 22 = .ok (.istore_n 3, 1) := by decide +kernel
theorem dX11_rewrite_23 : decode cX11_rewrite 23 = .ok (.iload_n 3, 1) := by decide +kernel
theorem dX11_rewrite_24 : decode cX11_rewrite 24 = .ok (.iload_n 1, 1) := by decide +kernel
theorem dX11_rewrite_25 : decode cX11_rewrite 25 = .ok (.if_icmp .gt 25, 3) := by decide +kernel
theorem dX11_rewrite_28 : decode cX11_rewrite 28 = .ok (.aload_n 0, 1) := by decide +kernel
theorem dX11_rewrite_29 : decode cX11_rewrite 29 = .ok (.getfield 57, 3) := by decide +kernel
theorem dX11_rewrite_32 : decode cX11_rewrite 32 = .ok (.iload_n 3, 1) := by decide +kernel
theorem dX11_rewrite_33 : decode cX11_rewrite 33 = .ok (.iload_n 3, 1) := by decide +kernel
theorem dX11_rewrite_34 : decode cX11_rewrite 34 = .ok (.iload_n 1, 1) := by decide +kernel
theorem dX11_rewrite_35 : decode cX11_rewrite 35 = .ok (.if_icmp .ne 7, 3) := by decide +kernel
theorem dX11_rewrite_38 : decode cX11_rewrite 38 = .ok (.iconst 1, 1) := by decide +kernel
theorem dX11_rewrite_39 : decode cX11_rewrite 39 = .ok (.goto 4, 3) := by decide +kernel
theorem dX11_rewrite_42 : decode cX11_rewrite 42 = .ok (.iconst 0, 1) := by decide +kernel
theorem dX11_rewrite_43 : decode cX11_rewrite 43 = .ok (.bastore, 1) := by decide +kernel
theorem dX11_rewrite_44 : decode cX11_rewrite 44 = .ok (.iinc 3 1, 3) := by decide +kernel
theorem dX11_rewrite_47 : decode cX11_rewrite 47 = .ok (.goto (-24), 3) := by decide +kernel
theorem dX11_rewrite_50 : decode cX11_rewrite 50 = .ok (.iload_n 1, 1) := by decide +kernel
theorem dX11_rewrite_51 : decode cX11_rewrite 51 = .ok (.istore_n 3, 1) := by decide +kernel
theorem dX11_rewrite_52 : decode cX11_rewrite 52 = .ok (.iload_n 3, 1) := by decide +kernel
theorem dX11_rewrite_53 : decode cX11_rewrite 53 = .ok (.ifCond .lt 56, 3) := by decide +kernel
theorem dX11_rewrite_56 : decode cX11_rewrite 56 = .ok (.iconst 0, 1) := by decide +kernel
theorem dX11_rewrite_57 : decode cX11_rewrite 57 = .ok (.istore 4, 2) := by decide +kernel
theorem dX11_rewrite_59 : decode cX11_rewrite 59 = .ok (.iload 4, 2) := by decide +kernel
theorem dX11_rewrite_61 : decode cX11_rewrite 61 = .ok (.aload_n 0, 1) := by decide +kernel
theorem dX11_rewrite_62 : decode cX11_rewrite 62 = .ok (.getfield 25, 3) := by decide +kernel
theorem dX11_rewrite_65 : decode cX11_rewrite 65 = .ok (.iload_n 3, 1) := by decide +kernel
theorem dX11_rewrite_66 : decode cX11_rewrite 66 = .ok (.iaload, 1) := by decide +kernel
theorem dX11_rewrite_67 : decode cX11_rewrite 67 = .ok (.if_icmp .ge 36, 3) := by decide +kernel
theorem dX11_rewrite_70 : decode cX11_rewrite 70 = .ok (.aload_n 0, 1) := by decide +kernel
theorem dX11_rewrite_71 : decode cX11_rewrite 71 = .ok (.getfield 57, 3) := by decide +kernel
theorem dX11_rewrite_74 : decode cX11_rewrite 74 = .ok (.iload_n 3, 1) := by decide +kernel
theorem dX11_rewrite_75 : decode cX11_rewrite 75 = .ok (.baload, 1) := by decide +kernel
theorem dX11_rewrite_76 : decode cX11_rewrite 76 = .ok (.ifCond .eq 27, 3) := by decide +kernel
theorem dX11_rewrite_79 : decode cX11_rewrite 79 = .ok (.aload_n 0, 1) := by decide +kernel
theorem dX11_rewrite_80 : decode cX11_rewrite 80 = .ok (.getfield 57, 3) := by decide +kernel
theorem dX11_rewrite_83 : decode cX11_rewrite 83 = .ok (.aload_n 0, 1) := by decide +kernel
theorem dX11_rewrite_84 : decode cX11_rewrite 84 = .ok (.getfield 31, 3) := by decide +kernel
theorem dX11_rewrite_87 : decode cX11_rewrite 87 = .ok (.bipush 8, 2) := by decide +kernel
theorem dX11_rewrite_89 : decode cX11_rewrite 89 = .ok (.iload_n 3, 1) := by decide +kernel
theorem dX11_rewrite_90 : decode cX11_rewrite 90 = .ok (.imul, 1) := by decide +kernel
theorem dX11_rewrite_91 : decode cX11_rewrite 91 = .ok (.iload 4, 2) := by decide +kernel
theorem dX11_rewrite_93 : decode cX11_rewrite 93 = .ok (.iadd, 1) := by decide +kernel
theorem dX11_rewrite_94 : decode cX11_rewrite 94 = .ok (.iaload, 1) := by decide +kernel
theorem dX11_rewrite_95 : decode cX11_rewrite 95 = .ok (.iconst 1, 1) := by decide +kernel
theorem dX11_rewrite_96 : decode cX11_rewrite 96 = .ok (.bastore, 1) := by decide +kernel
theorem dX11_rewrite_97 : decode cX11_rewrite 97 = .ok (.iinc 4 1, 3) := by decide +kernel
theorem dX11_rewrite_100 : decode cX11_rewrite 100 = .ok (.goto (-41), 3) := by decide +kernel
theorem dX11_rewrite_103 : decode cX11_rewrite 103 = .ok (.iinc 3 (-1), 3) := by decide +kernel
theorem dX11_rewrite_106 : decode cX11_rewrite 106 = .ok (.goto (-54), 3) := by decide +kernel
theorem dX11_rewrite_109 : decode cX11_rewrite 109 = .ok (.iconst 0, 1) := by decide +kernel
theorem dX11_rewrite_110 : decode cX11_rewrite 110 = .ok (.istore_n 3, 1) := by decide +kernel
theorem dX11_rewrite_111 : decode cX11_rewrite 111 = .ok (.iload_n 3, 1) := by decide +kernel
theorem dX11_rewrite_112 : decode cX11_rewrite 112 = .ok (.iload_n 1, 1) := by decide +kernel
theorem dX11_rewrite_113 : decode cX11_rewrite 113 = .ok (.if_icmp .gt 72, 3) := by decide +kernel
theorem dX11_rewrite_116 : decode cX11_rewrite 116 = .ok (.aload_n 0, 1) := by decide +kernel
theorem dX11_rewrite_117 : decode cX11_rewrite 117 = .ok (.getfield 186, 3) := by decide +kernel
theorem dX11_rewrite_120 : decode cX11_rewrite 120 = .ok (.ifCond .ne 65, 3) := by decide +kernel
theorem dX11_rewrite_123 : decode cX11_rewrite 123 = .ok (.aload_n 0, 1) := by decide +kernel
theorem dX11_rewrite_124 : decode cX11_rewrite 124 = .ok (.getfield 57, 3) := by decide +kernel
theorem dX11_rewrite_127 : decode cX11_rewrite 127 = .ok (.iload_n 3, 1) := by decide +kernel
theorem dX11_rewrite_128 : decode cX11_rewrite 128 = .ok (.baload, 1) := by decide +kernel
theorem dX11_rewrite_129 : decode cX11_rewrite 129 = .ok (.ifCond .eq 50, 3) := by decide +kernel
theorem dX11_rewrite_132 : decode cX11_rewrite 132 = .ok (.aload_n 0, 1) := by decide +kernel
theorem dX11_rewrite_133 : decode cX11_rewrite 133 = .ok (.getfield 91, 3) := by decide +kernel
theorem dX11_rewrite_136 : decode cX11_rewrite 136 = .ok (.iload_n 3, 1) := by decide +kernel
theorem dX11_rewrite_137 : decode cX11_rewrite 137 = .ok (.aload_n 0, 1) := by decide +kernel
theorem dX11_rewrite_138 : decode cX11_rewrite 138 = .ok (.getfield 16, 3) := by decide +kernel
theorem dX11_rewrite_141 : decode cX11_rewrite 141 = .ok (.iload_n 3, 1) := by decide +kernel
theorem dX11_rewrite_142 : decode cX11_rewrite 142 = .ok (.iaload, 1) := by decide +kernel
theorem dX11_rewrite_143 : decode cX11_rewrite 143 = .ok (.iconst 2, 1) := by decide +kernel
theorem dX11_rewrite_144 : decode cX11_rewrite 144 = .ok (.if_icmp .ne 11, 3) := by decide +kernel
theorem dX11_rewrite_147 : decode cX11_rewrite 147 = .ok (.aload_n 0, 1) := by decide +kernel
theorem dX11_rewrite_148 : decode cX11_rewrite 148 = .ok (.iload_n 3, 1) := by decide +kernel
theorem dX11_rewrite_149 : decode cX11_rewrite 149 = .ok (.invokevirtual 190, 3) := by decide +kernel
theorem dX11_rewrite_152 : decode cX11_rewrite 152 = .ok (.goto 26, 3) := by decide +kernel
theorem dX11_rewrite_155 : decode cX11_rewrite 155 = .ok (.aload_n 0, 1) := by decide +kernel
theorem dX11_rewrite_156 : decode cX11_rewrite 156 = .ok (.getfield 16, 3) := by decide +kernel
theorem dX11_rewrite_159 : decode cX11_rewrite 159 = .ok (.iload_n 3, 1) := by decide +kernel
theorem dX11_rewrite_160 : decode cX11_rewrite 160 = .ok (.iaload, 1) := by decide +kernel
theorem dX11_rewrite_161 : decode cX11_rewrite 161 = .ok (.iconst 3, 1) := by decide +kernel
theorem dX11_rewrite_162 : decode cX11_rewrite 162 = .ok (.if_icmp .ne 11, 3) := by decide +kernel
theorem dX11_rewrite_165 : decode cX11_rewrite 165 = .ok (.aload_n 0, 1) := by decide +kernel
theorem dX11_rewrite_166 : decode cX11_rewrite 166 = .ok (.iload_n 3, 1) := by decide +kernel
theorem dX11_rewrite_167 : decode cX11_rewrite 167 = .ok (.invokevirtual 193, 3) := by decide +kernel
theorem dX11_rewrite_170 : decode cX11_rewrite 170 = .ok (.goto 8, 3) := by decide +kernel
theorem dX11_rewrite_173 : decode cX11_rewrite 173 = .ok (.aload_n 0, 1) := by decide +kernel
theorem dX11_rewrite_174 : decode cX11_rewrite 174 = .ok (.iload_n 3, 1) := by decide +kernel
theorem dX11_rewrite_175 : decode cX11_rewrite 175 = .ok (.invokevirtual 196, 3) := by decide +kernel
theorem dX11_rewrite_178 : decode cX11_rewrite 178 = .ok (.iastore, 1) := by decide +kernel
theorem dX11_rewrite_179 : decode cX11_rewrite 179 = .ok (.iinc 3 1, 3) := by decide +kernel
theorem dX11_rewrite_182 : decode cX11_rewrite 182 = .ok (.goto (-71), 3) := by decide +kernel
theorem dX11_rewrite_185 : decode cX11_rewrite 185 = .ok (.aload_n 0, 1) := by decide +kernel
theorem dX11_rewrite_186 : decode cX11_rewrite 186 = .ok (.getfield 186, 3) := by decide +kernel
theorem dX11_rewrite_189 : decode cX11_rewrite 189 = .ok (.ifCond .eq 11, 3) := by decide +kernel
theorem dX11_rewrite_192 : decode cX11_rewrite 192 = .ok (.aload_n 0, 1) := by decide +kernel
theorem dX11_rewrite_193 : decode cX11_rewrite 193 = .ok (.iload_n 2, 1) := by decide +kernel
theorem dX11_rewrite_194 : decode cX11_rewrite 194 = .ok (.putfield 107, 3) := by decide +kernel
theorem dX11_rewrite_197 : decode cX11_rewrite 197 = .ok (.bipush (-3), 2) := by decide +kernel
theorem dX11_rewrite_199 : decode cX11_rewrite 199 = .ok (.ireturn, 1) := by decide +kernel
theorem dX11_rewrite_200 : decode cX11_rewrite 200 = .ok (.aload_n 0, 1) := by decide +kernel
theorem dX11_rewrite_201 : decode cX11_rewrite 201 = .ok (.getfield 91, 3) := by decide +kernel
theorem dX11_rewrite_204 : decode cX11_rewrite 204 = .ok (.iload_n 1, 1) := by decide +kernel
theorem dX11_rewrite_205 : decode cX11_rewrite 205 = .ok (.iaload, 1) := by decide +kernel
theorem dX11_rewrite_206 : decode cX11_rewrite 206 = .ok (.ireturn, 1) := by decide +kernel
theorem dX11_so_0 : decode cX11_so 0 = .ok (.iconst 0, 1) := by decide +kernel
theorem dX11_so_1 : decode cX11_so 1 = .ok (.istore 4, 2) := by decide +kernel
theorem dX11_so_3 : decode cX11_so 3 = .ok (.iload 4, 2) := by decide +kernel
theorem dX11_so_5 : decode cX11_so 5 = .ok (.aload_n 0, 1) := by decide +kernel
theorem dX11_so_6 : decode cX11_so 6 = .ok (.getfield 107, 3) := by decide +kernel
theorem dX11_so_9 : decode cX11_so 9 = .ok (.if_icmp .ge 167, 3) := by decide +kernel
theorem dX11_so_12 : decode cX11_so 12 = .ok (.aload_n 0, 1) := by decide +kernel
theorem dX11_so_13 : decode cX11_so 13 = .ok (.getfield 16, 3) := by decide +kernel
theorem dX11_so_16 : decode cX11_so 16 = .ok (.iload 4, 2) := by decide +kernel
theorem dX11_so_18 : decode cX11_so 18 = .ok (.iaload, 1) := by decide +kernel
theorem dX11_so_19 : decode cX11_so 19 = .ok (.iload_n 1, 1) := by decide +kernel
theorem dX11_so_20 : decode cX11_so 20 = .ok (.if_icmp .ne 53, 3) := by decide +kernel
theorem dX11_so_23 : decode cX11_so 23 = .ok (.aload_n 0, 1) := by decide +kernel
theorem dX11_so_24 : decode cX11_so 24 = .ok (.getfield 19, 3) := by decide +kernel
theorem dX11_so_27 : decode cX11_so 27 = .ok (.iload 4, 2) := by decide +kernel
theorem dX11_so_29 : decode cX11_so 29 = .ok (.iaload, 1) := by decide +kernel
theorem dX11_so_30 : decode cX11_so 30 = .ok (.iload_n 2, 1) := by decide +kernel
theorem dX11_so_31 : decode cX11_so 31 = .ok (.if_icmp .ne 42, 3) := by decide +kernel
theorem dX11_so_34 : decode cX11_so 34 = .ok (.aload_n 0, 1) := by decide +kernel
theorem dX11_so_35 : decode cX11_so 35 = .ok (.getfield 22, 3) := by decide +kernel
theorem dX11_so_38 : decode cX11_so 38 = .ok (.iload 4, 2) := by decide +kernel
theorem dX11_so_40 : decode cX11_so 40 = .ok (.iaload, 1) := by decide +kernel
theorem dX11_so_41 : decode cX11_so 41 = .ok (.iload_n 3, 1) := by decide +kernel
theorem dX11_so_42 : decode cX11_so 42 = .ok (.if_icmp .ne 31, 3) := by decide +kernel
theorem dX11_so_45 : decode cX11_so 45 = .ok (.iload_n 1, 1) := by decide +kernel
theorem dX11_so_46 : decode cX11_so 46 = .ok (.iconst 2, 1) := by decide +kernel
theorem dX11_so_47 : decode cX11_so 47 = .ok (.if_icmp .eq 8, 3) := by decide +kernel
theorem dX11_so_50 : decode cX11_so 50 = .ok (.iload_n 1, 1) := by decide +kernel
theorem dX11_so_51 : decode cX11_so 51 = .ok (.iconst 3, 1) := by decide +kernel
theorem dX11_so_52 : decode cX11_so 52 = .ok (.if_icmp .ne 17, 3) := by decide +kernel
theorem dX11_so_55 : decode cX11_so 55 = .ok (.aload_n 0, 1) := by decide +kernel
theorem dX11_so_56 : decode cX11_so 56 = .ok (.getfield 25, 3) := by decide +kernel
theorem dX11_so_59 : decode cX11_so 59 = .ok (.iload 4, 2) := by decide +kernel
theorem dX11_so_61 : decode cX11_so 61 = .ok (.iaload, 1) := by decide +kernel
theorem dX11_so_62 : decode cX11_so 62 = .ok (.aload_n 0, 1) := by decide +kernel
theorem dX11_so_63 : decode cX11_so 63 = .ok (.getfield 199, 3) := by decide +kernel
theorem dX11_so_66 : decode cX11_so 66 = .ok (.if_icmp .ne 7, 3) := by decide +kernel
theorem dX11_so_69 : decode cX11_so 69 = .ok (.iconst 1, 1) := by decide +kernel
theorem dX11_so_70 : decode cX11_so 70 = .ok (.goto 4, 3) := by decide +kernel
theorem dX11_so_73 : decode cX11_so 73 = .ok (.iconst 0, 1) := by decide +kernel
theorem dX11_so_74 : decode cX11_so 74 = .ok (.istore 5, 2) := by decide +kernel
theorem dX11_so_76 : decode cX11_so 76 = .ok (.iconst 0, 1) := by decide +kernel
theorem dX11_so_77 : decode cX11_so 77 = .ok (.istore 6, 2) := by decide +kernel
theorem dX11_so_79 : decode cX11_so 79 = .ok (.iload 6, 2) := by decide +kernel
theorem dX11_so_81 : decode cX11_so 81 = .ok (.aload_n 0, 1) := by decide +kernel
theorem dX11_so_82 : decode cX11_so 82 = .ok (.getfield 199, 3) := by decide +kernel
theorem dX11_so_85 : decode cX11_so 85 = .ok (.if_icmp .ge 77, 3) := by decide +kernel
theorem dX11_so_88 : decode cX11_so 88 = .ok (.iload 5, 2) := by decide +kernel
theorem dX11_so_90 : decode cX11_so 90 = .ok (.ifCond .eq 72, 3) := by decide +kernel
theorem dX11_so_93 : decode cX11_so 93 = .ok (.iload_n 1, 1) := by decide +kernel
theorem dX11_so_94 : decode cX11_so 94 = .ok (.iconst 2, 1) := by decide +kernel
theorem dX11_so_95 : decode cX11_so 95 = .ok (.if_icmp .eq 8, 3) := by decide +kernel
theorem dX11_so_98 : decode cX11_so 98 = .ok (.iload_n 1, 1) := by decide +kernel
theorem dX11_so_99 : decode cX11_so 99 = .ok (.iconst 3, 1) := by decide +kernel
theorem dX11_so_100 : decode cX11_so 100 = .ok (.if_icmp .ne 62, 3) := by decide +kernel
theorem dX11_so_103 : decode cX11_so 103 = .ok (.aload_n 0, 1) := by decide +kernel
theorem dX11_so_104 : decode cX11_so 104 = .ok (.getfield 28, 3) := by decide +kernel
theorem dX11_so_107 : decode cX11_so 107 = .ok (.bipush 8, 2) := by decide +kernel
theorem dX11_so_109 : decode cX11_so 109 = .ok (.iload 4, 2) := by decide +kernel
theorem dX11_so_111 : decode cX11_so 111 = .ok (.imul, 1) := by decide +kernel
theorem dX11_so_112 : decode cX11_so 112 = .ok (.iload 6, 2) := by decide +kernel
theorem dX11_so_114 : decode cX11_so 114 = .ok (.iadd, 1) := by decide +kernel
theorem dX11_so_115 : decode cX11_so 115 = .ok (.iaload, 1) := by decide +kernel
theorem dX11_so_116 : decode cX11_so 116 = .ok (.aload_n 0, 1) := by decide +kernel
theorem dX11_so_117 : decode cX11_so 117 = .ok (.getfield 94, 3) := by decide +kernel
theorem dX11_so_120 : decode cX11_so 120 = .ok (.iload 6, 2) := by decide +kernel
theorem dX11_so_122 : decode cX11_so 122 = .ok (.iaload, 1) := by decide +kernel
theorem dX11_so_123 : decode cX11_so 123 = .ok (.if_icmp .ne 30, 3) := by decide +kernel
theorem dX11_so_126 : decode cX11_so 126 = .ok (.aload_n 0, 1) := by decide +kernel
theorem dX11_so_127 : decode cX11_so 127 = .ok (.getfield 31, 3) := by decide +kernel
theorem dX11_so_130 : decode cX11_so 130 = .ok (.bipush 8, 2) := by decide +kernel
theorem dX11_so_132 : decode cX11_so 132 = .ok (.iload 4, 2) := by decide +kernel
theorem dX11_so_134 : decode cX11_so 134 = .ok (.imul, 1) := by decide +kernel
theorem dX11_so_135 : decode cX11_so 135 = .ok (.iload 6, 2) := by decide +kernel
theorem dX11_so_137 : decode cX11_so 137 = .ok (.iadd, 1) := by decide +kernel
theorem dX11_so_138 : decode cX11_so 138 = .ok (.iaload, 1) := by decide +kernel
theorem dX11_so_139 : decode cX11_so 139 = .ok (.aload_n 0, 1) := by decide +kernel
theorem dX11_so_140 : decode cX11_so 140 = .ok (.getfield 97, 3) := by decide +kernel
theorem dX11_so_143 : decode cX11_so 143 = .ok (.iload 6, 2) := by decide +kernel
theorem dX11_so_145 : decode cX11_so 145 = .ok (.iaload, 1) := by decide +kernel
theorem dX11_so_146 : decode cX11_so 146 = .ok (.if_icmp .ne 7, 3) := by decide +kernel
theorem dX11_so_149 : decode cX11_so 149 = .ok (.iconst 1, 1) := by decide +kernel
theorem dX11_so_150 : decode cX11_so 150 = .ok (.goto 4, 3) := by decide +kernel
theorem dX11_so_153 : decode cX11_so 153 = .ok (.iconst 0, 1) := by decide +kernel
theorem dX11_so_154 : decode cX11_so 154 = .ok (.istore 5, 2) := by decide +kernel
theorem dX11_so_156 : decode cX11_so 156 = .ok (.iinc 6 1, 3) := by decide +kernel
theorem dX11_so_159 : decode cX11_so 159 = .ok (.goto (-80), 3) := by decide +kernel
theorem dX11_so_162 : decode cX11_so 162 = .ok (.iload 5, 2) := by decide +kernel
theorem dX11_so_164 : decode cX11_so 164 = .ok (.ifCond .eq 6, 3) := by decide +kernel
theorem dX11_so_167 : decode cX11_so 167 = .ok (.iload 4, 2) := by decide +kernel
theorem dX11_so_169 : decode cX11_so 169 = .ok (.ireturn, 1) := by decide +kernel
theorem dX11_so_170 : decode cX11_so 170 = .ok (.iinc 4 1, 3) := by decide +kernel
theorem dX11_so_173 : decode cX11_so 173 = .ok (.goto (-170), 3) := by decide +kernel
theorem dX11_so_176 : decode cX11_so 176 = .ok (.aload_n 0, 1) := by decide +kernel
theorem dX11_so_177 : decode cX11_so 177 = .ok (.getfield 107, 3) := by decide +kernel
theorem dX11_so_180 : decode cX11_so 180 = .ok (.bipush 80, 2) := by decide +kernel
theorem dX11_so_182 : decode cX11_so 182 = .ok (.if_icmp .ne 10, 3) := by decide +kernel
theorem dX11_so_185 : decode cX11_so 185 = .ok (.aload_n 0, 1) := by decide +kernel
theorem dX11_so_186 : decode cX11_so 186 = .ok (.iconst 1, 1) := by decide +kernel
theorem dX11_so_187 : decode cX11_so 187 = .ok (.putfield 186, 3) := by decide +kernel
theorem dX11_so_190 : decode cX11_so 190 = .ok (.iconst 0, 1) := by decide +kernel
theorem dX11_so_191 : decode cX11_so 191 = .ok (.ireturn, 1) := by decide +kernel
theorem dX11_so_192 : decode cX11_so 192 = .ok (.aload_n 0, 1) := by decide +kernel
theorem dX11_so_193 : decode cX11_so 193 = .ok (.iload_n 1, 1) := by decide +kernel
theorem dX11_so_194 : decode cX11_so 194 = .ok (.iload_n 2, 1) := by decide +kernel
theorem dX11_so_195 : decode cX11_so 195 = .ok (.iload_n 3, 1) := by decide +kernel
theorem dX11_so_196 : decode cX11_so 196 = .ok (.invokevirtual 130, 3) := by decide +kernel
theorem dX11_so_199 : decode cX11_so 199 = .ok (.iconst 0, 1) := by decide +kernel
theorem dX11_so_200 : decode cX11_so 200 = .ok (.istore 4, 2) := by decide +kernel
theorem dX11_so_202 : decode cX11_so 202 = .ok (.iload 4, 2) := by decide +kernel
theorem dX11_so_204 : decode cX11_so 204 = .ok (.aload_n 0, 1) := by decide +kernel
theorem dX11_so_205 : decode cX11_so 205 = .ok (.getfield 199, 3) := by decide +kernel
theorem dX11_so_208 : decode cX11_so 208 = .ok (.if_icmp .ge 82, 3) := by decide +kernel
theorem dX11_so_211 : decode cX11_so 211 = .ok (.iload_n 1, 1) := by decide +kernel
theorem dX11_so_212 : decode cX11_so 212 = .ok (.iconst 2, 1) := by decide +kernel
theorem dX11_so_213 : decode cX11_so 213 = .ok (.if_icmp .eq 8, 3) := by decide +kernel
theorem dX11_so_216 : decode cX11_so 216 = .ok (.iload_n 1, 1) := by decide +kernel
theorem dX11_so_217 : decode cX11_so 217 = .ok (.iconst 3, 1) := by decide +kernel
theorem dX11_so_218 : decode cX11_so 218 = .ok (.if_icmp .ne 72, 3) := by decide +kernel
theorem dX11_so_221 : decode cX11_so 221 = .ok (.aload_n 0, 1) := by decide +kernel
theorem dX11_so_222 : decode cX11_so 222 = .ok (.getfield 28, 3) := by decide +kernel
theorem dX11_so_225 : decode cX11_so 225 = .ok (.bipush 8, 2) := by decide +kernel
theorem dX11_so_227 : decode cX11_so 227 = .ok (.aload_n 0, 1) := by decide +kernel
theorem dX11_so_228 : decode cX11_so 228 = .ok (.getfield 107, 3) := by decide +kernel
theorem dX11_so_231 : decode cX11_so 231 = .ok (.iconst 1, 1) := by decide +kernel
theorem dX11_so_232 : decode cX11_so 232 = .ok (.isub, 1) := by decide +kernel
theorem dX11_so_233 : decode cX11_so 233 = .ok (.imul, 1) := by decide +kernel
theorem dX11_so_234 : decode cX11_so 234 = .ok (.iload 4, 2) := by decide +kernel
theorem dX11_so_236 : decode cX11_so 236 = .ok (.iadd, 1) := by decide +kernel
theorem dX11_so_237 : decode cX11_so 237 = .ok (.aload_n 0, 1) := by decide +kernel
theorem dX11_so_238 : decode cX11_so 238 = .ok (.getfield 94, 3) := by decide +kernel
theorem dX11_so_241 : decode cX11_so 241 = .ok (.iload 4, 2) := by decide +kernel
theorem dX11_so_243 : decode cX11_so 243 = .ok (.iaload, 1) := by decide +kernel
theorem dX11_so_244 : decode cX11_so 244 = .ok (.iastore, 1) := by decide +kernel
theorem dX11_so_245 : decode cX11_so 245 = .ok (.aload_n 0, 1) := by decide +kernel
theorem dX11_so_246 : decode cX11_so 246 = .ok (.getfield 31, 3) := by decide +kernel
theorem dX11_so_249 : decode cX11_so 249 = .ok (.bipush 8, 2) := by decide +kernel
theorem dX11_so_251 : decode cX11_so 251 = .ok (.aload_n 0, 1) := by decide +kernel
theorem dX11_so_252 : decode cX11_so 252 = .ok (.getfield 107, 3) := by decide +kernel
theorem dX11_so_255 : decode cX11_so 255 = .ok (.iconst 1, 1) := by decide +kernel
theorem dX11_so_256 : decode cX11_so 256 = .ok (.isub, 1) := by decide +kernel
theorem dX11_so_257 : decode cX11_so 257 = .ok (.imul, 1) := by decide +kernel
theorem dX11_so_258 : decode cX11_so 258 = .ok (.iload 4, 2) := by decide +kernel
theorem dX11_so_260 : decode cX11_so 260 = .ok (.iadd, 1) := by decide +kernel
theorem dX11_so_261 : decode cX11_so 261 = .ok (.aload_n 0, 1) := by decide +kernel
theorem dX11_so_262 : decode cX11_so 262 = .ok (.getfield 97, 3) := by decide +kernel
theorem dX11_so_265 : decode cX11_so 265 = .ok (.iload 4, 2) := by decide +kernel
theorem dX11_so_267 : decode cX11_so 267 = .ok (.iaload, 1) := by decide +kernel
theorem dX11_so_268 : decode cX11_so 268 = .ok (.iastore, 1) := by decide +kernel
theorem dX11_so_269 : decode cX11_so 269 = .ok (.aload_n 0, 1) := by decide +kernel
theorem dX11_so_270 : decode cX11_so 270 = .ok (.getfield 25, 3) := by decide +kernel
theorem dX11_so_273 : decode cX11_so 273 = .ok (.aload_n 0, 1) := by decide +kernel
theorem dX11_so_274 : decode cX11_so 274 = .ok (.getfield 107, 3) := by decide +kernel
theorem dX11_so_277 : decode cX11_so 277 = .ok (.iconst 1, 1) := by decide +kernel
theorem dX11_so_278 : decode cX11_so 278 = .ok (.isub, 1) := by decide +kernel
theorem dX11_so_279 : decode cX11_so 279 = .ok (.dup2, 1) := by decide +kernel
theorem dX11_so_280 : decode cX11_so 280 = .ok (.iaload, 1) := by decide +kernel
theorem dX11_so_281 : decode cX11_so 281 = .ok (.iconst 1, 1) := by decide +kernel
theorem dX11_so_282 : decode cX11_so 282 = .ok (.iadd, 1) := by decide +kernel
theorem dX11_so_283 : decode cX11_so 283 = .ok (.iastore, 1) := by decide +kernel
theorem dX11_so_284 : decode cX11_so 284 = .ok (.iinc 4 1, 3) := by decide +kernel
theorem dX11_so_287 : decode cX11_so 287 = .ok (.goto (-85), 3) := by decide +kernel
theorem dX11_so_290 : decode cX11_so 290 = .ok (.aload_n 0, 1) := by decide +kernel
theorem dX11_so_291 : decode cX11_so 291 = .ok (.getfield 107, 3) := by decide +kernel
theorem dX11_so_294 : decode cX11_so 294 = .ok (.iconst 1, 1) := by decide +kernel
theorem dX11_so_295 : decode cX11_so 295 = .ok (.isub, 1) := by decide +kernel
theorem dX11_so_296 : decode cX11_so 296 = .ok (.ireturn, 1) := by decide +kernel
theorem dX11_newOther_0 : decode cX11_newOther 0 = .ok (.aload_n 0, 1) := by decide +kernel
theorem dX11_newOther_1 : decode cX11_newOther 1 = .ok (.getfield 16, 3) := by decide +kernel
theorem dX11_newOther_4 : decode cX11_newOther 4 = .ok (.iload_n 1, 1) := by decide +kernel
theorem dX11_newOther_5 : decode cX11_newOther 5 = .ok (.iaload, 1) := by decide +kernel
theorem dX11_newOther_6 : decode cX11_newOther 6 = .ok (.istore_n 2, 1) := by decide +kernel
theorem dX11_newOther_7 : decode cX11_newOther 7 = .ok (.iload_n 2, 1) := by decide +kernel
theorem dX11_newOther_8 : decode cX11_newOther 8 = .ok (.iconst 2, 1) := by decide +kernel
theorem dX11_newOther_9 : decode cX11_newOther 9 = .ok (.if_icmp .lt 9, 3) := by decide +kernel
theorem dX11_newOther_12 : decode cX11_newOther 12 = .ok (.iload_n 2, 1) := by decide +kernel
theorem dX11_newOther_13 : decode cX11_newOther 13 = .ok (.bipush 7, 2) := by decide +kernel
theorem dX11_newOther_15 : decode cX11_newOther 15 = .ok (.if_icmp .ne 50, 3) := by decide +kernel
theorem dX11_newOther_18 : decode cX11_newOther 18 = .ok (.iload_n 2, 1) := by decide +kernel
theorem dX11_newOther_19 : decode cX11_newOther 19 = .ok (.ifCond .ne 28, 3) := by decide +kernel
theorem dX11_newOther_22 : decode cX11_newOther 22 = .ok (.aload_n 0, 1) := by decide +kernel
theorem dX11_newOther_23 : decode cX11_newOther 23 = .ok (.getfield 13, 3) := by decide +kernel
theorem dX11_newOther_26 : decode cX11_newOther 26 = .ok (.aload_n 0, 1) := by decide +kernel
theorem dX11_newOther_27 : decode cX11_newOther 27 = .ok (.getfield 19, 3) := by decide +kernel
theorem dX11_newOther_30 : decode cX11_newOther 30 = .ok (.iload_n 1, 1) := by decide +kernel
theorem dX11_newOther_31 : decode cX11_newOther 31 = .ok (.iaload, 1) := by decide +kernel
theorem dX11_newOther_32 : decode cX11_newOther 32 = .ok (.iaload, 1) := by decide +kernel
theorem dX11_newOther_33 : decode cX11_newOther 33 = .ok (.ifCond .ne 14, 3) := by decide +kernel
theorem dX11_newOther_36 : decode cX11_newOther 36 = .ok (.aload_n 0, 1) := by decide +kernel
theorem dX11_newOther_37 : decode cX11_newOther 37 = .ok (.bipush 7, 2) := by decide +kernel
theorem dX11_newOther_39 : decode cX11_newOther 39 = .ok (.iconst 0, 1) := by decide +kernel
theorem dX11_newOther_40 : decode cX11_newOther 40 = .ok (.iconst 0, 1) := by decide +kernel
theorem dX11_newOther_41 : decode cX11_newOther 41 = .ok (.invokevirtual 202, 3) := by decide +kernel
theorem dX11_newOther_44 : decode cX11_newOther 44 = .ok (.goto 20, 3) := by decide +kernel
theorem dX11_newOther_47 : decode cX11_newOther 47 = .ok (.aload_n 0, 1) := by decide +kernel
theorem dX11_newOther_48 : decode cX11_newOther 48 = .ok (.iload_n 2, 1) := by decide +kernel
theorem dX11_newOther_49 : decode cX11_newOther 49 = .ok (.aload_n 0, 1) := by decide +kernel
theorem dX11_newOther_50 : decode cX11_newOther 50 = .ok (.getfield 19, 3) := by decide +kernel
theorem dX11_newOther_53 : decode cX11_newOther 53 = .ok (.iload_n 1, 1) := by decide +kernel
theorem dX11_newOther_54 : decode cX11_newOther 54 = .ok (.iaload, 1) := by decide +kernel
theorem dX11_newOther_55 : decode cX11_newOther 55 = .ok (.aload_n 0, 1) := by decide +kernel
theorem dX11_newOther_56 : decode cX11_newOther 56 = .ok (.getfield 22, 3) := by decide +kernel
theorem dX11_newOther_59 : decode cX11_newOther 59 = .ok (.iload_n 1, 1) := by decide +kernel
theorem dX11_newOther_60 : decode cX11_newOther 60 = .ok (.iaload, 1) := by decide +kernel
theorem dX11_newOther_61 : decode cX11_newOther 61 = .ok (.invokevirtual 202, 3) := by decide +kernel
theorem dX11_newOther_64 : decode cX11_newOther 64 = .ok (.ireturn, 1) := by decide +kernel
theorem dX11_newOther_65 : decode cX11_newOther 65 = .ok (.aload_n 0, 1) := by decide +kernel
theorem dX11_newOther_66 : decode cX11_newOther 66 = .ok (.getfield 91, 3) := by decide +kernel
theorem dX11_newOther_69 : decode cX11_newOther 69 = .ok (.aload_n 0, 1) := by decide +kernel
theorem dX11_newOther_70 : decode cX11_newOther 70 = .ok (.getfield 19, 3) := by decide +kernel
theorem dX11_newOther_73 : decode cX11_newOther 73 = .ok (.iload_n 1, 1) := by decide +kernel
theorem dX11_newOther_74 : decode cX11_newOther 74 = .ok (.iaload, 1) := by decide +kernel
theorem dX11_newOther_75 : decode cX11_newOther 75 = .ok (.iaload, 1) := by decide +kernel
theorem dX11_newOther_76 : decode cX11_newOther 76 = .ok (.istore_n 3, 1) := by decide +kernel
theorem dX11_newOther_77 : decode cX11_newOther 77 = .ok (.aload_n 0, 1) := by decide +kernel
theorem dX11_newOther_78 : decode cX11_newOther 78 = .ok (.getfield 16, 3) := by decide +kernel
theorem dX11_newOther_81 : decode cX11_newOther 81 = .ok (.iload_n 3, 1) := by decide +kernel
theorem dX11_newOther_82 : decode cX11_newOther 82 = .ok (.iaload, 1) := by decide +kernel
theorem dX11_newOther_83 : decode cX11_newOther 83 = .ok (.bipush 7, 2) := by decide +kernel
theorem dX11_newOther_85 : decode cX11_newOther 85 = .ok (.if_icmp .eq 20, 3) := by decide +kernel
theorem dX11_newOther_88 : decode cX11_newOther 88 = .ok (.iload_n 2, 1) := by decide +kernel
theorem dX11_newOther_89 : decode cX11_newOther 89 = .ok (.bipush 6, 2) := by decide +kernel
theorem dX11_newOther_91 : decode cX11_newOther 91 = .ok (.if_icmp .ne 16, 3) := by decide +kernel
theorem dX11_newOther_94 : decode cX11_newOther 94 = .ok (.aload_n 0, 1) := by decide +kernel
theorem dX11_newOther_95 : decode cX11_newOther 95 = .ok (.getfield 16, 3) := by decide +kernel
theorem dX11_newOther_98 : decode cX11_newOther 98 = .ok (.iload_n 3, 1) := by decide +kernel
theorem dX11_newOther_99 : decode cX11_newOther 99 = .ok (.iaload, 1) := by decide +kernel
theorem dX11_newOther_100 : decode cX11_newOther 100 = .ok (.bipush 6, 2) := by decide +kernel
theorem dX11_newOther_102 : decode cX11_newOther 102 = .ok (.if_icmp .ne 5, 3) := by decide +kernel
theorem dX11_newOther_105 : decode cX11_newOther 105 = .ok (.iload_n 3, 1) := by decide +kernel
theorem dX11_newOther_106 : decode cX11_newOther 106 = .ok (.ireturn, 1) := by decide +kernel
theorem dX11_newOther_107 : decode cX11_newOther 107 = .ok (.aload_n 0, 1) := by decide +kernel
theorem dX11_newOther_108 : decode cX11_newOther 108 = .ok (.getfield 16, 3) := by decide +kernel
theorem dX11_newOther_111 : decode cX11_newOther 111 = .ok (.iload_n 3, 1) := by decide +kernel
theorem dX11_newOther_112 : decode cX11_newOther 112 = .ok (.iaload, 1) := by decide +kernel
theorem dX11_newOther_113 : decode cX11_newOther 113 = .ok (.iconst 4, 1) := by decide +kernel
theorem dX11_newOther_114 : decode cX11_newOther 114 = .ok (.if_icmp .ne 12, 3) := by decide +kernel
theorem dX11_newOther_117 : decode cX11_newOther 117 = .ok (.iload_n 2, 1) := by decide +kernel
theorem dX11_newOther_118 : decode cX11_newOther 118 = .ok (.iconst 5, 1) := by decide +kernel
theorem dX11_newOther_119 : decode cX11_newOther 119 = .ok (.if_icmp .eq 7, 3) := by decide +kernel
theorem dX11_newOther_122 : decode cX11_newOther 122 = .ok (.iconst 1, 1) := by decide +kernel
theorem dX11_newOther_123 : decode cX11_newOther 123 = .ok (.goto 4, 3) := by decide +kernel
theorem dX11_newOther_126 : decode cX11_newOther 126 = .ok (.iconst 0, 1) := by decide +kernel
theorem dX11_newOther_127 : decode cX11_newOther 127 = .ok (.istore 4, 2) := by decide +kernel
theorem dX11_newOther_129 : decode cX11_newOther 129 = .ok (.aload_n 0, 1) := by decide +kernel
theorem dX11_newOther_130 : decode cX11_newOther 130 = .ok (.iload_n 2, 1) := by decide +kernel
theorem dX11_newOther_131 : decode cX11_newOther 131 = .ok (.iload 4, 2) := by decide +kernel
theorem dX11_newOther_133 : decode cX11_newOther 133 = .ok (.ifCond .eq 12, 3) := by decide +kernel
theorem dX11_newOther_136 : decode cX11_newOther 136 = .ok (.aload_n 0, 1) := by decide +kernel
theorem dX11_newOther_137 : decode cX11_newOther 137 = .ok (.getfield 19, 3) := by decide +kernel
theorem dX11_newOther_140 : decode cX11_newOther 140 = .ok (.iload_n 3, 1) := by decide +kernel
theorem dX11_newOther_141 : decode cX11_newOther 141 = .ok (.iaload, 1) := by decide +kernel
theorem dX11_newOther_142 : decode cX11_newOther 142 = .ok (.goto 4, 3) := by decide +kernel
theorem dX11_newOther_145 : decode cX11_newOther 145 = .ok (.iload_n 3, 1) := by decide +kernel
theorem dX11_newOther_146 : decode cX11_newOther 146 = .ok (.aload_n 0, 1) := by decide +kernel
theorem dX11_newOther_147 : decode cX11_newOther 147 = .ok (.getfield 22, 3) := by decide +kernel
theorem dX11_newOther_150 : decode cX11_newOther 150 = .ok (.iload_n 1, 1) := by decide +kernel
theorem dX11_newOther_151 : decode cX11_newOther 151 = .ok (.iaload, 1) := by decide +kernel
theorem dX11_newOther_152 : decode cX11_newOther 152 = .ok (.invokevirtual 202, 3) := by decide +kernel
theorem dX11_newOther_155 : decode cX11_newOther 155 = .ok (.ireturn, 1) := by decide +kernel
theorem dX11_lay_0 : decode cX11_lay 0 = .ok (.aload_n 0, 1) := by decide +kernel
theorem dX11_lay_1 : decode cX11_lay 1 = .ok (.getfield 94, 3) := by decide +kernel
theorem dX11_lay_4 : decode cX11_lay 4 = .ok (.aload_n 0, 1) := by decide +kernel
theorem dX11_lay_5 : decode cX11_lay 5 = .ok (.getfield 199, 3) := by decide +kernel
theorem dX11_lay_8 : decode cX11_lay 8 = .ok (.iload_n 1, 1) := by decide +kernel
theorem dX11_lay_9 : decode cX11_lay 9 = .ok (.iastore, 1) := by decide +kernel
theorem dX11_lay_10 : decode cX11_lay 10 = .ok (.aload_n 0, 1) := by decide +kernel
theorem dX11_lay_11 : decode cX11_lay 11 = .ok (.getfield 97, 3) := by decide +kernel
theorem dX11_lay_14 : decode cX11_lay 14 = .ok (.aload_n 0, 1) := by decide +kernel
theorem dX11_lay_15 : decode cX11_lay 15 = .ok (.getfield 199, 3) := by decide +kernel
theorem dX11_lay_18 : decode cX11_lay 18 = .ok (.iload_n 2, 1) := by decide +kernel
theorem dX11_lay_19 : decode cX11_lay 19 = .ok (.iastore, 1) := by decide +kernel
theorem dX11_lay_20 : decode cX11_lay 20 = .ok (.aload_n 0, 1) := by decide +kernel
theorem dX11_lay_21 : decode cX11_lay 21 = .ok (.dup, 1) := by decide +kernel
theorem dX11_lay_22 : decode cX11_lay 22 = .ok (.getfield 199, 3) := by decide +kernel
theorem dX11_lay_25 : decode cX11_lay 25 = .ok (.iconst 1, 1) := by decide +kernel
theorem dX11_lay_26 : decode cX11_lay 26 = .ok (.iadd, 1) := by decide +kernel
theorem dX11_lay_27 : decode cX11_lay 27 = .ok (.putfield 199, 3) := by decide +kernel
theorem dX11_lay_30 : decode cX11_lay 30 = .ok (.return_, 1) := by decide +kernel
theorem dX11_newBest_0 : decode cX11_newBest 0 = .ok (.aload_n 0, 1) := by decide +kernel
theorem dX11_newBest_1 : decode cX11_newBest 1 = .ok (.iconst 0, 1) := by decide +kernel
theorem dX11_newBest_2 : decode cX11_newBest 2 = .ok (.putfield 199, 3) := by decide +kernel
