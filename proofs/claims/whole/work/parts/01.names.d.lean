theorem dX6_leastBehind_23 : decode cX6_leastBehind 23 = .ok (.iaload, 1) := by decide +kernel
theorem dX6_leastBehind_24 : decode cX6_leastBehind 24 = .ok (.iload_n 1, 1) := by decide +kernel
theorem dX6_leastBehind_25 : decode cX6_leastBehind 25 = .ok (.iconst (-1), 1) := by decide +kernel
theorem dX6_leastBehind_26 : decode cX6_leastBehind 26 = .ok (.ixor, 1) := by decide +kernel
theorem dX6_leastBehind_27 : decode cX6_leastBehind 27 = .ok (.iand, 1) := by decide +kernel
theorem dX6_leastBehind_28 : decode cX6_leastBehind 28 = .ok (.ifCond .ne 5, 3) := by decide +kernel
theorem dX6_leastBehind_31 : decode cX6_leastBehind 31 = .ok (.iload_n 2, 1) := by decide +kernel
theorem dX6_leastBehind_32 : decode cX6_leastBehind 32 = .ok (.ireturn, 1) := by decide +kernel
theorem dX6_leastBehind_33 : decode cX6_leastBehind 33 = .ok (.iinc 2 1, 3) := by decide +kernel
theorem dX6_leastBehind_36 : decode cX6_leastBehind 36 = .ok (.goto (-34), 3) := by decide +kernel
theorem dX6_leastBehind_39 : decode cX6_leastBehind 39 = .ok (.iconst (-1), 1) := by decide +kernel
theorem dX6_leastBehind_40 : decode cX6_leastBehind 40 = .ok (.ireturn, 1) := by decide +kernel
theorem dX6_bestPair_0 : decode cX6_bestPair 0 = .ok (.aload_n 0, 1) := by decide +kernel
theorem dX6_bestPair_1 : decode cX6_bestPair 1 = .ok (.invokevirtual 41, 3) := by decide +kernel
theorem dX6_bestPair_4 : decode cX6_bestPair 4 = .ok (.istore_n 1, 1) := by decide +kernel
theorem dX6_bestPair_5 : decode cX6_bestPair 5 = .ok (.iconst (-1), 1) := by decide +kernel
theorem dX6_bestPair_6 : decode cX6_bestPair 6 = .ok (.istore_n 2, 1) := by decide +kernel
theorem dX6_bestPair_7 : decode cX6_bestPair 7 = .ok (.iload_n 1, 1) := by decide +kernel
theorem dX6_bestPair_8 : decode cX6_bestPair 8 = .ok (.istore_n 3, 1) := by decide +kernel
theorem dX6_bestPair_9 : decode cX6_bestPair 9 = .ok (.iconst 0, 1) := by decide +kernel
theorem dX6_bestPair_10 : decode cX6_bestPair 10 = .ok (.istore 4, 2) := by decide +kernel
theorem dX6_bestPair_12 : decode cX6_bestPair 12 = .ok (.iload 4, 2) := by decide +kernel
theorem dX6_bestPair_14 : decode cX6_bestPair 14 = .ok (.aload_n 0, 1) := by decide +kernel
theorem dX6_bestPair_15 : decode cX6_bestPair 15 = .ok (.getfield 18, 3) := by decide +kernel
theorem dX6_bestPair_18 : decode cX6_bestPair 18 = .ok (.if_icmp .ge 107, 3) := by decide +kernel
theorem dX6_bestPair_21 : decode cX6_bestPair 21 = .ok (.iload_n 1, 1) := by decide +kernel
theorem dX6_bestPair_22 : decode cX6_bestPair 22 = .ok (.iconst 2, 1) := by decide +kernel
theorem dX6_bestPair_23 : decode cX6_bestPair 23 = .ok (.if_icmp .lt 102, 3) := by decide +kernel
theorem dX6_bestPair_26 : decode cX6_bestPair 26 = .ok (.iload 4, 2) := by decide +kernel
theorem dX6_bestPair_28 : decode cX6_bestPair 28 = .ok (.iconst 1, 1) := by decide +kernel
theorem dX6_bestPair_29 : decode cX6_bestPair 29 = .ok (.iadd, 1) := by decide +kernel
theorem dX6_bestPair_30 : decode cX6_bestPair 30 = .ok (.istore 5, 2) := by decide +kernel
theorem dX6_bestPair_32 : decode cX6_bestPair 32 = .ok (.iload 5, 2) := by decide +kernel
theorem dX6_bestPair_34 : decode cX6_bestPair 34 = .ok (.aload_n 0, 1) := by decide +kernel
theorem dX6_bestPair_35 : decode cX6_bestPair 35 = .ok (.getfield 18, 3) := by decide +kernel
theorem dX6_bestPair_38 : decode cX6_bestPair 38 = .ok (.if_icmp .ge 81, 3) := by decide +kernel
theorem dX6_bestPair_41 : decode cX6_bestPair 41 = .ok (.aload_n 0, 1) := by decide +kernel
theorem dX6_bestPair_42 : decode cX6_bestPair 42 = .ok (.getfield 9, 3) := by decide +kernel
theorem dX6_bestPair_45 : decode cX6_bestPair 45 = .ok (.iload 5, 2) := by decide +kernel
theorem dX6_bestPair_47 : decode cX6_bestPair 47 = .ok (.iaload, 1) := by decide +kernel
theorem dX6_bestPair_48 : decode cX6_bestPair 48 = .ok (.istore 6, 2) := by decide +kernel
theorem dX6_bestPair_50 : decode cX6_bestPair 50 = .ok (.aload_n 0, 1) := by decide +kernel
theorem dX6_bestPair_51 : decode cX6_bestPair 51 = .ok (.getfield 9, 3) := by decide +kernel
theorem dX6_bestPair_54 : decode cX6_bestPair 54 = .ok (.iload 5, 2) := by decide +kernel
theorem dX6_bestPair_56 : decode cX6_bestPair 56 = .ok (.dup2, 1) := by decide +kernel
theorem dX6_bestPair_57 : decode cX6_bestPair 57 = .ok (.iaload, 1) := by decide +kernel
theorem dX6_bestPair_58 : decode cX6_bestPair 58 = .ok (.iconst 1, 1) := by decide +kernel
theorem dX6_bestPair_59 : decode cX6_bestPair 59 = .ok (.iload 4, 2) := by decide +kernel
theorem dX6_bestPair_61 : decode cX6_bestPair 61 = .ok (.ishl, 1) := by decide +kernel
theorem dX6_bestPair_62 : decode cX6_bestPair 62 = .ok (.ior, 1) := by decide +kernel
theorem dX6_bestPair_63 : decode cX6_bestPair 63 = .ok (.iastore, 1) := by decide +kernel
theorem dX6_bestPair_64 : decode cX6_bestPair 64 = .ok (.aload_n 0, 1) := by decide +kernel
theorem dX6_bestPair_65 : decode cX6_bestPair 65 = .ok (.invokevirtual 41, 3) := by decide +kernel
theorem dX6_bestPair_68 : decode cX6_bestPair 68 = .ok (.istore 7, 2) := by decide +kernel
theorem dX6_bestPair_70 : decode cX6_bestPair 70 = .ok (.aload_n 0, 1) := by decide +kernel
theorem dX6_bestPair_71 : decode cX6_bestPair 71 = .ok (.getfield 9, 3) := by decide +kernel
theorem dX6_bestPair_74 : decode cX6_bestPair 74 = .ok (.iload 5, 2) := by decide +kernel
theorem dX6_bestPair_76 : decode cX6_bestPair 76 = .ok (.iload 6, 2) := by decide +kernel
theorem dX6_bestPair_78 : decode cX6_bestPair 78 = .ok (.iastore, 1) := by decide +kernel
theorem dX6_bestPair_79 : decode cX6_bestPair 79 = .ok (.iload 7, 2) := by decide +kernel
theorem dX6_bestPair_81 : decode cX6_bestPair 81 = .ok (.iload_n 1, 1) := by decide +kernel
theorem dX6_bestPair_82 : decode cX6_bestPair 82 = .ok (.iload 7, 2) := by decide +kernel
theorem dX6_bestPair_84 : decode cX6_bestPair 84 = .ok (.isub, 1) := by decide +kernel
theorem dX6_bestPair_85 : decode cX6_bestPair 85 = .ok (.invokestatic 28, 3) := by decide +kernel
theorem dX6_bestPair_88 : decode cX6_bestPair 88 = .ok (.istore 8, 2) := by decide +kernel
theorem dX6_bestPair_90 : decode cX6_bestPair 90 = .ok (.iload_n 2, 1) := by decide +kernel
theorem dX6_bestPair_91 : decode cX6_bestPair 91 = .ok (.iconst (-1), 1) := by decide +kernel
theorem dX6_bestPair_92 : decode cX6_bestPair 92 = .ok (.if_icmp .eq 9, 3) := by decide +kernel
theorem dX6_bestPair_95 : decode cX6_bestPair 95 = .ok (.iload 8, 2) := by decide +kernel
theorem dX6_bestPair_97 : decode cX6_bestPair 97 = .ok (.iload_n 3, 1) := by decide +kernel
theorem dX6_bestPair_98 : decode cX6_bestPair 98 = .ok (.if_icmp .ge 15, 3) := by decide +kernel
theorem dX6_bestPair_101 : decode cX6_bestPair 101 = .ok (.iload 8, 2) := by decide +kernel
theorem dX6_bestPair_103 : decode cX6_bestPair 103 = .ok (.istore_n 3, 1) := by decide +kernel
theorem dX6_bestPair_104 : decode cX6_bestPair 104 = .ok (.bipush 8, 2) := by decide +kernel
theorem dX6_bestPair_106 : decode cX6_bestPair 106 = .ok (.iload 4, 2) := by decide +kernel
theorem dX6_bestPair_108 : decode cX6_bestPair 108 = .ok (.imul, 1) := by decide +kernel
theorem dX6_bestPair_109 : decode cX6_bestPair 109 = .ok (.iload 5, 2) := by decide +kernel
theorem dX6_bestPair_111 : decode cX6_bestPair 111 = .ok (.iadd, 1) := by decide +kernel
theorem dX6_bestPair_112 : decode cX6_bestPair 112 = .ok (.istore_n 2, 1) := by decide +kernel
theorem dX6_bestPair_113 : decode cX6_bestPair 113 = .ok (.iinc 5 1, 3) := by decide +kernel
theorem dX6_bestPair_116 : decode cX6_bestPair 116 = .ok (.goto (-84), 3) := by decide +kernel
theorem dX6_bestPair_119 : decode cX6_bestPair 119 = .ok (.iinc 4 1, 3) := by decide +kernel
theorem dX6_bestPair_122 : decode cX6_bestPair 122 = .ok (.goto (-110), 3) := by decide +kernel
theorem dX6_bestPair_125 : decode cX6_bestPair 125 = .ok (.iload_n 2, 1) := by decide +kernel
theorem dX6_bestPair_126 : decode cX6_bestPair 126 = .ok (.ireturn, 1) := by decide +kernel
theorem dX7_init_0 : decode cX7_init 0 = .ok (.aload_n 0, 1) := by decide +kernel
theorem dX7_init_1 : decode cX7_init 1 = .ok (.invokespecial 3, 3) := by decide +kernel
theorem dX7_init_4 : decode cX7_init 4 = .ok (.aload_n 0, 1) := by decide +kernel
theorem dX7_init_5 : decode cX7_init 5 = .ok (.new 9, 3) := by decide +kernel
theorem dX7_init_8 : decode cX7_init 8 = .ok (.dup, 1) := by decide +kernel
theorem dX7_init_9 : decode cX7_init 9 = .ok (.invokespecial 11, 3) := by decide +kernel
theorem dX7_init_12 : decode cX7_init 12 = .ok (.putfield 12, 3) := by decide +kernel
theorem dX7_init_15 : decode cX7_init 15 = .ok (.return_, 1) := by decide +kernel
theorem dX7_readLine_0 : decode cX7_readLine 0 = .ok (.aload_n 0, 1) := by decide +kernel
theorem dX7_readLine_1 : decode cX7_readLine 1 = .ok (.getstatic 18, 3) := by decide +kernel
theorem dX7_readLine_4 : decode cX7_readLine 4 = .ok (.invokevirtual 24, 3) := by decide +kernel
theorem dX7_readLine_7 : decode cX7_readLine 7 = .ok (.ifCond .eq 8, 3) := by decide +kernel
theorem dX7_readLine_10 : decode cX7_readLine 10 = .ok (.aload_n 0, 1) := by decide +kernel
theorem dX7_readLine_11 : decode cX7_readLine 11 = .ok (.invokevirtual 28, 3) := by decide +kernel
theorem dX7_readLine_14 : decode cX7_readLine 14 = .ok (.ireturn, 1) := by decide +kernel
theorem dX7_readLine_15 : decode cX7_readLine 15 = .ok (.aload_n 0, 1) := by decide +kernel
theorem dX7_readLine_16 : decode cX7_readLine 16 = .ok (.getstatic 32, 3) := by decide +kernel
theorem dX7_readLine_19 : decode cX7_readLine 19 = .ok (.invokevirtual 24, 3) := by decide +kernel
theorem dX7_readLine_22 : decode cX7_readLine 22 = .ok (.ifCond .eq 8, 3) := by decide +kernel
theorem dX7_readLine_25 : decode cX7_readLine 25 = .ok (.aload_n 0, 1) := by decide +kernel
theorem dX7_readLine_26 : decode cX7_readLine 26 = .ok (.invokevirtual 35, 3) := by decide +kernel
theorem dX7_readLine_29 : decode cX7_readLine 29 = .ok (.ireturn, 1) := by decide +kernel
theorem dX7_readLine_30 : decode cX7_readLine 30 = .ok (.aload_n 0, 1) := by decide +kernel
theorem dX7_readLine_31 : decode cX7_readLine 31 = .ok (.getstatic 38, 3) := by decide +kernel
theorem dX7_readLine_34 : decode cX7_readLine 34 = .ok (.invokevirtual 41, 3) := by decide +kernel
theorem dX7_readLine_37 : decode cX7_readLine 37 = .ok (.ifCond .eq 8, 3) := by decide +kernel
theorem dX7_readLine_40 : decode cX7_readLine 40 = .ok (.aload_n 0, 1) := by decide +kernel
theorem dX7_readLine_41 : decode cX7_readLine 41 = .ok (.invokevirtual 44, 3) := by decide +kernel
theorem dX7_readLine_44 : decode cX7_readLine 44 = .ok (.ireturn, 1) := by decide +kernel
theorem dX7_readLine_45 : decode cX7_readLine 45 = .ok (.aload_n 0, 1) := by decide +kernel
theorem dX7_readLine_46 : decode cX7_readLine 46 = .ok (.getstatic 47, 3) := by decide +kernel
theorem dX7_readLine_49 : decode cX7_readLine 49 = .ok (.invokevirtual 24, 3) := by decide +kernel
theorem dX7_readLine_52 : decode cX7_readLine 52 = .ok (.ifCond .eq 8, 3) := by decide +kernel
theorem dX7_readLine_55 : decode cX7_readLine 55 = .ok (.aload_n 0, 1) := by decide +kernel
theorem dX7_readLine_56 : decode cX7_readLine 56 = .ok (.invokevirtual 50, 3) := by decide +kernel
theorem dX7_readLine_59 : decode cX7_readLine 59 = .ok (.ireturn, 1) := by decide +kernel
theorem dX7_readLine_60 : decode cX7_readLine 60 = .ok (.aload_n 0, 1) := by decide +kernel
theorem dX7_readLine_61 : decode cX7_readLine 61 = .ok (.getstatic 53, 3) := by decide +kernel
theorem dX7_readLine_64 : decode cX7_readLine 64 = .ok (.invokevirtual 41, 3) := by decide +kernel
theorem dX7_readLine_67 : decode cX7_readLine 67 = .ok (.ifCond .eq 52, 3) := by decide +kernel
theorem dX7_readLine_70 : decode cX7_readLine 70 = .ok (.aload_n 0, 1) := by decide +kernel
theorem dX7_readLine_71 : decode cX7_readLine 71 = .ok (.iconst 0, 1) := by decide +kernel
theorem dX7_readLine_72 : decode cX7_readLine 72 = .ok (.aload_n 0, 1) := by decide +kernel
theorem dX7_readLine_73 : decode cX7_readLine 73 = .ok (.getfield 12, 3) := by decide +kernel
theorem dX7_readLine_76 : decode cX7_readLine 76 = .ok (.getfield 56, 3) := by decide +kernel
theorem dX7_readLine_79 : decode cX7_readLine 79 = .ok (.iconst 1, 1) := by decide +kernel
theorem dX7_readLine_80 : decode cX7_readLine 80 = .ok (.isub, 1) := by decide +kernel
theorem dX7_readLine_81 : decode cX7_readLine 81 = .ok (.invokevirtual 60, 3) := by decide +kernel
theorem dX7_readLine_84 : decode cX7_readLine 84 = .ok (.istore_n 1, 1) := by decide +kernel
theorem dX7_readLine_85 : decode cX7_readLine 85 = .ok (.aload_n 0, 1) := by decide +kernel
theorem dX7_readLine_86 : decode cX7_readLine 86 = .ok (.getfield 12, 3) := by decide +kernel
theorem dX7_readLine_89 : decode cX7_readLine 89 = .ok (.iload_n 1, 1) := by decide +kernel
theorem dX7_readLine_90 : decode cX7_readLine 90 = .ok (.iconst (-1), 1) := by decide +kernel
theorem dX7_readLine_91 : decode cX7_readLine 91 = .ok (.if_icmp .ne 13, 3) := by decide +kernel
theorem dX7_readLine_94 : decode cX7_readLine 94 = .ok (.aload_n 0, 1) := by decide +kernel
theorem dX7_readLine_95 : decode cX7_readLine 95 = .ok (.getfield 12, 3) := by decide +kernel
theorem dX7_readLine_98 : decode cX7_readLine 98 = .ok (.getfield 64, 3) := by decide +kernel
theorem dX7_readLine_101 : decode cX7_readLine 101 = .ok (.goto 4, 3) := by decide +kernel
theorem dX7_readLine_104 : decode cX7_readLine 104 = .ok (.iload_n 1, 1) := by decide +kernel
theorem dX7_readLine_105 : decode cX7_readLine 105 = .ok (.putfield 64, 3) := by decide +kernel
theorem dX7_readLine_108 : decode cX7_readLine 108 = .ok (.iload_n 1, 1) := by decide +kernel
theorem dX7_readLine_109 : decode cX7_readLine 109 = .ok (.iconst (-1), 1) := by decide +kernel
theorem dX7_readLine_110 : decode cX7_readLine 110 = .ok (.if_icmp .eq 7, 3) := by decide +kernel
theorem dX7_readLine_113 : decode cX7_readLine 113 = .ok (.iconst 1, 1) := by decide +kernel
theorem dX7_readLine_114 : decode cX7_readLine 114 = .ok (.goto 4, 3) := by decide +kernel
theorem dX7_readLine_117 : decode cX7_readLine 117 = .ok (.iconst 0, 1) := by decide +kernel
theorem dX7_readLine_118 : decode cX7_readLine 118 = .ok (.ireturn, 1) := by decide +kernel
theorem dX7_readLine_119 : decode cX7_readLine 119 = .ok (.aload_n 0, 1) := by decide +kernel
theorem dX7_readLine_120 : decode cX7_readLine 120 = .ok (.getstatic 67, 3) := by decide +kernel
theorem dX7_readLine_123 : decode cX7_readLine 123 = .ok (.invokevirtual 41, 3) := by decide +kernel
theorem dX7_readLine_126 : decode cX7_readLine 126 = .ok (.ifCond .eq 45, 3) := by decide +kernel
theorem dX7_readLine_129 : decode cX7_readLine 129 = .ok (.aload_n 0, 1) := by decide +kernel
theorem dX7_readLine_130 : decode cX7_readLine 130 = .ok (.iconst 0, 1) := by decide +kernel
theorem dX7_readLine_131 : decode cX7_readLine 131 = .ok (.bipush 100, 2) := by decide +kernel
theorem dX7_readLine_133 : decode cX7_readLine 133 = .ok (.invokevirtual 60, 3) := by decide +kernel
theorem dX7_readLine_136 : decode cX7_readLine 136 = .ok (.istore_n 1, 1) := by decide +kernel
theorem dX7_readLine_137 : decode cX7_readLine 137 = .ok (.aload_n 0, 1) := by decide +kernel
theorem dX7_readLine_138 : decode cX7_readLine 138 = .ok (.getfield 12, 3) := by decide +kernel
theorem dX7_readLine_141 : decode cX7_readLine 141 = .ok (.iload_n 1, 1) := by decide +kernel
theorem dX7_readLine_142 : decode cX7_readLine 142 = .ok (.iconst (-1), 1) := by decide +kernel
theorem dX7_readLine_143 : decode cX7_readLine 143 = .ok (.if_icmp .ne 13, 3) := by decide +kernel
theorem dX7_readLine_146 : decode cX7_readLine 146 = .ok (.aload_n 0, 1) := by decide +kernel
theorem dX7_readLine_147 : decode cX7_readLine 147 = .ok (.getfield 12, 3) := by decide +kernel
theorem dX7_readLine_150 : decode cX7_readLine 150 = .ok (.getfield 70, 3) := by decide +kernel
theorem dX7_readLine_153 : decode cX7_readLine 153 = .ok (.goto 4, 3) := by decide +kernel
theorem dX7_readLine_156 : decode cX7_readLine 156 = .ok (.iload_n 1, 1) := by decide +kernel
theorem dX7_readLine_157 : decode cX7_readLine 157 = .ok (.putfield 70, 3) := by decide +kernel
theorem dX7_readLine_160 : decode cX7_readLine 160 = .ok (.iload_n 1, 1) := by decide +kernel
theorem dX7_readLine_161 : decode cX7_readLine 161 = .ok (.iconst (-1), 1) := by decide +kernel
theorem dX7_readLine_162 : decode cX7_readLine 162 = .ok (.if_icmp .eq 7, 3) := by decide +kernel
theorem dX7_readLine_165 : decode cX7_readLine 165 = .ok (.iconst 1, 1) := by decide +kernel
theorem dX7_readLine_166 : decode cX7_readLine 166 = .ok (.goto 4, 3) := by decide +kernel
theorem dX7_readLine_169 : decode cX7_readLine 169 = .ok (.iconst 0, 1) := by decide +kernel
theorem dX7_readLine_170 : decode cX7_readLine 170 = .ok (.ireturn, 1) := by decide +kernel
theorem dX7_readLine_171 : decode cX7_readLine 171 = .ok (.aload_n 0, 1) := by decide +kernel
theorem dX7_readLine_172 : decode cX7_readLine 172 = .ok (.getstatic 73, 3) := by decide +kernel
theorem dX7_readLine_175 : decode cX7_readLine 175 = .ok (.invokevirtual 41, 3) := by decide +kernel
theorem dX7_readLine_178 : decode cX7_readLine 178 = .ok (.ifCond .eq 13, 3) := by decide +kernel
theorem dX7_readLine_181 : decode cX7_readLine 181 = .ok (.aload_n 0, 1) := by decide +kernel
theorem dX7_readLine_182 : decode cX7_readLine 182 = .ok (.getfield 12, 3) := by decide +kernel
theorem dX7_readLine_185 : decode cX7_readLine 185 = .ok (.iconst 1, 1) := by decide +kernel
theorem dX7_readLine_186 : decode cX7_readLine 186 = .ok (.putfield 76, 3) := by decide +kernel
theorem dX7_readLine_189 : decode cX7_readLine 189 = .ok (.iconst 1, 1) := by decide +kernel
theorem dX7_readLine_190 : decode cX7_readLine 190 = .ok (.ireturn, 1) := by decide +kernel
theorem dX7_readLine_191 : decode cX7_readLine 191 = .ok (.aload_n 0, 1) := by decide +kernel
theorem dX7_readLine_192 : decode cX7_readLine 192 = .ok (.getstatic 80, 3) := by decide +kernel
theorem dX7_readLine_195 : decode cX7_readLine 195 = .ok (.invokevirtual 41, 3) := by decide +kernel
theorem dX7_readLine_198 : decode cX7_readLine 198 = .ok (.ifCond .eq 46, 3) := by decide +kernel
theorem dX7_readLine_201 : decode cX7_readLine 201 = .ok (.aload_n 0, 1) := by decide +kernel
theorem dX7_readLine_202 : decode cX7_readLine 202 = .ok (.iconst 0, 1) := by decide +kernel
theorem dX7_readLine_203 : decode cX7_readLine 203 = .ok (.sipush 999, 3) := by decide +kernel
theorem dX7_readLine_206 : decode cX7_readLine 206 = .ok (.invokevirtual 60, 3) := by decide +kernel
theorem dX7_readLine_209 : decode cX7_readLine 209 = .ok (.istore_n 1, 1) := by decide +kernel
theorem dX7_readLine_210 : decode cX7_readLine 210 = .ok (.aload_n 0, 1) := by decide +kernel
theorem dX7_readLine_211 : decode cX7_readLine 211 = .ok (.getfield 12, 3) := by decide +kernel
theorem dX7_readLine_214 : decode cX7_readLine 214 = .ok (.iload_n 1, 1) := by decide +kernel
theorem dX7_readLine_215 : decode cX7_readLine 215 = .ok (.iconst (-1), 1) := by decide +kernel
theorem dX7_readLine_216 : decode cX7_readLine 216 = .ok (.if_icmp .ne 13, 3) := by decide +kernel
theorem dX7_readLine_219 : decode cX7_readLine 219 = .ok (.aload_n 0, 1) := by decide +kernel
theorem dX7_readLine_220 : decode cX7_readLine 220 = .ok (.getfield 12, 3) := by decide +kernel
theorem dX7_readLine_223 : decode cX7_readLine 223 = .ok (.getfield 83, 3) := by decide +kernel
theorem dX7_readLine_226 : decode cX7_readLine 226 = .ok (.goto 4, 3) := by decide +kernel
theorem dX7_readLine_229 : decode cX7_readLine 229 = .ok (.iload_n 1, 1) := by decide +kernel
theorem dX7_readLine_230 : decode cX7_readLine 230 = .ok (.putfield 83, 3) := by decide +kernel
theorem dX7_readLine_233 : decode cX7_readLine 233 = .ok (.iload_n 1, 1) := by decide +kernel
theorem dX7_readLine_234 : decode cX7_readLine 234 = .ok (.iconst (-1), 1) := by decide +kernel
theorem dX7_readLine_235 : decode cX7_readLine 235 = .ok (.if_icmp .eq 7, 3) := by decide +kernel
theorem dX7_readLine_238 : decode cX7_readLine 238 = .ok (.iconst 1, 1) := by decide +kernel
theorem dX7_readLine_239 : decode cX7_readLine 239 = .ok (.goto 4, 3) := by decide +kernel
theorem dX7_readLine_242 : decode cX7_readLine 242 = .ok (.iconst 0, 1) := by decide +kernel
theorem dX7_readLine_243 : decode cX7_readLine 243 = .ok (.ireturn, 1) := by decide +kernel
theorem dX7_readLine_244 : decode cX7_readLine 244 = .ok (.iconst 0, 1) := by decide +kernel
theorem dX7_readLine_245 : decode cX7_readLine 245 = .ok (.ireturn, 1) := by decide +kernel
theorem dX7_readLong_0 : decode cX7_readLong 0 = .ok (.aload_n 0, 1) := by decide +kernel
theorem dX7_readLong_1 : decode cX7_readLong 1 = .ok (.getfield 12, 3) := by decide +kernel
theorem dX7_readLong_4 : decode cX7_readLong 4 = .ok (.getfield 86, 3) := by decide +kernel
theorem dX7_readLong_7 : decode cX7_readLong 7 = .ok (.ifCond .gt 13, 3) := by decide +kernel
theorem dX7_readLong_10 : decode cX7_readLong 10 = .ok (.aload_n 0, 1) := by decide +kernel
theorem dX7_readLong_11 : decode cX7_readLong 11 = .ok (.getfield 12, 3) := by decide +kernel
theorem dX7_readLong_14 : decode cX7_readLong 14 = .ok (.getfield 89, 3) := by decide +kernel
theorem dX7_readLong_17 : decode cX7_readLong 17 = .ok (.ifCond .le 5, 3) := by decide +kernel
theorem dX7_readLong_20 : decode cX7_readLong 20 = .ok (.iconst 0, 1) := by decide +kernel
theorem dX7_readLong_21 : decode cX7_readLong 21 = .ok (.ireturn, 1) := by decide +kernel
theorem dX7_readLong_22 : decode cX7_readLong 22 = .ok (.aload_n 0, 1) := by decide +kernel
theorem dX7_readLong_23 : decode cX7_readLong 23 = .ok (.invokevirtual 92, 3) := by decide +kernel
theorem dX7_readLong_26 : decode cX7_readLong 26 = .ok (.aload_n 0, 1) := by decide +kernel
theorem dX7_readLong_27 : decode cX7_readLong 27 = .ok (.bipush 10, 2) := by decide +kernel
theorem dX7_readLong_29 : decode cX7_readLong 29 = .ok (.sipush 200, 3) := by decide +kernel
theorem dX7_readLong_32 : decode cX7_readLong 32 = .ok (.invokevirtual 60, 3) := by decide +kernel
theorem dX7_readLong_35 : decode cX7_readLong 35 = .ok (.istore_n 1, 1) := by decide +kernel
theorem dX7_readLong_36 : decode cX7_readLong 36 = .ok (.iload_n 1, 1) := by decide +kernel
theorem dX7_readLong_37 : decode cX7_readLong 37 = .ok (.iconst (-1), 1) := by decide +kernel
theorem dX7_readLong_38 : decode cX7_readLong 38 = .ok (.if_icmp .ne 5, 3) := by decide +kernel
theorem dX7_readLong_41 : decode cX7_readLong 41 = .ok (.iconst 0, 1) := by decide +kernel
theorem dX7_readLong_42 : decode cX7_readLong 42 = .ok (.ireturn, 1) := by decide +kernel
theorem dX7_readLong_43 : decode cX7_readLong 43 = .ok (.aload_n 0, 1) := by decide +kernel
theorem dX7_readLong_44 : decode cX7_readLong 44 = .ok (.getfield 12, 3) := by decide +kernel
theorem dX7_readLong_47 : decode cX7_readLong 47 = .ok (.iload_n 1, 1) := by decide +kernel
theorem dX7_readLong_48 : decode cX7_readLong 48 = .ok (.putfield 56, 3) := by decide +kernel
theorem dX7_readLong_51 : decode cX7_readLong 51 = .ok (.aload_n 0, 1) := by decide +kernel
theorem dX7_readLong_52 : decode cX7_readLong 52 = .ok (.getfield 12, 3) := by decide +kernel
theorem dX7_readLong_55 : decode cX7_readLong 55 = .ok (.aload_n 0, 1) := by decide +kernel
theorem dX7_readLong_56 : decode cX7_readLong 56 = .ok (.getfield 12, 3) := by decide +kernel
theorem dX7_readLong_59 : decode cX7_readLong 59 = .ok (.getfield 64, 3) := by decide +kernel
theorem dX7_readLong_62 : decode cX7_readLong 62 = .ok (.iload_n 1, 1) := by decide +kernel
theorem dX7_readLong_63 : decode cX7_readLong 63 = .ok (.iconst 1, 1) := by decide +kernel
theorem dX7_readLong_64 : decode cX7_readLong 64 = .ok (.isub, 1) := by decide +kernel
theorem dX7_readLong_65 : decode cX7_readLong 65 = .ok (.invokestatic 95, 3) := by decide +kernel
theorem dX7_readLong_68 : decode cX7_readLong 68 = .ok (.putfield 64, 3) := by decide +kernel
theorem dX7_readLong_71 : decode cX7_readLong 71 = .ok (.iconst 1, 1) := by decide +kernel
theorem dX7_readLong_72 : decode cX7_readLong 72 = .ok (.ireturn, 1) := by decide +kernel
theorem dX7_readWalker_0 : decode cX7_readWalker 0 = .ok (.aload_n 0, 1) := by decide +kernel
theorem dX7_readWalker_1 : decode cX7_readWalker 1 = .ok (.getfield 12, 3) := by decide +kernel
theorem dX7_readWalker_4 : decode cX7_readWalker 4 = .ok (.getfield 86, 3) := by decide +kernel
theorem dX7_readWalker_7 : decode cX7_readWalker 7 = .ok (.bipush 7, 2) := by decide +kernel
theorem dX7_readWalker_9 : decode cX7_readWalker 9 = .ok (.if_icmp .lt 5, 3) := by decide +kernel
theorem dX7_readWalker_12 : decode cX7_readWalker 12 = .ok (.iconst 0, 1) := by decide +kernel
theorem dX7_readWalker_13 : decode cX7_readWalker 13 = .ok (.ireturn, 1) := by decide +kernel
theorem dX7_readWalker_14 : decode cX7_readWalker 14 = .ok (.aload_n 0, 1) := by decide +kernel
theorem dX7_readWalker_15 : decode cX7_readWalker 15 = .ok (.invokevirtual 92, 3) := by decide +kernel
theorem dX7_readWalker_18 : decode cX7_readWalker 18 = .ok (.aload_n 0, 1) := by decide +kernel
theorem dX7_readWalker_19 : decode cX7_readWalker 19 = .ok (.getstatic 100, 3) := by decide +kernel
theorem dX7_readWalker_22 : decode cX7_readWalker 22 = .ok (.iconst 0, 1) := by decide +kernel
theorem dX7_readWalker_23 : decode cX7_readWalker 23 = .ok (.aload_n 0, 1) := by decide +kernel
theorem dX7_readWalker_24 : decode cX7_readWalker 24 = .ok (.getfield 12, 3) := by decide +kernel
theorem dX7_readWalker_27 : decode cX7_readWalker 27 = .ok (.getfield 56, 3) := by decide +kernel
theorem dX7_readWalker_30 : decode cX7_readWalker 30 = .ok (.iconst 1, 1) := by decide +kernel
theorem dX7_readWalker_31 : decode cX7_readWalker 31 = .ok (.isub, 1) := by decide +kernel
theorem dX7_readWalker_32 : decode cX7_readWalker 32 = .ok (.invokevirtual 103, 3) := by decide +kernel
theorem dX7_readWalker_35 : decode cX7_readWalker 35 = .ok (.istore_n 1, 1) := by decide +kernel
theorem dX7_readWalker_36 : decode cX7_readWalker 36 = .ok (.iload_n 1, 1) := by decide +kernel
theorem dX7_readWalker_37 : decode cX7_readWalker 37 = .ok (.iconst (-1), 1) := by decide +kernel
theorem dX7_readWalker_38 : decode cX7_readWalker 38 = .ok (.if_icmp .ne 7, 3) := by decide +kernel
theorem dX7_readWalker_41 : decode cX7_readWalker 41 = .ok (.iconst (-1), 1) := by decide +kernel
theorem dX7_readWalker_42 : decode cX7_readWalker 42 = .ok (.goto 13, 3) := by decide +kernel
theorem dX7_readWalker_45 : decode cX7_readWalker 45 = .ok (.aload_n 0, 1) := by decide +kernel
theorem dX7_readWalker_46 : decode cX7_readWalker 46 = .ok (.getstatic 107, 3) := by decide +kernel
theorem dX7_readWalker_49 : decode cX7_readWalker 49 = .ok (.iconst 0, 1) := by decide +kernel
theorem dX7_readWalker_50 : decode cX7_readWalker 50 = .ok (.bipush 99, 2) := by decide +kernel
theorem dX7_readWalker_52 : decode cX7_readWalker 52 = .ok (.invokevirtual 103, 3) := by decide +kernel
theorem dX7_readWalker_55 : decode cX7_readWalker 55 = .ok (.istore_n 2, 1) := by decide +kernel
theorem dX7_readWalker_56 : decode cX7_readWalker 56 = .ok (.iload_n 2, 1) := by decide +kernel
theorem dX7_readWalker_57 : decode cX7_readWalker 57 = .ok (.iconst (-1), 1) := by decide +kernel
theorem dX7_readWalker_58 : decode cX7_readWalker 58 = .ok (.if_icmp .ne 5, 3) := by decide +kernel
theorem dX7_readWalker_61 : decode cX7_readWalker 61 = .ok (.iconst 0, 1) := by decide +kernel
theorem dX7_readWalker_62 : decode cX7_readWalker 62 = .ok (.ireturn, 1) := by decide +kernel
theorem dX7_readWalker_63 : decode cX7_readWalker 63 = .ok (.aload_n 0, 1) := by decide +kernel
theorem dX7_readWalker_64 : decode cX7_readWalker 64 = .ok (.getfield 12, 3) := by decide +kernel
theorem dX7_readWalker_67 : decode cX7_readWalker 67 = .ok (.iload_n 1, 1) := by decide +kernel
theorem dX7_readWalker_68 : decode cX7_readWalker 68 = .ok (.iload_n 2, 1) := by decide +kernel
theorem dX7_readWalker_69 : decode cX7_readWalker 69 = .ok (.invokevirtual 110, 3) := by decide +kernel
theorem dX7_readWalker_72 : decode cX7_readWalker 72 = .ok (.aload_n 0, 1) := by decide +kernel
theorem dX7_readWalker_73 : decode cX7_readWalker 73 = .ok (.getstatic 114, 3) := by decide +kernel
theorem dX7_readWalker_76 : decode cX7_readWalker 76 = .ok (.invokevirtual 41, 3) := by decide +kernel
theorem dX7_readWalker_79 : decode cX7_readWalker 79 = .ok (.ifCond .eq 26, 3) := by decide +kernel
theorem dX7_readWalker_82 : decode cX7_readWalker 82 = .ok (.aload_n 0, 1) := by decide +kernel
theorem dX7_readWalker_83 : decode cX7_readWalker 83 = .ok (.getfield 12, 3) := by decide +kernel
theorem dX7_readWalker_86 : decode cX7_readWalker 86 = .ok (.dup, 1) := by decide +kernel
theorem dX7_readWalker_87 : decode cX7_readWalker 87 = .ok (.getfield 117, 3) := by decide +kernel
theorem dX7_readWalker_90 : decode cX7_readWalker 90 = .ok (.iconst 1, 1) := by decide +kernel
theorem dX7_readWalker_91 : decode cX7_readWalker 91 = .ok (.aload_n 0, 1) := by decide +kernel
theorem dX7_readWalker_92 : decode cX7_readWalker 92 = .ok (.getfield 12, 3) := by decide +kernel
theorem dX7_readWalker_95 : decode cX7_readWalker 95 = .ok (.getfield 86, 3) := by decide +kernel
theorem dX7_readWalker_98 : decode cX7_readWalker 98 = .ok (.iconst 1, 1) := by decide +kernel
theorem dX7_readWalker_99 : decode cX7_readWalker 99 = .ok (.isub, 1) := by decide +kernel
theorem dX7_readWalker_100 : decode cX7_readWalker 100 = .ok (.ishl, 1) := by decide +kernel
theorem dX7_readWalker_101 : decode cX7_readWalker 101 = .ok (.ior, 1) := by decide +kernel
theorem dX7_readWalker_102 : decode cX7_readWalker 102 = .ok (.putfield 117, 3) := by decide +kernel
theorem dX7_readWalker_105 : decode cX7_readWalker 105 = .ok (.iconst 1, 1) := by decide +kernel
theorem dX7_readWalker_106 : decode cX7_readWalker 106 = .ok (.ireturn, 1) := by decide +kernel
theorem dX7_readShuns_0 : decode cX7_readShuns 0 = .ok (.aload_n 0, 1) := by decide +kernel
theorem dX7_readShuns_1 : decode cX7_readShuns 1 = .ok (.iconst 0, 1) := by decide +kernel
theorem dX7_readShuns_2 : decode cX7_readShuns 2 = .ok (.aload_n 0, 1) := by decide +kernel
theorem dX7_readShuns_3 : decode cX7_readShuns 3 = .ok (.getfield 12, 3) := by decide +kernel
theorem dX7_readShuns_6 : decode cX7_readShuns 6 = .ok (.getfield 86, 3) := by decide +kernel
theorem dX7_readShuns_9 : decode cX7_readShuns 9 = .ok (.iconst 1, 1) := by decide +kernel
theorem dX7_readShuns_10 : decode cX7_readShuns 10 = .ok (.isub, 1) := by decide +kernel
theorem dX7_readShuns_11 : decode cX7_readShuns 11 = .ok (.invokevirtual 60, 3) := by decide +kernel
theorem dX7_readShuns_14 : decode cX7_readShuns 14 = .ok (.istore_n 1, 1) := by decide +kernel
theorem dX7_readShuns_15 : decode cX7_readShuns 15 = .ok (.iload_n 1, 1) := by decide +kernel
theorem dX7_readShuns_16 : decode cX7_readShuns 16 = .ok (.ifCond .lt 17, 3) := by decide +kernel
theorem dX7_readShuns_19 : decode cX7_readShuns 19 = .ok (.iload_n 1, 1) := by decide +kernel
theorem dX7_readShuns_20 : decode cX7_readShuns 20 = .ok (.bipush 7, 2) := by decide +kernel
theorem dX7_readShuns_22 : decode cX7_readShuns 22 = .ok (.if_icmp .ge 11, 3) := by decide +kernel
theorem dX7_readShuns_25 : decode cX7_readShuns 25 = .ok (.aload_n 0, 1) := by decide +kernel
theorem dX7_readShuns_26 : decode cX7_readShuns 26 = .ok (.iload_n 1, 1) := by decide +kernel
theorem dX7_readShuns_27 : decode cX7_readShuns 27 = .ok (.invokevirtual 120, 3) := by decide +kernel
theorem dX7_readShuns_30 : decode cX7_readShuns 30 = .ok (.ifCond .eq 5, 3) := by decide +kernel
theorem dX7_readShuns_33 : decode cX7_readShuns 33 = .ok (.iconst 0, 1) := by decide +kernel
theorem dX7_readShuns_34 : decode cX7_readShuns 34 = .ok (.ireturn, 1) := by decide +kernel
theorem dX7_readShuns_35 : decode cX7_readShuns 35 = .ok (.aload_n 0, 1) := by decide +kernel
theorem dX7_readShuns_36 : decode cX7_readShuns 36 = .ok (.iconst 0, 1) := by decide +kernel
theorem dX7_readShuns_37 : decode cX7_readShuns 37 = .ok (.aload_n 0, 1) := by decide +kernel
theorem dX7_readShuns_38 : decode cX7_readShuns 38 = .ok (.getfield 12, 3) := by decide +kernel
theorem dX7_readShuns_41 : decode cX7_readShuns 41 = .ok (.getfield 86, 3) := by decide +kernel
theorem dX7_readShuns_44 : decode cX7_readShuns 44 = .ok (.iconst 1, 1) := by decide +kernel
theorem dX7_readShuns_45 : decode cX7_readShuns 45 = .ok (.isub, 1) := by decide +kernel
theorem dX7_readShuns_46 : decode cX7_readShuns 46 = .ok (.invokevirtual 60, 3) := by decide +kernel
theorem dX7_readShuns_49 : decode cX7_readShuns 49 = .ok (.istore_n 2, 1) := by decide +kernel
theorem dX7_readShuns_50 : decode cX7_readShuns 50 = .ok (.iload_n 2, 1) := by decide +kernel
theorem dX7_readShuns_51 : decode cX7_readShuns 51 = .ok (.iconst (-1), 1) := by decide +kernel
theorem dX7_readShuns_52 : decode cX7_readShuns 52 = .ok (.if_icmp .ne 5, 3) := by decide +kernel
theorem dX7_readShuns_55 : decode cX7_readShuns 55 = .ok (.iconst 0, 1) := by decide +kernel
theorem dX7_readShuns_56 : decode cX7_readShuns 56 = .ok (.ireturn, 1) := by decide +kernel
theorem dX7_readShuns_57 : decode cX7_readShuns 57 = .ok (.aload_n 0, 1) := by decide +kernel
theorem dX7_readShuns_58 : decode cX7_readShuns 58 = .ok (.getfield 12, 3) := by decide +kernel
theorem dX7_readShuns_61 : decode cX7_readShuns 61 = .ok (.getfield 124, 3) := by decide +kernel
theorem dX7_readShuns_64 : decode cX7_readShuns 64 = .ok (.iload_n 1, 1) := by decide +kernel
theorem dX7_readShuns_65 : decode cX7_readShuns 65 = .ok (.dup2, 1) := by decide +kernel
theorem dX7_readShuns_66 : decode cX7_readShuns 66 = .ok (.iaload, 1) := by decide +kernel
theorem dX7_readShuns_67 : decode cX7_readShuns 67 = .ok (.iconst 1, 1) := by decide +kernel
theorem dX7_readShuns_68 : decode cX7_readShuns 68 = .ok (.iload_n 2, 1) := by decide +kernel
theorem dX7_readShuns_69 : decode cX7_readShuns 69 = .ok (.ishl, 1) := by decide +kernel
theorem dX7_readShuns_70 : decode cX7_readShuns 70 = .ok (.ior, 1) := by decide +kernel
theorem dX7_readShuns_71 : decode cX7_readShuns 71 = .ok (.iastore, 1) := by decide +kernel
theorem dX7_readShuns_72 : decode cX7_readShuns 72 = .ok (.iconst 1, 1) := by decide +kernel
theorem dX7_readShuns_73 : decode cX7_readShuns 73 = .ok (.ireturn, 1) := by decide +kernel
theorem dX7_readShelter_0 : decode cX7_readShelter 0 = .ok (.aload_n 0, 1) := by decide +kernel
theorem dX7_readShelter_1 : decode cX7_readShelter 1 = .ok (.getfield 12, 3) := by decide +kernel
theorem dX7_readShelter_4 : decode cX7_readShelter 4 = .ok (.getfield 89, 3) := by decide +kernel
theorem dX7_readShelter_7 : decode cX7_readShelter 7 = .ok (.iconst 4, 1) := by decide +kernel
theorem dX7_readShelter_8 : decode cX7_readShelter 8 = .ok (.if_icmp .lt 5, 3) := by decide +kernel
theorem dX7_readShelter_11 : decode cX7_readShelter 11 = .ok (.iconst 0, 1) := by decide +kernel
theorem dX7_readShelter_12 : decode cX7_readShelter 12 = .ok (.ireturn, 1) := by decide +kernel
theorem dX7_readShelter_13 : decode cX7_readShelter 13 = .ok (.aload_n 0, 1) := by decide +kernel
theorem dX7_readShelter_14 : decode cX7_readShelter 14 = .ok (.invokevirtual 92, 3) := by decide +kernel
theorem dX7_readShelter_17 : decode cX7_readShelter 17 = .ok (.aload_n 0, 1) := by decide +kernel
theorem dX7_readShelter_18 : decode cX7_readShelter 18 = .ok (.getstatic 100, 3) := by decide +kernel
theorem dX7_readShelter_21 : decode cX7_readShelter 21 = .ok (.iconst 0, 1) := by decide +kernel
theorem dX7_readShelter_22 : decode cX7_readShelter 22 = .ok (.aload_n 0, 1) := by decide +kernel
theorem dX7_readShelter_23 : decode cX7_readShelter 23 = .ok (.getfield 12, 3) := by decide +kernel
theorem dX7_readShelter_26 : decode cX7_readShelter 26 = .ok (.getfield 56, 3) := by decide +kernel
theorem dX7_readShelter_29 : decode cX7_readShelter 29 = .ok (.iconst 1, 1) := by decide +kernel
theorem dX7_readShelter_30 : decode cX7_readShelter 30 = .ok (.isub, 1) := by decide +kernel
theorem dX7_readShelter_31 : decode cX7_readShelter 31 = .ok (.invokevirtual 103, 3) := by decide +kernel
theorem dX7_readShelter_34 : decode cX7_readShelter 34 = .ok (.istore_n 1, 1) := by decide +kernel
theorem dX7_readShelter_35 : decode cX7_readShelter 35 = .ok (.iload_n 1, 1) := by decide +kernel
theorem dX7_readShelter_36 : decode cX7_readShelter 36 = .ok (.iconst (-1), 1) := by decide +kernel
theorem dX7_readShelter_37 : decode cX7_readShelter 37 = .ok (.if_icmp .ne 7, 3) := by decide +kernel
theorem dX7_readShelter_40 : decode cX7_readShelter 40 = .ok (.iconst (-1), 1) := by decide +kernel
theorem dX7_readShelter_41 : decode cX7_readShelter 41 = .ok (.goto 12, 3) := by decide +kernel
theorem dX7_readShelter_44 : decode cX7_readShelter 44 = .ok (.aload_n 0, 1) := by decide +kernel
theorem dX7_readShelter_45 : decode cX7_readShelter 45 = .ok (.getstatic 128, 3) := by decide +kernel
theorem dX7_readShelter_48 : decode cX7_readShelter 48 = .ok (.iconst 1, 1) := by decide +kernel
theorem dX7_readShelter_49 : decode cX7_readShelter 49 = .ok (.iconst 3, 1) := by decide +kernel
theorem dX7_readShelter_50 : decode cX7_readShelter 50 = .ok (.invokevirtual 103, 3) := by decide +kernel
theorem dX7_readShelter_53 : decode cX7_readShelter 53 = .ok (.istore_n 2, 1) := by decide +kernel
theorem dX7_readShelter_54 : decode cX7_readShelter 54 = .ok (.iload_n 2, 1) := by decide +kernel
theorem dX7_readShelter_55 : decode cX7_readShelter 55 = .ok (.iconst (-1), 1) := by decide +kernel
theorem dX7_readShelter_56 : decode cX7_readShelter 56 = .ok (.if_icmp .ne 5, 3) := by decide +kernel
theorem dX7_readShelter_59 : decode cX7_readShelter 59 = .ok (.iconst 0, 1) := by decide +kernel
theorem dX7_readShelter_60 : decode cX7_readShelter 60 = .ok (.ireturn, 1) := by decide +kernel
theorem dX7_readShelter_61 : decode cX7_readShelter 61 = .ok (.aload_n 0, 1) := by decide +kernel
theorem dX7_readShelter_62 : decode cX7_readShelter 62 = .ok (.getfield 12, 3) := by decide +kernel
theorem dX7_readShelter_65 : decode cX7_readShelter 65 = .ok (.getfield 131, 3) := by decide +kernel
theorem dX7_readShelter_68 : decode cX7_readShelter 68 = .ok (.aload_n 0, 1) := by decide +kernel
theorem dX7_readShelter_69 : decode cX7_readShelter 69 = .ok (.getfield 12, 3) := by decide +kernel
theorem dX7_readShelter_72 : decode cX7_readShelter 72 = .ok (.getfield 89, 3) := by decide +kernel
theorem dX7_readShelter_75 : decode cX7_readShelter 75 = .ok (.iload_n 1, 1) := by decide +kernel
theorem dX7_readShelter_76 : decode cX7_readShelter 76 = .ok (.iastore, 1) := by decide +kernel
theorem dX7_readShelter_77 : decode cX7_readShelter 77 = .ok (.aload_n 0, 1) := by decide +kernel
theorem dX7_readShelter_78 : decode cX7_readShelter 78 = .ok (.getfield 12, 3) := by decide +kernel
theorem dX7_readShelter_81 : decode cX7_readShelter 81 = .ok (.getfield 134, 3) := by decide +kernel
theorem dX7_readShelter_84 : decode cX7_readShelter 84 = .ok (.aload_n 0, 1) := by decide +kernel
theorem dX7_readShelter_85 : decode cX7_readShelter 85 = .ok (.getfield 12, 3) := by decide +kernel
theorem dX7_readShelter_88 : decode cX7_readShelter 88 = .ok (.getfield 89, 3) := by decide +kernel
theorem dX7_readShelter_91 : decode cX7_readShelter 91 = .ok (.iload_n 2, 1) := by decide +kernel
theorem dX7_readShelter_92 : decode cX7_readShelter 92 = .ok (.iastore, 1) := by decide +kernel
theorem dX7_readShelter_93 : decode cX7_readShelter 93 = .ok (.aload_n 0, 1) := by decide +kernel
theorem dX7_readShelter_94 : decode cX7_readShelter 94 = .ok (.getfield 12, 3) := by decide +kernel
theorem dX7_readShelter_97 : decode cX7_readShelter 97 = .ok (.dup, 1) := by decide +kernel
theorem dX7_readShelter_98 : decode cX7_readShelter 98 = .ok (.getfield 89, 3) := by decide +kernel
theorem dX7_readShelter_101 : decode cX7_readShelter 101 = .ok (.iconst 1, 1) := by decide +kernel
theorem dX7_readShelter_102 : decode cX7_readShelter 102 = .ok (.iadd, 1) := by decide +kernel
theorem dX7_readShelter_103 : decode cX7_readShelter 103 = .ok (.putfield 89, 3) := by decide +kernel
theorem dX7_readShelter_106 : decode cX7_readShelter 106 = .ok (.iconst 1, 1) := by decide +kernel
theorem dX7_readShelter_107 : decode cX7_readShelter 107 = .ok (.ireturn, 1) := by decide +kernel
theorem dX7_readNumberAfter_0 : decode cX7_readNumberAfter 0 = .ok (.aload_n 0, 1) := by decide +kernel
theorem dX7_readNumberAfter_1 : decode cX7_readNumberAfter 1 = .ok (.aload_n 1, 1) := by decide +kernel
theorem dX7_readNumberAfter_2 : decode cX7_readNumberAfter 2 = .ok (.invokevirtual 41, 3) := by decide +kernel
theorem dX7_readNumberAfter_5 : decode cX7_readNumberAfter 5 = .ok (.ifCond .eq 12, 3) := by decide +kernel
theorem dX7_readNumberAfter_8 : decode cX7_readNumberAfter 8 = .ok (.aload_n 0, 1) := by decide +kernel
theorem dX7_readNumberAfter_9 : decode cX7_readNumberAfter 9 = .ok (.iload_n 2, 1) := by decide +kernel
theorem dX7_readNumberAfter_10 : decode cX7_readNumberAfter 10 = .ok (.iload_n 3, 1) := by decide +kernel
theorem dX7_readNumberAfter_11 : decode cX7_readNumberAfter 11 = .ok (.invokevirtual 60, 3) := by decide +kernel
theorem dX7_readNumberAfter_14 : decode cX7_readNumberAfter 14 = .ok (.goto 4, 3) := by decide +kernel
theorem dX7_readNumberAfter_17 : decode cX7_readNumberAfter 17 = .ok (.iconst (-1), 1) := by decide +kernel
theorem dX7_readNumberAfter_18 : decode cX7_readNumberAfter 18 = .ok (.ireturn, 1) := by decide +kernel
theorem dX8_init_0 : decode cX8_init 0 = .ok (.aload_n 0, 1) := by decide +kernel
theorem dX8_init_1 : decode cX8_init 1 = .ok (.invokespecial 3, 3) := by decide +kernel
theorem dX8_init_4 : decode cX8_init 4 = .ok (.aload_n 0, 1) := by decide +kernel
theorem dX8_init_5 : decode cX8_init 5 = .ok (.bipush 100, 2) := by decide +kernel
theorem dX8_init_7 : decode cX8_init 7 = .ok (.putfield 9, 3) := by decide +kernel
theorem dX8_init_10 : decode cX8_init 10 = .ok (.aload_n 0, 1) := by decide +kernel
theorem dX8_init_11 : decode cX8_init 11 = .ok (.iconst 0, 1) := by decide +kernel
theorem dX8_init_12 : decode cX8_init 12 = .ok (.putfield 15, 3) := by decide +kernel
theorem dX8_init_15 : decode cX8_init 15 = .ok (.aload_n 0, 1) := by decide +kernel
theorem dX8_init_16 : decode cX8_init 16 = .ok (.iconst 0, 1) := by decide +kernel
theorem dX8_init_17 : decode cX8_init 17 = .ok (.putfield 18, 3) := by decide +kernel
theorem dX8_init_20 : decode cX8_init 20 = .ok (.aload_n 0, 1) := by decide +kernel
theorem dX8_init_21 : decode cX8_init 21 = .ok (.iconst 0, 1) := by decide +kernel
theorem dX8_init_22 : decode cX8_init 22 = .ok (.putfield 21, 3) := by decide +kernel
theorem dX8_init_25 : decode cX8_init 25 = .ok (.aload_n 0, 1) := by decide +kernel
theorem dX8_init_26 : decode cX8_init 26 = .ok (.iconst 0, 1) := by decide +kernel
theorem dX8_init_27 : decode cX8_init 27 = .ok (.putfield 24, 3) := by decide +kernel
theorem dX8_init_30 : decode cX8_init 30 = .ok (.aload_n 0, 1) := by decide +kernel
theorem dX8_init_31 : decode cX8_init 31 = .ok (.iconst 1, 1) := by decide +kernel
theorem dX8_init_32 : decode cX8_init 32 = .ok (.putfield 28, 3) := by decide +kernel
theorem dX8_init_35 : decode cX8_init 35 = .ok (.aload_n 0, 1) := by decide +kernel
theorem dX8_init_36 : decode cX8_init 36 = .ok (.iconst 0, 1) := by decide +kernel
theorem dX8_init_37 : decode cX8_init 37 = .ok (.putfield 31, 3) := by decide +kernel
theorem dX8_init_40 : decode cX8_init 40 = .ok (.aload_n 0, 1) := by decide +kernel
theorem dX8_init_41 : decode cX8_init 41 = .ok (.iconst 0, 1) := by decide +kernel
theorem dX8_init_42 : decode cX8_init 42 = .ok (.putfield 34, 3) := by decide +kernel
theorem dX8_init_45 : decode cX8_init 45 = .ok (.aload_n 0, 1) := by decide +kernel
theorem dX8_init_46 : decode cX8_init 46 = .ok (.iconst 0, 1) := by decide +kernel
theorem dX8_init_47 : decode cX8_init 47 = .ok (.putfield 37, 3) := by decide +kernel
theorem dX8_init_50 : decode cX8_init 50 = .ok (.aload_n 0, 1) := by decide +kernel
theorem dX8_init_51 : decode cX8_init 51 = .ok (.iconst 0, 1) := by decide +kernel
theorem dX8_init_52 : decode cX8_init 52 = .ok (.putfield 40, 3) := by decide +kernel
theorem dX8_init_55 : decode cX8_init 55 = .ok (.aload_n 0, 1) := by decide +kernel
theorem dX8_init_56 : decode cX8_init 56 = .ok (.bipush 7, 2) := by decide +kernel
theorem dX8_init_58 : decode cX8_init 58 = .ok (.newarray .int, 2) := by decide +kernel
theorem dX8_init_60 : decode cX8_init 60 = .ok (.putfield 43, 3) := by decide +kernel
theorem dX8_init_63 : decode cX8_init 63 = .ok (.aload_n 0, 1) := by decide +kernel
theorem dX8_init_64 : decode cX8_init 64 = .ok (.bipush 7, 2) := by decide +kernel
theorem dX8_init_66 : decode cX8_init 66 = .ok (.newarray .int, 2) := by decide +kernel
theorem dX8_init_68 : decode cX8_init 68 = .ok (.putfield 47, 3) := by decide +kernel
theorem dX8_init_71 : decode cX8_init 71 = .ok (.aload_n 0, 1) := by decide +kernel
theorem dX8_init_72 : decode cX8_init 72 = .ok (.bipush 7, 2) := by decide +kernel
theorem dX8_init_74 : decode cX8_init 74 = .ok (.newarray .int, 2) := by decide +kernel
theorem dX8_init_76 : decode cX8_init 76 = .ok (.putfield 50, 3) := by decide +kernel
theorem dX8_init_79 : decode cX8_init 79 = .ok (.aload_n 0, 1) := by decide +kernel
theorem dX8_init_80 : decode cX8_init 80 = .ok (.bipush 7, 2) := by decide +kernel
theorem dX8_init_82 : decode cX8_init 82 = .ok (.newarray .int, 2) := by decide +kernel
theorem dX8_init_84 : decode cX8_init 84 = .ok (.putfield 53, 3) := by decide +kernel
theorem dX8_init_87 : decode cX8_init 87 = .ok (.aload_n 0, 1) := by decide +kernel
theorem dX8_init_88 : decode cX8_init 88 = .ok (.bipush 7, 2) := by decide +kernel
theorem dX8_init_90 : decode cX8_init 90 = .ok (.newarray .int, 2) := by decide +kernel
theorem dX8_init_92 : decode cX8_init 92 = .ok (.putfield 56, 3) := by decide +kernel
theorem dX8_init_95 : decode cX8_init 95 = .ok (.aload_n 0, 1) := by decide +kernel
theorem dX8_init_96 : decode cX8_init 96 = .ok (.bipush 7, 2) := by decide +kernel
theorem dX8_init_98 : decode cX8_init 98 = .ok (.newarray .int, 2) := by decide +kernel
theorem dX8_init_100 : decode cX8_init 100 = .ok (.putfield 59, 3) := by decide +kernel
theorem dX8_init_103 : decode cX8_init 103 = .ok (.aload_n 0, 1) := by decide +kernel
theorem dX8_init_104 : decode cX8_init 104 = .ok (.iconst 4, 1) := by decide +kernel
theorem dX8_init_105 : decode cX8_init 105 = .ok (.newarray .int, 2) := by decide +kernel
theorem dX8_init_107 : decode cX8_init 107 = .ok (.putfield 62, 3) := by decide +kernel
theorem dX8_init_110 : decode cX8_init 110 = .ok (.aload_n 0, 1) := by decide +kernel
theorem dX8_init_111 : decode cX8_init 111 = .ok (.iconst 4, 1) := by decide +kernel
theorem dX8_init_112 : decode cX8_init 112 = .ok (.newarray .int, 2) := by decide +kernel
theorem dX8_init_114 : decode cX8_init 114 = .ok (.putfield 65, 3) := by decide +kernel
theorem dX8_init_117 : decode cX8_init 117 = .ok (.aload_n 0, 1) := by decide +kernel
theorem dX8_init_118 : decode cX8_init 118 = .ok (.new 68, 3) := by decide +kernel
theorem dX8_init_121 : decode cX8_init 121 = .ok (.dup, 1) := by decide +kernel
theorem dX8_init_122 : decode cX8_init 122 = .ok (.invokespecial 70, 3) := by decide +kernel
theorem dX8_init_125 : decode cX8_init 125 = .ok (.putfield 71, 3) := by decide +kernel
theorem dX8_init_128 : decode cX8_init 128 = .ok (.return_, 1) := by decide +kernel
theorem dX8_become_0 : decode cX8_become 0 = .ok (.aload_n 0, 1) := by decide +kernel
theorem dX8_become_1 : decode cX8_become 1 = .ok (.aload_n 1, 1) := by decide +kernel
theorem dX8_become_2 : decode cX8_become 2 = .ok (.getfield 9, 3) := by decide +kernel
theorem dX8_become_5 : decode cX8_become 5 = .ok (.putfield 9, 3) := by decide +kernel
theorem dX8_become_8 : decode cX8_become 8 = .ok (.aload_n 0, 1) := by decide +kernel
theorem dX8_become_9 : decode cX8_become 9 = .ok (.aload_n 1, 1) := by decide +kernel
theorem dX8_become_10 : decode cX8_become 10 = .ok (.getfield 15, 3) := by decide +kernel
theorem dX8_become_13 : decode cX8_become 13 = .ok (.putfield 15, 3) := by decide +kernel
theorem dX8_become_16 : decode cX8_become 16 = .ok (.aload_n 0, 1) := by decide +kernel
theorem dX8_become_17 : decode cX8_become 17 = .ok (.aload_n 1, 1) := by decide +kernel
theorem dX8_become_18 : decode cX8_become 18 = .ok (.getfield 18, 3) := by decide +kernel
theorem dX8_become_21 : decode cX8_become 21 = .ok (.putfield 18, 3) := by decide +kernel
theorem dX8_become_24 : decode cX8_become 24 = .ok (.aload_n 0, 1) := by decide +kernel
theorem dX8_become_25 : decode cX8_become 25 = .ok (.aload_n 1, 1) := by decide +kernel
theorem dX8_become_26 : decode cX8_become 26 = .ok (.getfield 21, 3) := by decide +kernel
theorem dX8_become_29 : decode cX8_become 29 = .ok (.putfield 21, 3) := by decide +kernel
theorem dX8_become_32 : decode cX8_become 32 = .ok (.aload_n 0, 1) := by decide +kernel
theorem dX8_become_33 : decode cX8_become 33 = .ok (.aload_n 1, 1) := by decide +kernel
theorem dX8_become_34 : decode cX8_become 34 = .ok (.getfield 24, 3) := by decide +kernel
theorem dX8_become_37 : decode cX8_become 37 = .ok (.putfield 24, 3) := by decide +kernel
theorem dX8_become_40 : decode cX8_become 40 = .ok (.aload_n 0, 1) := by decide +kernel
theorem dX8_become_41 : decode cX8_become 41 = .ok (.aload_n 1, 1) := by decide +kernel
theorem dX8_become_42 : decode cX8_become 42 = .ok (.getfield 28, 3) := by decide +kernel
theorem dX8_become_45 : decode cX8_become 45 = .ok (.putfield 28, 3) := by decide +kernel
theorem dX8_become_48 : decode cX8_become 48 = .ok (.aload_n 0, 1) := by decide +kernel
theorem dX8_become_49 : decode cX8_become 49 = .ok (.aload_n 1, 1) := by decide +kernel
theorem dX8_become_50 : decode cX8_become 50 = .ok (.getfield 31, 3) := by decide +kernel
theorem dX8_become_53 : decode cX8_become 53 = .ok (.putfield 31, 3) := by decide +kernel
theorem dX8_become_56 : decode cX8_become 56 = .ok (.aload_n 0, 1) := by decide +kernel
theorem dX8_become_57 : decode cX8_become 57 = .ok (.aload_n 1, 1) := by decide +kernel
theorem dX8_become_58 : decode cX8_become 58 = .ok (.getfield 34, 3) := by decide +kernel
theorem dX8_become_61 : decode cX8_become 61 = .ok (.putfield 34, 3) := by decide +kernel
theorem dX8_become_64 : decode cX8_become 64 = .ok (.aload_n 0, 1) := by decide +kernel
theorem dX8_become_65 : decode cX8_become 65 = .ok (.aload_n 1, 1) := by decide +kernel
theorem dX8_become_66 : decode cX8_become 66 = .ok (.getfield 37, 3) := by decide +kernel
theorem dX8_become_69 : decode cX8_become 69 = .ok (.putfield 37, 3) := by decide +kernel
theorem dX8_become_72 : decode cX8_become 72 = .ok (.aload_n 0, 1) := by decide +kernel
theorem dX8_become_73 : decode cX8_become 73 = .ok (.aload_n 1, 1) := by decide +kernel
theorem dX8_become_74 : decode cX8_become 74 = .ok (.getfield 40, 3) := by decide +kernel
theorem dX8_become_77 : decode cX8_become 77 = .ok (.putfield 40, 3) := by decide +kernel
theorem dX8_become_80 : decode cX8_become 80 = .ok (.aload_n 1, 1) := by decide +kernel
theorem dX8_become_81 : decode cX8_become 81 = .ok (.getfield 43, 3) := by decide +kernel
theorem dX8_become_84 : decode cX8_become 84 = .ok (.iconst 0, 1) := by decide +kernel
theorem dX8_become_85 : decode cX8_become 85 = .ok (.aload_n 0, 1) := by decide +kernel
theorem dX8_become_86 : decode cX8_become 86 = .ok (.getfield 43, 3) := by decide +kernel
theorem dX8_become_89 : decode cX8_become 89 = .ok (.iconst 0, 1) := by decide +kernel
theorem dX8_become_90 : decode cX8_become 90 = .ok (.bipush 7, 2) := by decide +kernel
theorem dX8_become_92 : decode cX8_become 92 = .ok (.invokestatic 75, 3) := by decide +kernel
theorem dX8_become_95 : decode cX8_become 95 = .ok (.aload_n 1, 1) := by decide +kernel
theorem dX8_become_96 : decode cX8_become 96 = .ok (.getfield 47, 3) := by decide +kernel
theorem dX8_become_99 : decode cX8_become 99 = .ok (.iconst 0, 1) := by decide +kernel
theorem dX8_become_100 : decode cX8_become 100 = .ok (.aload_n 0, 1) := by decide +kernel
theorem dX8_become_101 : decode cX8_become 101 = .ok (.getfield 47, 3) := by decide +kernel
theorem dX8_become_104 : decode cX8_become 104 = .ok (.iconst 0, 1) := by decide +kernel
theorem dX8_become_105 : decode cX8_become 105 = .ok (.bipush 7, 2) := by decide +kernel
theorem dX8_become_107 : decode cX8_become 107 = .ok (.invokestatic 75, 3) := by decide +kernel
theorem dX8_become_110 : decode cX8_become 110 = .ok (.aload_n 1, 1) := by decide +kernel
theorem dX8_become_111 : decode cX8_become 111 = .ok (.getfield 50, 3) := by decide +kernel
theorem dX8_become_114 : decode cX8_become 114 = .ok (.iconst 0, 1) := by decide +kernel
theorem dX8_become_115 : decode cX8_become 115 = .ok (.aload_n 0, 1) := by decide +kernel
theorem dX8_become_116 : decode cX8_become 116 = .ok (.getfield 50, 3) := by decide +kernel
theorem dX8_become_119 : decode cX8_become 119 = .ok (.iconst 0, 1) := by decide +kernel
theorem dX8_become_120 : decode cX8_become 120 = .ok (.bipush 7, 2) := by decide +kernel
theorem dX8_become_122 : decode cX8_become 122 = .ok (.invokestatic 75, 3) := by decide +kernel
theorem dX8_become_125 : decode cX8_become 125 = .ok (.aload_n 1, 1) := by decide +kernel
theorem dX8_become_126 : decode cX8_become 126 = .ok (.getfield 53, 3) := by decide +kernel
theorem dX8_become_129 : decode cX8_become 129 = .ok (.iconst 0, 1) := by decide +kernel
theorem dX8_become_130 : decode cX8_become 130 = .ok (.aload_n 0, 1) := by decide +kernel
theorem dX8_become_131 : decode cX8_become 131 = .ok (.getfield 53, 3) := by decide +kernel
theorem dX8_become_134 : decode cX8_become 134 = .ok (.iconst 0, 1) := by decide +kernel
theorem dX8_become_135 : decode cX8_become 135 = .ok (.bipush 7, 2) := by decide +kernel
theorem dX8_become_137 : decode cX8_become 137 = .ok (.invokestatic 75, 3) := by decide +kernel
theorem dX8_become_140 : decode cX8_become 140 = .ok (.aload_n 1, 1) := by decide +kernel
theorem dX8_become_141 : decode cX8_become 141 = .ok (.getfield 56, 3) := by decide +kernel
theorem dX8_become_144 : decode cX8_become 144 = .ok (.iconst 0, 1) := by decide +kernel
theorem dX8_become_145 : decode cX8_become 145 = .ok (.aload_n 0, 1) := by decide +kernel
theorem dX8_become_146 : decode cX8_become 146 = .ok (.getfield 56, 3) := by decide +kernel
theorem dX8_become_149 : decode cX8_become 149 = .ok (.iconst 0, 1) := by decide +kernel
theorem dX8_become_150 : decode cX8_become 150 = .ok (.bipush 7, 2) := by decide +kernel
theorem dX8_become_152 : decode cX8_become 152 = .ok (.invokestatic 75, 3) := by decide +kernel
theorem dX8_become_155 : decode cX8_become 155 = .ok (.aload_n 1, 1) := by decide +kernel
theorem dX8_become_156 : decode cX8_become 156 = .ok (.getfield 59, 3) := by decide +kernel
theorem dX8_become_159 : decode cX8_become 159 = .ok (.iconst 0, 1) := by decide +kernel
theorem dX8_become_160 : decode cX8_become 160 = .ok (.aload_n 0, 1) := by decide +kernel
theorem dX8_become_161 : decode cX8_become 161 = .ok (.getfield 59, 3) := by decide +kernel
theorem dX8_become_164 : decode cX8_become 164 = .ok (.iconst 0, 1) := by decide +kernel
theorem dX8_become_165 : decode cX8_become 165 = .ok (.bipush 7, 2) := by decide +kernel
theorem dX8_become_167 : decode cX8_become 167 = .ok (.invokestatic 75, 3) := by decide +kernel
theorem dX8_become_170 : decode cX8_become 170 = .ok (.aload_n 1, 1) := by decide +kernel
theorem dX8_become_171 : decode cX8_become 171 = .ok (.getfield 62, 3) := by decide +kernel
theorem dX8_become_174 : decode cX8_become 174 = .ok (.iconst 0, 1) := by decide +kernel
theorem dX8_become_175 : decode cX8_become 175 = .ok (.aload_n 0, 1) := by decide +kernel
theorem dX8_become_176 : decode cX8_become 176 = .ok (.getfield 62, 3) := by decide +kernel
theorem dX8_become_179 : decode cX8_become 179 = .ok (.iconst 0, 1) := by decide +kernel
theorem dX8_become_180 : decode cX8_become 180 = .ok (.iconst 4, 1) := by decide +kernel
theorem dX8_become_181 : decode cX8_become 181 = .ok (.invokestatic 75, 3) := by decide +kernel
theorem dX8_become_184 : decode cX8_become 184 = .ok (.aload_n 1, 1) := by decide +kernel
theorem dX8_become_185 : decode cX8_become 185 = .ok (.getfield 65, 3) := by decide +kernel
theorem dX8_become_188 : decode cX8_become 188 = .ok (.iconst 0, 1) := by decide +kernel
theorem dX8_become_189 : decode cX8_become 189 = .ok (.aload_n 0, 1) := by decide +kernel
theorem dX8_become_190 : decode cX8_become 190 = .ok (.getfield 65, 3) := by decide +kernel
theorem dX8_become_193 : decode cX8_become 193 = .ok (.iconst 0, 1) := by decide +kernel
theorem dX8_become_194 : decode cX8_become 194 = .ok (.iconst 4, 1) := by decide +kernel
theorem dX8_become_195 : decode cX8_become 195 = .ok (.invokestatic 75, 3) := by decide +kernel
theorem dX8_become_198 : decode cX8_become 198 = .ok (.aload_n 0, 1) := by decide +kernel
theorem dX8_become_199 : decode cX8_become 199 = .ok (.getfield 71, 3) := by decide +kernel
theorem dX8_become_202 : decode cX8_become 202 = .ok (.aload_n 1, 1) := by decide +kernel
theorem dX8_become_203 : decode cX8_become 203 = .ok (.getfield 71, 3) := by decide +kernel
theorem dX8_become_206 : decode cX8_become 206 = .ok (.invokevirtual 81, 3) := by decide +kernel
theorem dX8_become_209 : decode cX8_become 209 = .ok (.return_, 1) := by decide +kernel
theorem dX8_addWalker_0 : decode cX8_addWalker 0 = .ok (.aload_n 0, 1) := by decide +kernel
theorem dX8_addWalker_1 : decode cX8_addWalker 1 = .ok (.getfield 34, 3) := by decide +kernel
theorem dX8_addWalker_4 : decode cX8_addWalker 4 = .ok (.ifCond .lt 12, 3) := by decide +kernel
theorem dX8_addWalker_7 : decode cX8_addWalker 7 = .ok (.aload_n 0, 1) := by decide +kernel
theorem dX8_addWalker_8 : decode cX8_addWalker 8 = .ok (.getfield 34, 3) := by decide +kernel
theorem dX8_addWalker_11 : decode cX8_addWalker 11 = .ok (.bipush 7, 2) := by decide +kernel
theorem dX8_addWalker_13 : decode cX8_addWalker 13 = .ok (.if_icmp .lt 4, 3) := by decide +kernel
theorem dX8_addWalker_16 : decode cX8_addWalker 16 = .ok (.return_, 1) := by decide +kernel
theorem dX8_addWalker_17 : decode cX8_addWalker 17 = .ok (.aload_n 0, 1) := by decide +kernel
theorem dX8_addWalker_18 : decode cX8_addWalker 18 = .ok (.getfield 43, 3) := by decide +kernel
theorem dX8_addWalker_21 : decode cX8_addWalker 21 = .ok (.aload_n 0, 1) := by decide +kernel
theorem dX8_addWalker_22 : decode cX8_addWalker 22 = .ok (.getfield 34, 3) := by decide +kernel
theorem dX8_addWalker_25 : decode cX8_addWalker 25 = .ok (.iload_n 1, 1) := by decide +kernel
theorem dX8_addWalker_26 : decode cX8_addWalker 26 = .ok (.iastore, 1) := by decide +kernel
theorem dX8_addWalker_27 : decode cX8_addWalker 27 = .ok (.aload_n 0, 1) := by decide +kernel
theorem dX8_addWalker_28 : decode cX8_addWalker 28 = .ok (.getfield 47, 3) := by decide +kernel
theorem dX8_addWalker_31 : decode cX8_addWalker 31 = .ok (.aload_n 0, 1) := by decide +kernel
theorem dX8_addWalker_32 : decode cX8_addWalker 32 = .ok (.getfield 34, 3) := by decide +kernel
theorem dX8_addWalker_35 : decode cX8_addWalker 35 = .ok (.iload_n 2, 1) := by decide +kernel
theorem dX8_addWalker_36 : decode cX8_addWalker 36 = .ok (.iastore, 1) := by decide +kernel
theorem dX8_addWalker_37 : decode cX8_addWalker 37 = .ok (.aload_n 0, 1) := by decide +kernel
theorem dX8_addWalker_38 : decode cX8_addWalker 38 = .ok (.getfield 50, 3) := by decide +kernel
theorem dX8_addWalker_41 : decode cX8_addWalker 41 = .ok (.aload_n 0, 1) := by decide +kernel
theorem dX8_addWalker_42 : decode cX8_addWalker 42 = .ok (.getfield 34, 3) := by decide +kernel
theorem dX8_addWalker_45 : decode cX8_addWalker 45 = .ok (.iconst 0, 1) := by decide +kernel
theorem dX8_addWalker_46 : decode cX8_addWalker 46 = .ok (.iastore, 1) := by decide +kernel
theorem dX8_addWalker_47 : decode cX8_addWalker 47 = .ok (.aload_n 0, 1) := by decide +kernel
theorem dX8_addWalker_48 : decode cX8_addWalker 48 = .ok (.getfield 53, 3) := by decide +kernel
theorem dX8_addWalker_51 : decode cX8_addWalker 51 = .ok (.aload_n 0, 1) := by decide +kernel
theorem dX8_addWalker_52 : decode cX8_addWalker 52 = .ok (.getfield 34, 3) := by decide +kernel
theorem dX8_addWalker_55 : decode cX8_addWalker 55 = .ok (.iconst 0, 1) := by decide +kernel
theorem dX8_addWalker_56 : decode cX8_addWalker 56 = .ok (.iastore, 1) := by decide +kernel
theorem dX8_addWalker_57 : decode cX8_addWalker 57 = .ok (.aload_n 0, 1) := by decide +kernel
theorem dX8_addWalker_58 : decode cX8_addWalker 58 = .ok (.getfield 56, 3) := by decide +kernel
theorem dX8_addWalker_61 : decode cX8_addWalker 61 = .ok (.aload_n 0, 1) := by decide +kernel
theorem dX8_addWalker_62 : decode cX8_addWalker 62 = .ok (.getfield 34, 3) := by decide +kernel
theorem dX8_addWalker_65 : decode cX8_addWalker 65 = .ok (.iconst 0, 1) := by decide +kernel
theorem dX8_addWalker_66 : decode cX8_addWalker 66 = .ok (.iastore, 1) := by decide +kernel
theorem dX8_addWalker_67 : decode cX8_addWalker 67 = .ok (.aload_n 0, 1) := by decide +kernel
theorem dX8_addWalker_68 : decode cX8_addWalker 68 = .ok (.getfield 59, 3) := by decide +kernel
theorem dX8_addWalker_71 : decode cX8_addWalker 71 = .ok (.aload_n 0, 1) := by decide +kernel
theorem dX8_addWalker_72 : decode cX8_addWalker 72 = .ok (.getfield 34, 3) := by decide +kernel
theorem dX8_addWalker_75 : decode cX8_addWalker 75 = .ok (.iconst 0, 1) := by decide +kernel
theorem dX8_addWalker_76 : decode cX8_addWalker 76 = .ok (.iastore, 1) := by decide +kernel
theorem dX8_addWalker_77 : decode cX8_addWalker 77 = .ok (.aload_n 0, 1) := by decide +kernel
theorem dX8_addWalker_78 : decode cX8_addWalker 78 = .ok (.dup, 1) := by decide +kernel
theorem dX8_addWalker_79 : decode cX8_addWalker 79 = .ok (.getfield 40, 3) := by decide +kernel
theorem dX8_addWalker_82 : decode cX8_addWalker 82 = .ok (.iconst 1, 1) := by decide +kernel
theorem dX8_addWalker_83 : decode cX8_addWalker 83 = .ok (.aload_n 0, 1) := by decide +kernel
theorem dX8_addWalker_84 : decode cX8_addWalker 84 = .ok (.getfield 34, 3) := by decide +kernel
theorem dX8_addWalker_87 : decode cX8_addWalker 87 = .ok (.ishl, 1) := by decide +kernel
theorem dX8_addWalker_88 : decode cX8_addWalker 88 = .ok (.iconst (-1), 1) := by decide +kernel
theorem dX8_addWalker_89 : decode cX8_addWalker 89 = .ok (.ixor, 1) := by decide +kernel
theorem dX8_addWalker_90 : decode cX8_addWalker 90 = .ok (.iand, 1) := by decide +kernel
theorem dX8_addWalker_91 : decode cX8_addWalker 91 = .ok (.putfield 40, 3) := by decide +kernel
theorem dX8_addWalker_94 : decode cX8_addWalker 94 = .ok (.aload_n 0, 1) := by decide +kernel
theorem dX8_addWalker_95 : decode cX8_addWalker 95 = .ok (.dup, 1) := by decide +kernel
theorem dX8_addWalker_96 : decode cX8_addWalker 96 = .ok (.getfield 34, 3) := by decide +kernel
theorem dX8_addWalker_99 : decode cX8_addWalker 99 = .ok (.iconst 1, 1) := by decide +kernel
theorem dX8_addWalker_100 : decode cX8_addWalker 100 = .ok (.iadd, 1) := by decide +kernel
theorem dX8_addWalker_101 : decode cX8_addWalker 101 = .ok (.putfield 34, 3) := by decide +kernel
theorem dX8_addWalker_104 : decode cX8_addWalker 104 = .ok (.return_, 1) := by decide +kernel
theorem dX8_yards_0 : decode cX8_yards 0 = .ok (.iload_n 2, 1) := by decide +kernel
theorem dX8_yards_1 : decode cX8_yards 1 = .ok (.iload_n 1, 1) := by decide +kernel
theorem dX8_yards_2 : decode cX8_yards 2 = .ok (.isub, 1) := by decide +kernel
theorem dX8_yards_3 : decode cX8_yards 3 = .ok (.istore_n 3, 1) := by decide +kernel
theorem dX8_yards_4 : decode cX8_yards 4 = .ok (.iload_n 3, 1) := by decide +kernel
theorem dX8_yards_5 : decode cX8_yards 5 = .ok (.ifCond .ge 12, 3) := by decide +kernel
theorem dX8_yards_8 : decode cX8_yards 8 = .ok (.iload_n 3, 1) := by decide +kernel
theorem dX8_yards_9 : decode cX8_yards 9 = .ok (.aload_n 0, 1) := by decide +kernel
theorem dX8_yards_10 : decode cX8_yards 10 = .ok (.getfield 9, 3) := by decide +kernel
theorem dX8_yards_13 : decode cX8_yards 13 = .ok (.iadd, 1) := by decide +kernel
theorem dX8_yards_14 : decode cX8_yards 14 = .ok (.goto 4, 3) := by decide +kernel
theorem dX8_yards_17 : decode cX8_yards 17 = .ok (.iload_n 3, 1) := by decide +kernel
theorem dX8_yards_18 : decode cX8_yards 18 = .ok (.ireturn, 1) := by decide +kernel
theorem dX8_placeOf_0 : decode cX8_placeOf 0 = .ok (.aload_n 0, 1) := by decide +kernel
theorem dX8_placeOf_1 : decode cX8_placeOf 1 = .ok (.getfield 9, 3) := by decide +kernel
theorem dX8_placeOf_4 : decode cX8_placeOf 4 = .ok (.ifCond .le 12, 3) := by decide +kernel
theorem dX8_placeOf_7 : decode cX8_placeOf 7 = .ok (.iload_n 1, 1) := by decide +kernel
theorem dX8_placeOf_8 : decode cX8_placeOf 8 = .ok (.aload_n 0, 1) := by decide +kernel
theorem dX8_placeOf_9 : decode cX8_placeOf 9 = .ok (.getfield 9, 3) := by decide +kernel
theorem dX8_placeOf_12 : decode cX8_placeOf 12 = .ok (.irem, 1) := by decide +kernel
theorem dX8_placeOf_13 : decode cX8_placeOf 13 = .ok (.goto 4, 3) := by decide +kernel
theorem dX8_placeOf_16 : decode cX8_placeOf 16 = .ok (.iconst 0, 1) := by decide +kernel
theorem dX8_placeOf_17 : decode cX8_placeOf 17 = .ok (.ireturn, 1) := by decide +kernel
theorem dX8_goHour_0 : decode cX8_goHour 0 = .ok (.iconst 0, 1) := by decide +kernel
theorem dX8_goHour_1 : decode cX8_goHour 1 = .ok (.istore 4, 2) := by decide +kernel
theorem dX8_goHour_3 : decode cX8_goHour 3 = .ok (.iconst 0, 1) := by decide +kernel
theorem dX8_goHour_4 : decode cX8_goHour 4 = .ok (.istore 5, 2) := by decide +kernel
theorem dX8_goHour_6 : decode cX8_goHour 6 = .ok (.iload 5, 2) := by decide +kernel
theorem dX8_goHour_8 : decode cX8_goHour 8 = .ok (.aload_n 0, 1) := by decide +kernel
theorem dX8_goHour_9 : decode cX8_goHour 9 = .ok (.getfield 34, 3) := by decide +kernel
theorem dX8_goHour_12 : decode cX8_goHour 12 = .ok (.if_icmp .ge 222, 3) := by decide +kernel
theorem dX8_goHour_15 : decode cX8_goHour 15 = .ok (.iload 5, 2) := by decide +kernel
theorem dX8_goHour_17 : decode cX8_goHour 17 = .ok (.iload_n 2, 1) := by decide +kernel
theorem dX8_goHour_18 : decode cX8_goHour 18 = .ok (.if_icmp .ne 7, 3) := by decide +kernel
theorem dX8_goHour_21 : decode cX8_goHour 21 = .ok (.iconst 0, 1) := by decide +kernel
theorem dX8_goHour_22 : decode cX8_goHour 22 = .ok (.goto 10, 3) := by decide +kernel
theorem dX8_goHour_25 : decode cX8_goHour 25 = .ok (.aload_n 1, 1) := by decide +kernel
theorem dX8_goHour_26 : decode cX8_goHour 26 = .ok (.aload_n 0, 1) := by decide +kernel
theorem dX8_goHour_27 : decode cX8_goHour 27 = .ok (.iload 5, 2) := by decide +kernel
theorem dX8_goHour_29 : decode cX8_goHour 29 = .ok (.invokevirtual 85, 3) := by decide +kernel
theorem dX8_goHour_32 : decode cX8_goHour 32 = .ok (.istore 6, 2) := by decide +kernel
theorem dX8_goHour_34 : decode cX8_goHour 34 = .ok (.iconst 0, 1) := by decide +kernel
theorem dX8_goHour_35 : decode cX8_goHour 35 = .ok (.istore 7, 2) := by decide +kernel
theorem dX8_goHour_37 : decode cX8_goHour 37 = .ok (.iload 7, 2) := by decide +kernel
theorem dX8_goHour_39 : decode cX8_goHour 39 = .ok (.aload_n 0, 1) := by decide +kernel
theorem dX8_goHour_40 : decode cX8_goHour 40 = .ok (.getfield 34, 3) := by decide +kernel
theorem dX8_goHour_43 : decode cX8_goHour 43 = .ok (.if_icmp .ge 62, 3) := by decide +kernel
theorem dX8_goHour_46 : decode cX8_goHour 46 = .ok (.aload_n 0, 1) := by decide +kernel
theorem dX8_goHour_47 : decode cX8_goHour 47 = .ok (.aload_n 0, 1) := by decide +kernel
theorem dX8_goHour_48 : decode cX8_goHour 48 = .ok (.getfield 43, 3) := by decide +kernel
theorem dX8_goHour_51 : decode cX8_goHour 51 = .ok (.iload 5, 2) := by decide +kernel
theorem dX8_goHour_53 : decode cX8_goHour 53 = .ok (.iaload, 1) := by decide +kernel
theorem dX8_goHour_54 : decode cX8_goHour 54 = .ok (.aload_n 0, 1) := by decide +kernel
theorem dX8_goHour_55 : decode cX8_goHour 55 = .ok (.getfield 43, 3) := by decide +kernel
theorem dX8_goHour_58 : decode cX8_goHour 58 = .ok (.iload 7, 2) := by decide +kernel
theorem dX8_goHour_60 : decode cX8_goHour 60 = .ok (.iaload, 1) := by decide +kernel
theorem dX8_goHour_61 : decode cX8_goHour 61 = .ok (.invokevirtual 91, 3) := by decide +kernel
theorem dX8_goHour_64 : decode cX8_goHour 64 = .ok (.istore 8, 2) := by decide +kernel
theorem dX8_goHour_66 : decode cX8_goHour 66 = .ok (.aload_n 0, 1) := by decide +kernel
theorem dX8_goHour_67 : decode cX8_goHour 67 = .ok (.getfield 50, 3) := by decide +kernel
theorem dX8_goHour_70 : decode cX8_goHour 70 = .ok (.iload 5, 2) := by decide +kernel
theorem dX8_goHour_72 : decode cX8_goHour 72 = .ok (.iaload, 1) := by decide +kernel
theorem dX8_goHour_73 : decode cX8_goHour 73 = .ok (.iload 7, 2) := by decide +kernel
theorem dX8_goHour_75 : decode cX8_goHour 75 = .ok (.ishr, 1) := by decide +kernel
theorem dX8_goHour_76 : decode cX8_goHour 76 = .ok (.iconst 1, 1) := by decide +kernel
theorem dX8_goHour_77 : decode cX8_goHour 77 = .ok (.iand, 1) := by decide +kernel
theorem dX8_goHour_78 : decode cX8_goHour 78 = .ok (.iconst 1, 1) := by decide +kernel
theorem dX8_goHour_79 : decode cX8_goHour 79 = .ok (.if_icmp .ne 20, 3) := by decide +kernel
theorem dX8_goHour_82 : decode cX8_goHour 82 = .ok (.iload 8, 2) := by decide +kernel
theorem dX8_goHour_84 : decode cX8_goHour 84 = .ok (.iconst 1, 1) := by decide +kernel
theorem dX8_goHour_85 : decode cX8_goHour 85 = .ok (.if_icmp .lt 14, 3) := by decide +kernel
theorem dX8_goHour_88 : decode cX8_goHour 88 = .ok (.iload 6, 2) := by decide +kernel
theorem dX8_goHour_90 : decode cX8_goHour 90 = .ok (.iload 8, 2) := by decide +kernel
theorem dX8_goHour_92 : decode cX8_goHour 92 = .ok (.iconst 1, 1) := by decide +kernel
theorem dX8_goHour_93 : decode cX8_goHour 93 = .ok (.isub, 1) := by decide +kernel
theorem dX8_goHour_94 : decode cX8_goHour 94 = .ok (.invokestatic 95, 3) := by decide +kernel
theorem dX8_goHour_97 : decode cX8_goHour 97 = .ok (.istore 6, 2) := by decide +kernel
theorem dX8_goHour_99 : decode cX8_goHour 99 = .ok (.iinc 7 1, 3) := by decide +kernel
theorem dX8_goHour_102 : decode cX8_goHour 102 = .ok (.goto (-65), 3) := by decide +kernel
theorem dX8_goHour_105 : decode cX8_goHour 105 = .ok (.iconst 0, 1) := by decide +kernel
theorem dX8_goHour_106 : decode cX8_goHour 106 = .ok (.istore 7, 2) := by decide +kernel
theorem dX8_goHour_108 : decode cX8_goHour 108 = .ok (.iload 7, 2) := by decide +kernel
theorem dX8_goHour_110 : decode cX8_goHour 110 = .ok (.aload_n 0, 1) := by decide +kernel
theorem dX8_goHour_111 : decode cX8_goHour 111 = .ok (.getfield 34, 3) := by decide +kernel
theorem dX8_goHour_114 : decode cX8_goHour 114 = .ok (.if_icmp .ge 54, 3) := by decide +kernel
theorem dX8_goHour_117 : decode cX8_goHour 117 = .ok (.aload_n 0, 1) := by decide +kernel
theorem dX8_goHour_118 : decode cX8_goHour 118 = .ok (.aload_n 0, 1) := by decide +kernel
theorem dX8_goHour_119 : decode cX8_goHour 119 = .ok (.getfield 43, 3) := by decide +kernel
theorem dX8_goHour_122 : decode cX8_goHour 122 = .ok (.iload 5, 2) := by decide +kernel
theorem dX8_goHour_124 : decode cX8_goHour 124 = .ok (.iaload, 1) := by decide +kernel
theorem dX8_goHour_125 : decode cX8_goHour 125 = .ok (.aload_n 0, 1) := by decide +kernel
theorem dX8_goHour_126 : decode cX8_goHour 126 = .ok (.getfield 43, 3) := by decide +kernel
theorem dX8_goHour_129 : decode cX8_goHour 129 = .ok (.iload 7, 2) := by decide +kernel
theorem dX8_goHour_131 : decode cX8_goHour 131 = .ok (.iaload, 1) := by decide +kernel
theorem dX8_goHour_132 : decode cX8_goHour 132 = .ok (.invokevirtual 91, 3) := by decide +kernel
theorem dX8_goHour_135 : decode cX8_goHour 135 = .ok (.istore 8, 2) := by decide +kernel
theorem dX8_goHour_137 : decode cX8_goHour 137 = .ok (.iload 8, 2) := by decide +kernel
theorem dX8_goHour_139 : decode cX8_goHour 139 = .ok (.iconst 1, 1) := by decide +kernel
theorem dX8_goHour_140 : decode cX8_goHour 140 = .ok (.if_icmp .lt 22, 3) := by decide +kernel
theorem dX8_goHour_143 : decode cX8_goHour 143 = .ok (.iload 8, 2) := by decide +kernel
theorem dX8_goHour_145 : decode cX8_goHour 145 = .ok (.iload 6, 2) := by decide +kernel
theorem dX8_goHour_147 : decode cX8_goHour 147 = .ok (.if_icmp .gt 15, 3) := by decide +kernel
theorem dX8_goHour_150 : decode cX8_goHour 150 = .ok (.aload_n 0, 1) := by decide +kernel
theorem dX8_goHour_151 : decode cX8_goHour 151 = .ok (.iload 5, 2) := by decide +kernel
theorem dX8_goHour_153 : decode cX8_goHour 153 = .ok (.iload 7, 2) := by decide +kernel
theorem dX8_goHour_155 : decode cX8_goHour 155 = .ok (.aload_n 3, 1) := by decide +kernel
theorem dX8_goHour_156 : decode cX8_goHour 156 = .ok (.invokevirtual 100, 3) := by decide +kernel
theorem dX8_goHour_159 : decode cX8_goHour 159 = .ok (.iinc 4 1, 3) := by decide +kernel
theorem dX8_goHour_162 : decode cX8_goHour 162 = .ok (.iinc 7 1, 3) := by decide +kernel
theorem dX8_goHour_165 : decode cX8_goHour 165 = .ok (.goto (-57), 3) := by decide +kernel
theorem dX8_goHour_168 : decode cX8_goHour 168 = .ok (.aload_n 0, 1) := by decide +kernel
theorem dX8_goHour_169 : decode cX8_goHour 169 = .ok (.getfield 43, 3) := by decide +kernel
theorem dX8_goHour_172 : decode cX8_goHour 172 = .ok (.iload 5, 2) := by decide +kernel
theorem dX8_goHour_174 : decode cX8_goHour 174 = .ok (.iaload, 1) := by decide +kernel
theorem dX8_goHour_175 : decode cX8_goHour 175 = .ok (.iload 6, 2) := by decide +kernel
theorem dX8_goHour_177 : decode cX8_goHour 177 = .ok (.iadd, 1) := by decide +kernel
theorem dX8_goHour_178 : decode cX8_goHour 178 = .ok (.aload_n 0, 1) := by decide +kernel
theorem dX8_goHour_179 : decode cX8_goHour 179 = .ok (.getfield 9, 3) := by decide +kernel
theorem dX8_goHour_182 : decode cX8_goHour 182 = .ok (.if_icmp .lt 25, 3) := by decide +kernel
theorem dX8_goHour_185 : decode cX8_goHour 185 = .ok (.aload_n 0, 1) := by decide +kernel
theorem dX8_goHour_186 : decode cX8_goHour 186 = .ok (.getfield 56, 3) := by decide +kernel
theorem dX8_goHour_189 : decode cX8_goHour 189 = .ok (.iload 5, 2) := by decide +kernel
theorem dX8_goHour_191 : decode cX8_goHour 191 = .ok (.aload_n 0, 1) := by decide +kernel
theorem dX8_goHour_192 : decode cX8_goHour 192 = .ok (.getfield 56, 3) := by decide +kernel
theorem dX8_goHour_195 : decode cX8_goHour 195 = .ok (.iload 5, 2) := by decide +kernel
theorem dX8_goHour_197 : decode cX8_goHour 197 = .ok (.iaload, 1) := by decide +kernel
theorem dX8_goHour_198 : decode cX8_goHour 198 = .ok (.iconst 1, 1) := by decide +kernel
theorem dX8_goHour_199 : decode cX8_goHour 199 = .ok (.iadd, 1) := by decide +kernel
theorem dX8_goHour_200 : decode cX8_goHour 200 = .ok (.sipush 999, 3) := by decide +kernel
theorem dX8_goHour_203 : decode cX8_goHour 203 = .ok (.invokestatic 95, 3) := by decide +kernel
theorem dX8_goHour_206 : decode cX8_goHour 206 = .ok (.iastore, 1) := by decide +kernel
theorem dX8_goHour_207 : decode cX8_goHour 207 = .ok (.aload_n 0, 1) := by decide +kernel
theorem dX8_goHour_208 : decode cX8_goHour 208 = .ok (.getfield 43, 3) := by decide +kernel
theorem dX8_goHour_211 : decode cX8_goHour 211 = .ok (.iload 5, 2) := by decide +kernel
theorem dX8_goHour_213 : decode cX8_goHour 213 = .ok (.aload_n 0, 1) := by decide +kernel
theorem dX8_goHour_214 : decode cX8_goHour 214 = .ok (.aload_n 0, 1) := by decide +kernel
theorem dX8_goHour_215 : decode cX8_goHour 215 = .ok (.getfield 43, 3) := by decide +kernel
theorem dX8_goHour_218 : decode cX8_goHour 218 = .ok (.iload 5, 2) := by decide +kernel
theorem dX8_goHour_220 : decode cX8_goHour 220 = .ok (.iaload, 1) := by decide +kernel
theorem dX8_goHour_221 : decode cX8_goHour 221 = .ok (.iload 6, 2) := by decide +kernel
theorem dX8_goHour_223 : decode cX8_goHour 223 = .ok (.iadd, 1) := by decide +kernel
theorem dX8_goHour_224 : decode cX8_goHour 224 = .ok (.invokevirtual 104, 3) := by decide +kernel
theorem dX8_goHour_227 : decode cX8_goHour 227 = .ok (.iastore, 1) := by decide +kernel
theorem dX8_goHour_228 : decode cX8_goHour 228 = .ok (.iinc 5 1, 3) := by decide +kernel
theorem dX8_goHour_231 : decode cX8_goHour 231 = .ok (.goto (-225), 3) := by decide +kernel
theorem dX8_goHour_234 : decode cX8_goHour 234 = .ok (.aload_n 0, 1) := by decide +kernel
theorem dX8_goHour_235 : decode cX8_goHour 235 = .ok (.aload_n 0, 1) := by decide +kernel
theorem dX8_goHour_236 : decode cX8_goHour 236 = .ok (.getfield 18, 3) := by decide +kernel
theorem dX8_goHour_239 : decode cX8_goHour 239 = .ok (.iconst 1, 1) := by decide +kernel
theorem dX8_goHour_240 : decode cX8_goHour 240 = .ok (.iadd, 1) := by decide +kernel
theorem dX8_goHour_241 : decode cX8_goHour 241 = .ok (.sipush 9999, 3) := by decide +kernel
theorem dX8_goHour_244 : decode cX8_goHour 244 = .ok (.invokestatic 95, 3) := by decide +kernel
theorem dX8_goHour_247 : decode cX8_goHour 247 = .ok (.putfield 18, 3) := by decide +kernel
theorem dX8_goHour_250 : decode cX8_goHour 250 = .ok (.iload 4, 2) := by decide +kernel
theorem dX8_goHour_252 : decode cX8_goHour 252 = .ok (.ireturn, 1) := by decide +kernel
theorem dX8_comeBy_0 : decode cX8_comeBy 0 = .ok (.aload_n 0, 1) := by decide +kernel
theorem dX8_comeBy_1 : decode cX8_comeBy 1 = .ok (.getfield 59, 3) := by decide +kernel
theorem dX8_comeBy_4 : decode cX8_comeBy 4 = .ok (.iload_n 1, 1) := by decide +kernel
theorem dX8_comeBy_5 : decode cX8_comeBy 5 = .ok (.dup2, 1) := by decide +kernel
theorem dX8_comeBy_6 : decode cX8_comeBy 6 = .ok (.iaload, 1) := by decide +kernel
theorem dX8_comeBy_7 : decode cX8_comeBy 7 = .ok (.iconst 1, 1) := by decide +kernel
theorem dX8_comeBy_8 : decode cX8_comeBy 8 = .ok (.iload_n 2, 1) := by decide +kernel
theorem dX8_comeBy_9 : decode cX8_comeBy 9 = .ok (.ishl, 1) := by decide +kernel
theorem dX8_comeBy_10 : decode cX8_comeBy 10 = .ok (.ior, 1) := by decide +kernel
theorem dX8_comeBy_11 : decode cX8_comeBy 11 = .ok (.iastore, 1) := by decide +kernel
theorem dX8_comeBy_12 : decode cX8_comeBy 12 = .ok (.aload_n 0, 1) := by decide +kernel
theorem dX8_comeBy_13 : decode cX8_comeBy 13 = .ok (.getfield 59, 3) := by decide +kernel
theorem dX8_comeBy_16 : decode cX8_comeBy 16 = .ok (.iload_n 2, 1) := by decide +kernel
theorem dX8_comeBy_17 : decode cX8_comeBy 17 = .ok (.dup2, 1) := by decide +kernel
theorem dX8_comeBy_18 : decode cX8_comeBy 18 = .ok (.iaload, 1) := by decide +kernel
theorem dX8_comeBy_19 : decode cX8_comeBy 19 = .ok (.iconst 1, 1) := by decide +kernel
theorem dX8_comeBy_20 : decode cX8_comeBy 20 = .ok (.iload_n 1, 1) := by decide +kernel
theorem dX8_comeBy_21 : decode cX8_comeBy 21 = .ok (.ishl, 1) := by decide +kernel
theorem dX8_comeBy_22 : decode cX8_comeBy 22 = .ok (.ior, 1) := by decide +kernel
theorem dX8_comeBy_23 : decode cX8_comeBy 23 = .ok (.iastore, 1) := by decide +kernel
theorem dX8_comeBy_24 : decode cX8_comeBy 24 = .ok (.aload_n 0, 1) := by decide +kernel
theorem dX8_comeBy_25 : decode cX8_comeBy 25 = .ok (.getfield 53, 3) := by decide +kernel
theorem dX8_comeBy_28 : decode cX8_comeBy 28 = .ok (.iload_n 1, 1) := by decide +kernel
theorem dX8_comeBy_29 : decode cX8_comeBy 29 = .ok (.aload_n 0, 1) := by decide +kernel
theorem dX8_comeBy_30 : decode cX8_comeBy 30 = .ok (.getfield 53, 3) := by decide +kernel
theorem dX8_comeBy_33 : decode cX8_comeBy 33 = .ok (.iload_n 1, 1) := by decide +kernel
theorem dX8_comeBy_34 : decode cX8_comeBy 34 = .ok (.iaload, 1) := by decide +kernel
theorem dX8_comeBy_35 : decode cX8_comeBy 35 = .ok (.iconst 1, 1) := by decide +kernel
theorem dX8_comeBy_36 : decode cX8_comeBy 36 = .ok (.iadd, 1) := by decide +kernel
theorem dX8_comeBy_37 : decode cX8_comeBy 37 = .ok (.sipush 999, 3) := by decide +kernel
theorem dX8_comeBy_40 : decode cX8_comeBy 40 = .ok (.invokestatic 95, 3) := by decide +kernel
theorem dX8_comeBy_43 : decode cX8_comeBy 43 = .ok (.iastore, 1) := by decide +kernel
theorem dX8_comeBy_44 : decode cX8_comeBy 44 = .ok (.aload_n 0, 1) := by decide +kernel
theorem dX8_comeBy_45 : decode cX8_comeBy 45 = .ok (.getfield 53, 3) := by decide +kernel
theorem dX8_comeBy_48 : decode cX8_comeBy 48 = .ok (.iload_n 2, 1) := by decide +kernel
theorem dX8_comeBy_49 : decode cX8_comeBy 49 = .ok (.aload_n 0, 1) := by decide +kernel
theorem dX8_comeBy_50 : decode cX8_comeBy 50 = .ok (.getfield 53, 3) := by decide +kernel
theorem dX8_comeBy_53 : decode cX8_comeBy 53 = .ok (.iload_n 2, 1) := by decide +kernel
theorem dX8_comeBy_54 : decode cX8_comeBy 54 = .ok (.iaload, 1) := by decide +kernel
theorem dX8_comeBy_55 : decode cX8_comeBy 55 = .ok (.iconst 1, 1) := by decide +kernel
theorem dX8_comeBy_56 : decode cX8_comeBy 56 = .ok (.iadd, 1) := by decide +kernel
theorem dX8_comeBy_57 : decode cX8_comeBy 57 = .ok (.sipush 999, 3) := by decide +kernel
theorem dX8_comeBy_60 : decode cX8_comeBy 60 = .ok (.invokestatic 95, 3) := by decide +kernel
theorem dX8_comeBy_63 : decode cX8_comeBy 63 = .ok (.iastore, 1) := by decide +kernel
theorem dX8_comeBy_64 : decode cX8_comeBy 64 = .ok (.aload_n 0, 1) := by decide +kernel
theorem dX8_comeBy_65 : decode cX8_comeBy 65 = .ok (.getfield 71, 3) := by decide +kernel
theorem dX8_comeBy_68 : decode cX8_comeBy 68 = .ok (.aload_n 0, 1) := by decide +kernel
theorem dX8_comeBy_69 : decode cX8_comeBy 69 = .ok (.getfield 18, 3) := by decide +kernel
theorem dX8_comeBy_72 : decode cX8_comeBy 72 = .ok (.iload_n 1, 1) := by decide +kernel
theorem dX8_comeBy_73 : decode cX8_comeBy 73 = .ok (.iload_n 2, 1) := by decide +kernel
theorem dX8_comeBy_74 : decode cX8_comeBy 74 = .ok (.aload_n 0, 1) := by decide +kernel
theorem dX8_comeBy_75 : decode cX8_comeBy 75 = .ok (.getfield 43, 3) := by decide +kernel
theorem dX8_comeBy_78 : decode cX8_comeBy 78 = .ok (.iload_n 2, 1) := by decide +kernel
theorem dX8_comeBy_79 : decode cX8_comeBy 79 = .ok (.iaload, 1) := by decide +kernel
theorem dX8_comeBy_80 : decode cX8_comeBy 80 = .ok (.invokevirtual 108, 3) := by decide +kernel
theorem dX8_comeBy_83 : decode cX8_comeBy 83 = .ok (.iload_n 1, 1) := by decide +kernel
theorem dX8_comeBy_84 : decode cX8_comeBy 84 = .ok (.aload_n 3, 1) := by decide +kernel
theorem dX8_comeBy_85 : decode cX8_comeBy 85 = .ok (.arraylength, 1) := by decide +kernel
theorem dX8_comeBy_86 : decode cX8_comeBy 86 = .ok (.if_icmp .ge 27, 3) := by decide +kernel
theorem dX8_comeBy_89 : decode cX8_comeBy 89 = .ok (.iload_n 2, 1) := by decide +kernel
theorem dX8_comeBy_90 : decode cX8_comeBy 90 = .ok (.aload_n 3, 1) := by decide +kernel
theorem dX8_comeBy_91 : decode cX8_comeBy 91 = .ok (.arraylength, 1) := by decide +kernel
theorem dX8_comeBy_92 : decode cX8_comeBy 92 = .ok (.if_icmp .ge 21, 3) := by decide +kernel
theorem dX8_comeBy_95 : decode cX8_comeBy 95 = .ok (.aload_n 3, 1) := by decide +kernel
theorem dX8_comeBy_96 : decode cX8_comeBy 96 = .ok (.iload_n 1, 1) := by decide +kernel
theorem dX8_comeBy_97 : decode cX8_comeBy 97 = .ok (.dup2, 1) := by decide +kernel
theorem dX8_comeBy_98 : decode cX8_comeBy 98 = .ok (.iaload, 1) := by decide +kernel
theorem dX8_comeBy_99 : decode cX8_comeBy 99 = .ok (.iconst 1, 1) := by decide +kernel
theorem dX8_comeBy_100 : decode cX8_comeBy 100 = .ok (.iload_n 2, 1) := by decide +kernel
theorem dX8_comeBy_101 : decode cX8_comeBy 101 = .ok (.ishl, 1) := by decide +kernel
theorem dX8_comeBy_102 : decode cX8_comeBy 102 = .ok (.ior, 1) := by decide +kernel
theorem dX8_comeBy_103 : decode cX8_comeBy 103 = .ok (.iastore, 1) := by decide +kernel
theorem dX8_comeBy_104 : decode cX8_comeBy 104 = .ok (.aload_n 3, 1) := by decide +kernel
theorem dX8_comeBy_105 : decode cX8_comeBy 105 = .ok (.iload_n 2, 1) := by decide +kernel
theorem dX8_comeBy_106 : decode cX8_comeBy 106 = .ok (.dup2, 1) := by decide +kernel
theorem dX8_comeBy_107 : decode cX8_comeBy 107 = .ok (.iaload, 1) := by decide +kernel
theorem dX8_comeBy_108 : decode cX8_comeBy 108 = .ok (.iconst 1, 1) := by decide +kernel
theorem dX8_comeBy_109 : decode cX8_comeBy 109 = .ok (.iload_n 1, 1) := by decide +kernel
theorem dX8_comeBy_110 : decode cX8_comeBy 110 = .ok (.ishl, 1) := by decide +kernel
theorem dX8_comeBy_111 : decode cX8_comeBy 111 = .ok (.ior, 1) := by decide +kernel
theorem dX8_comeBy_112 : decode cX8_comeBy 112 = .ok (.iastore, 1) := by decide +kernel
theorem dX8_comeBy_113 : decode cX8_comeBy 113 = .ok (.return_, 1) := by decide +kernel
theorem dX8_drawMist_0 : decode cX8_drawMist 0 = .ok (.aload_n 0, 1) := by decide +kernel
theorem dX8_drawMist_1 : decode cX8_drawMist 1 = .ok (.ldc 112, 2) := by decide +kernel
theorem dX8_drawMist_3 : decode cX8_drawMist 3 = .ok (.aload_n 0, 1) := by decide +kernel
theorem dX8_drawMist_4 : decode cX8_drawMist 4 = .ok (.getfield 28, 3) := by decide +kernel
theorem dX8_drawMist_7 : decode cX8_drawMist 7 = .ok (.imul, 1) := by decide +kernel
theorem dX8_drawMist_8 : decode cX8_drawMist 8 = .ok (.sipush 12345, 3) := by decide +kernel
theorem dX8_drawMist_11 : decode cX8_drawMist 11 = .ok (.iadd, 1) := by decide +kernel
theorem dX8_drawMist_12 : decode cX8_drawMist 12 = .ok (.putfield 28, 3) := by decide +kernel
theorem dX8_drawMist_15 : decode cX8_drawMist 15 = .ok (.aload_n 0, 1) := by decide +kernel
theorem dX8_drawMist_16 : decode cX8_drawMist 16 = .ok (.aload_n 0, 1) := by decide +kernel
theorem dX8_drawMist_17 : decode cX8_drawMist 17 = .ok (.getfield 28, 3) := by decide +kernel
theorem dX8_drawMist_20 : decode cX8_drawMist 20 = .ok (.bipush 16, 2) := by decide +kernel
theorem dX8_drawMist_22 : decode cX8_drawMist 22 = .ok (.iushr, 1) := by decide +kernel
theorem dX8_drawMist_23 : decode cX8_drawMist 23 = .ok (.sipush 32767, 3) := by decide +kernel
theorem dX8_drawMist_26 : decode cX8_drawMist 26 = .ok (.iand, 1) := by decide +kernel
theorem dX8_drawMist_27 : decode cX8_drawMist 27 = .ok (.bipush 100, 2) := by decide +kernel
theorem dX8_drawMist_29 : decode cX8_drawMist 29 = .ok (.irem, 1) := by decide +kernel
theorem dX8_drawMist_30 : decode cX8_drawMist 30 = .ok (.aload_n 0, 1) := by decide +kernel
theorem dX8_drawMist_31 : decode cX8_drawMist 31 = .ok (.getfield 21, 3) := by decide +kernel
theorem dX8_drawMist_34 : decode cX8_drawMist 34 = .ok (.if_icmp .ge 7, 3) := by decide +kernel
theorem dX8_drawMist_37 : decode cX8_drawMist 37 = .ok (.iconst 1, 1) := by decide +kernel
theorem dX8_drawMist_38 : decode cX8_drawMist 38 = .ok (.goto 4, 3) := by decide +kernel
theorem dX8_drawMist_41 : decode cX8_drawMist 41 = .ok (.iconst 0, 1) := by decide +kernel
theorem dX8_drawMist_42 : decode cX8_drawMist 42 = .ok (.putfield 24, 3) := by decide +kernel
theorem dX8_drawMist_45 : decode cX8_drawMist 45 = .ok (.return_, 1) := by decide +kernel
theorem dX8_figureOf_0 : decode cX8_figureOf 0 = .ok (.iload_n 2, 1) := by decide +kernel
theorem dX8_figureOf_1 : decode cX8_figureOf 1 = .ok (.tableswitch 119 1000 1008 #[51, 53, 60, 67, 73, 83, 90, 97, 106], 51) := by decide +kernel
theorem dX8_figureOf_52 : decode cX8_figureOf 52 = .ok (.iload_n 1, 1) := by decide +kernel
theorem dX8_figureOf_53 : decode cX8_figureOf 53 = .ok (.ireturn, 1) := by decide +kernel
theorem dX8_figureOf_54 : decode cX8_figureOf 54 = .ok (.aload_n 0, 1) := by decide +kernel
theorem dX8_figureOf_55 : decode cX8_figureOf 55 = .ok (.getfield 43, 3) := by decide +kernel
theorem dX8_figureOf_58 : decode cX8_figureOf 58 = .ok (.iload_n 1, 1) := by decide +kernel
theorem dX8_figureOf_59 : decode cX8_figureOf 59 = .ok (.iaload, 1) := by decide +kernel
theorem dX8_figureOf_60 : decode cX8_figureOf 60 = .ok (.ireturn, 1) := by decide +kernel
theorem dX8_figureOf_61 : decode cX8_figureOf 61 = .ok (.aload_n 0, 1) := by decide +kernel
theorem dX8_figureOf_62 : decode cX8_figureOf 62 = .ok (.getfield 47, 3) := by decide +kernel
theorem dX8_figureOf_65 : decode cX8_figureOf 65 = .ok (.iload_n 1, 1) := by decide +kernel
theorem dX8_figureOf_66 : decode cX8_figureOf 66 = .ok (.iaload, 1) := by decide +kernel
theorem dX8_figureOf_67 : decode cX8_figureOf 67 = .ok (.ireturn, 1) := by decide +kernel
theorem dX8_figureOf_68 : decode cX8_figureOf 68 = .ok (.aload_n 0, 1) := by decide +kernel
theorem dX8_figureOf_69 : decode cX8_figureOf 69 = .ok (.iload_n 1, 1) := by decide +kernel
theorem dX8_figureOf_70 : decode cX8_figureOf 70 = .ok (.invokevirtual 113, 3) := by decide +kernel
theorem dX8_figureOf_73 : decode cX8_figureOf 73 = .ok (.ireturn, 1) := by decide +kernel
theorem dX8_figureOf_74 : decode cX8_figureOf 74 = .ok (.aload_n 0, 1) := by decide +kernel
theorem dX8_figureOf_75 : decode cX8_figureOf 75 = .ok (.getfield 59, 3) := by decide +kernel
theorem dX8_figureOf_78 : decode cX8_figureOf 78 = .ok (.iload_n 1, 1) := by decide +kernel
theorem dX8_figureOf_79 : decode cX8_figureOf 79 = .ok (.iaload, 1) := by decide +kernel
theorem dX8_figureOf_80 : decode cX8_figureOf 80 = .ok (.invokestatic 116, 3) := by decide +kernel
theorem dX8_figureOf_83 : decode cX8_figureOf 83 = .ok (.ireturn, 1) := by decide +kernel
theorem dX8_figureOf_84 : decode cX8_figureOf 84 = .ok (.aload_n 0, 1) := by decide +kernel
theorem dX8_figureOf_85 : decode cX8_figureOf 85 = .ok (.getfield 56, 3) := by decide +kernel
theorem dX8_figureOf_88 : decode cX8_figureOf 88 = .ok (.iload_n 1, 1) := by decide +kernel
theorem dX8_figureOf_89 : decode cX8_figureOf 89 = .ok (.iaload, 1) := by decide +kernel
theorem dX8_figureOf_90 : decode cX8_figureOf 90 = .ok (.ireturn, 1) := by decide +kernel
theorem dX8_figureOf_91 : decode cX8_figureOf 91 = .ok (.aload_n 0, 1) := by decide +kernel
theorem dX8_figureOf_92 : decode cX8_figureOf 92 = .ok (.getfield 53, 3) := by decide +kernel
theorem dX8_figureOf_95 : decode cX8_figureOf 95 = .ok (.iload_n 1, 1) := by decide +kernel
theorem dX8_figureOf_96 : decode cX8_figureOf 96 = .ok (.iaload, 1) := by decide +kernel
theorem dX8_figureOf_97 : decode cX8_figureOf 97 = .ok (.ireturn, 1) := by decide +kernel
theorem dX8_figureOf_98 : decode cX8_figureOf 98 = .ok (.aload_n 0, 1) := by decide +kernel
theorem dX8_figureOf_99 : decode cX8_figureOf 99 = .ok (.getfield 40, 3) := by decide +kernel
theorem dX8_figureOf_102 : decode cX8_figureOf 102 = .ok (.iload_n 1, 1) := by decide +kernel
theorem dX8_figureOf_103 : decode cX8_figureOf 103 = .ok (.ishr, 1) := by decide +kernel
theorem dX8_figureOf_104 : decode cX8_figureOf 104 = .ok (.iconst 1, 1) := by decide +kernel
theorem dX8_figureOf_105 : decode cX8_figureOf 105 = .ok (.iand, 1) := by decide +kernel
theorem dX8_figureOf_106 : decode cX8_figureOf 106 = .ok (.ireturn, 1) := by decide +kernel
theorem dX8_figureOf_107 : decode cX8_figureOf 107 = .ok (.aload_n 0, 1) := by decide +kernel
theorem dX8_figureOf_108 : decode cX8_figureOf 108 = .ok (.getfield 24, 3) := by decide +kernel
theorem dX8_figureOf_111 : decode cX8_figureOf 111 = .ok (.ifCond .eq 7, 3) := by decide +kernel
theorem dX8_figureOf_114 : decode cX8_figureOf 114 = .ok (.iconst 1, 1) := by decide +kernel
theorem dX8_figureOf_115 : decode cX8_figureOf 115 = .ok (.goto 4, 3) := by decide +kernel
theorem dX8_figureOf_118 : decode cX8_figureOf 118 = .ok (.iconst 0, 1) := by decide +kernel
theorem dX8_figureOf_119 : decode cX8_figureOf 119 = .ok (.ireturn, 1) := by decide +kernel
theorem dX8_figureOf_120 : decode cX8_figureOf 120 = .ok (.aload_n 0, 1) := by decide +kernel
theorem dX8_figureOf_121 : decode cX8_figureOf 121 = .ok (.aload_n 0, 1) := by decide +kernel
theorem dX8_figureOf_122 : decode cX8_figureOf 122 = .ok (.getfield 43, 3) := by decide +kernel
theorem dX8_figureOf_125 : decode cX8_figureOf 125 = .ok (.iload_n 1, 1) := by decide +kernel
theorem dX8_figureOf_126 : decode cX8_figureOf 126 = .ok (.iaload, 1) := by decide +kernel
theorem dX8_figureOf_127 : decode cX8_figureOf 127 = .ok (.aload_n 0, 1) := by decide +kernel
theorem dX8_figureOf_128 : decode cX8_figureOf 128 = .ok (.getfield 15, 3) := by decide +kernel
theorem dX8_figureOf_131 : decode cX8_figureOf 131 = .ok (.invokevirtual 91, 3) := by decide +kernel
theorem dX8_figureOf_134 : decode cX8_figureOf 134 = .ok (.bipush 10, 2) := by decide +kernel
theorem dX8_figureOf_136 : decode cX8_figureOf 136 = .ok (.if_icmp .ge 7, 3) := by decide +kernel
theorem dX8_figureOf_139 : decode cX8_figureOf 139 = .ok (.iconst 1, 1) := by decide +kernel
theorem dX8_figureOf_140 : decode cX8_figureOf 140 = .ok (.goto 4, 3) := by decide +kernel
theorem dX8_figureOf_143 : decode cX8_figureOf 143 = .ok (.iconst 0, 1) := by decide +kernel
theorem dX8_figureOf_144 : decode cX8_figureOf 144 = .ok (.ireturn, 1) := by decide +kernel
theorem dX8_justAhead_0 : decode cX8_justAhead 0 = .ok (.iconst (-1), 1) := by decide +kernel
theorem dX8_justAhead_1 : decode cX8_justAhead 1 = .ok (.istore_n 2, 1) := by decide +kernel
theorem dX8_justAhead_2 : decode cX8_justAhead 2 = .ok (.aload_n 0, 1) := by decide +kernel
theorem dX8_justAhead_3 : decode cX8_justAhead 3 = .ok (.getfield 9, 3) := by decide +kernel
theorem dX8_justAhead_6 : decode cX8_justAhead 6 = .ok (.istore_n 3, 1) := by decide +kernel
theorem dX8_justAhead_7 : decode cX8_justAhead 7 = .ok (.iconst 0, 1) := by decide +kernel
theorem dX8_justAhead_8 : decode cX8_justAhead 8 = .ok (.istore 4, 2) := by decide +kernel
theorem dX8_justAhead_10 : decode cX8_justAhead 10 = .ok (.iload 4, 2) := by decide +kernel
theorem dX8_justAhead_12 : decode cX8_justAhead 12 = .ok (.aload_n 0, 1) := by decide +kernel
theorem dX8_justAhead_13 : decode cX8_justAhead 13 = .ok (.getfield 34, 3) := by decide +kernel
theorem dX8_justAhead_16 : decode cX8_justAhead 16 = .ok (.if_icmp .ge 46, 3) := by decide +kernel
theorem dX8_justAhead_19 : decode cX8_justAhead 19 = .ok (.aload_n 0, 1) := by decide +kernel
theorem dX8_justAhead_20 : decode cX8_justAhead 20 = .ok (.aload_n 0, 1) := by decide +kernel
theorem dX8_justAhead_21 : decode cX8_justAhead 21 = .ok (.getfield 43, 3) := by decide +kernel
theorem dX8_justAhead_24 : decode cX8_justAhead 24 = .ok (.iload_n 1, 1) := by decide +kernel
theorem dX8_justAhead_25 : decode cX8_justAhead 25 = .ok (.iaload, 1) := by decide +kernel
theorem dX8_justAhead_26 : decode cX8_justAhead 26 = .ok (.aload_n 0, 1) := by decide +kernel
theorem dX8_justAhead_27 : decode cX8_justAhead 27 = .ok (.getfield 43, 3) := by decide +kernel
theorem dX8_justAhead_30 : decode cX8_justAhead 30 = .ok (.iload 4, 2) := by decide +kernel
theorem dX8_justAhead_32 : decode cX8_justAhead 32 = .ok (.iaload, 1) := by decide +kernel
theorem dX8_justAhead_33 : decode cX8_justAhead 33 = .ok (.invokevirtual 91, 3) := by decide +kernel
theorem dX8_justAhead_36 : decode cX8_justAhead 36 = .ok (.istore 5, 2) := by decide +kernel
theorem dX8_justAhead_38 : decode cX8_justAhead 38 = .ok (.iload 4, 2) := by decide +kernel
theorem dX8_justAhead_40 : decode cX8_justAhead 40 = .ok (.iload_n 1, 1) := by decide +kernel
theorem dX8_justAhead_41 : decode cX8_justAhead 41 = .ok (.if_icmp .eq 15, 3) := by decide +kernel
theorem dX8_justAhead_44 : decode cX8_justAhead 44 = .ok (.iload 5, 2) := by decide +kernel
theorem dX8_justAhead_46 : decode cX8_justAhead 46 = .ok (.iload_n 3, 1) := by decide +kernel
theorem dX8_justAhead_47 : decode cX8_justAhead 47 = .ok (.if_icmp .ge 9, 3) := by decide +kernel
theorem dX8_justAhead_50 : decode cX8_justAhead 50 = .ok (.iload 5, 2) := by decide +kernel
theorem dX8_justAhead_52 : decode cX8_justAhead 52 = .ok (.istore_n 3, 1) := by decide +kernel
theorem dX8_justAhead_53 : decode cX8_justAhead 53 = .ok (.iload 4, 2) := by decide +kernel
theorem dX8_justAhead_55 : decode cX8_justAhead 55 = .ok (.istore_n 2, 1) := by decide +kernel
theorem dX8_justAhead_56 : decode cX8_justAhead 56 = .ok (.iinc 4 1, 3) := by decide +kernel
theorem dX8_justAhead_59 : decode cX8_justAhead 59 = .ok (.goto (-49), 3) := by decide +kernel
theorem dX8_justAhead_62 : decode cX8_justAhead 62 = .ok (.iload_n 2, 1) := by decide +kernel
theorem dX8_justAhead_63 : decode cX8_justAhead 63 = .ok (.ireturn, 1) := by decide +kernel
theorem dX8_yardsAhead_0 : decode cX8_yardsAhead 0 = .ok (.aload_n 0, 1) := by decide +kernel
theorem dX8_yardsAhead_1 : decode cX8_yardsAhead 1 = .ok (.getfield 9, 3) := by decide +kernel
theorem dX8_yardsAhead_4 : decode cX8_yardsAhead 4 = .ok (.istore_n 2, 1) := by decide +kernel
theorem dX8_yardsAhead_5 : decode cX8_yardsAhead 5 = .ok (.iconst 0, 1) := by decide +kernel
theorem dX8_yardsAhead_6 : decode cX8_yardsAhead 6 = .ok (.istore_n 3, 1) := by decide +kernel
theorem dX8_yardsAhead_7 : decode cX8_yardsAhead 7 = .ok (.iload_n 3, 1) := by decide +kernel
theorem dX8_yardsAhead_8 : decode cX8_yardsAhead 8 = .ok (.aload_n 0, 1) := by decide +kernel
theorem dX8_yardsAhead_9 : decode cX8_yardsAhead 9 = .ok (.getfield 34, 3) := by decide +kernel
theorem dX8_yardsAhead_12 : decode cX8_yardsAhead 12 = .ok (.if_icmp .ge 35, 3) := by decide +kernel
theorem dX8_yardsAhead_15 : decode cX8_yardsAhead 15 = .ok (.iload_n 3, 1) := by decide +kernel
theorem dX8_yardsAhead_16 : decode cX8_yardsAhead 16 = .ok (.iload_n 1, 1) := by decide +kernel
theorem dX8_yardsAhead_17 : decode cX8_yardsAhead 17 = .ok (.if_icmp .eq 24, 3) := by decide +kernel
theorem dX8_yardsAhead_20 : decode cX8_yardsAhead 20 = .ok (.iload_n 2, 1) := by decide +kernel
theorem dX8_yardsAhead_21 : decode cX8_yardsAhead 21 = .ok (.aload_n 0, 1) := by decide +kernel
theorem dX8_yardsAhead_22 : decode cX8_yardsAhead 22 = .ok (.aload_n 0, 1) := by decide +kernel
theorem dX8_yardsAhead_23 : decode cX8_yardsAhead 23 = .ok (.getfield 43, 3) := by decide +kernel
theorem dX8_yardsAhead_26 : decode cX8_yardsAhead 26 = .ok (.iload_n 1, 1) := by decide +kernel
theorem dX8_yardsAhead_27 : decode cX8_yardsAhead 27 = .ok (.iaload, 1) := by decide +kernel
theorem dX8_yardsAhead_28 : decode cX8_yardsAhead 28 = .ok (.aload_n 0, 1) := by decide +kernel
theorem dX8_yardsAhead_29 : decode cX8_yardsAhead 29 = .ok (.getfield 43, 3) := by decide +kernel
theorem dX8_yardsAhead_32 : decode cX8_yardsAhead 32 = .ok (.iload_n 3, 1) := by decide +kernel
theorem dX8_yardsAhead_33 : decode cX8_yardsAhead 33 = .ok (.iaload, 1) := by decide +kernel
theorem dX8_yardsAhead_34 : decode cX8_yardsAhead 34 = .ok (.invokevirtual 91, 3) := by decide +kernel
theorem dX8_yardsAhead_37 : decode cX8_yardsAhead 37 = .ok (.invokestatic 95, 3) := by decide +kernel
theorem dX8_yardsAhead_40 : decode cX8_yardsAhead 40 = .ok (.istore_n 2, 1) := by decide +kernel
theorem dX8_yardsAhead_41 : decode cX8_yardsAhead 41 = .ok (.iinc 3 1, 3) := by decide +kernel
theorem dX8_yardsAhead_44 : decode cX8_yardsAhead 44 = .ok (.goto (-37), 3) := by decide +kernel
theorem dX8_yardsAhead_47 : decode cX8_yardsAhead 47 = .ok (.iload_n 2, 1) := by decide +kernel
theorem dX8_yardsAhead_48 : decode cX8_yardsAhead 48 = .ok (.ireturn, 1) := by decide +kernel
theorem dX8_yardsToNextPlace_0 : decode cX8_yardsToNextPlace 0 = .ok (.iconst 0, 1) := by decide +kernel
theorem dX8_yardsToNextPlace_1 : decode cX8_yardsToNextPlace 1 = .ok (.istore_n 2, 1) := by decide +kernel
theorem dX8_yardsToNextPlace_2 : decode cX8_yardsToNextPlace 2 = .ok (.iconst 0, 1) := by decide +kernel
theorem dX8_yardsToNextPlace_3 : decode cX8_yardsToNextPlace 3 = .ok (.istore_n 3, 1) := by decide +kernel
theorem dX8_yardsToNextPlace_4 : decode cX8_yardsToNextPlace 4 = .ok (.iload_n 3, 1) := by decide +kernel
theorem dX8_yardsToNextPlace_5 : decode cX8_yardsToNextPlace 5 = .ok (.aload_n 0, 1) := by decide +kernel
theorem dX8_yardsToNextPlace_6 : decode cX8_yardsToNextPlace 6 = .ok (.getfield 34, 3) := by decide +kernel
theorem dX8_yardsToNextPlace_9 : decode cX8_yardsToNextPlace 9 = .ok (.if_icmp .ge 45, 3) := by decide +kernel
theorem dX8_yardsToNextPlace_12 : decode cX8_yardsToNextPlace 12 = .ok (.aload_n 0, 1) := by decide +kernel
theorem dX8_yardsToNextPlace_13 : decode cX8_yardsToNextPlace 13 = .ok (.aload_n 0, 1) := by decide +kernel
theorem dX8_yardsToNextPlace_14 : decode cX8_yardsToNextPlace 14 = .ok (.getfield 43, 3) := by decide +kernel
theorem dX8_yardsToNextPlace_17 : decode cX8_yardsToNextPlace 17 = .ok (.iload_n 1, 1) := by decide +kernel
theorem dX8_yardsToNextPlace_18 : decode cX8_yardsToNextPlace 18 = .ok (.iaload, 1) := by decide +kernel
theorem dX8_yardsToNextPlace_19 : decode cX8_yardsToNextPlace 19 = .ok (.aload_n 0, 1) := by decide +kernel
theorem dX8_yardsToNextPlace_20 : decode cX8_yardsToNextPlace 20 = .ok (.getfield 43, 3) := by decide +kernel
theorem dX8_yardsToNextPlace_23 : decode cX8_yardsToNextPlace 23 = .ok (.iload_n 3, 1) := by decide +kernel
theorem dX8_yardsToNextPlace_24 : decode cX8_yardsToNextPlace 24 = .ok (.iaload, 1) := by decide +kernel
theorem dX8_yardsToNextPlace_25 : decode cX8_yardsToNextPlace 25 = .ok (.invokevirtual 91, 3) := by decide +kernel
theorem dX8_yardsToNextPlace_28 : decode cX8_yardsToNextPlace 28 = .ok (.istore 4, 2) := by decide +kernel
theorem dX8_yardsToNextPlace_30 : decode cX8_yardsToNextPlace 30 = .ok (.iload 4, 2) := by decide +kernel
theorem dX8_yardsToNextPlace_32 : decode cX8_yardsToNextPlace 32 = .ok (.ifCond .le 16, 3) := by decide +kernel
theorem dX8_yardsToNextPlace_35 : decode cX8_yardsToNextPlace 35 = .ok (.iload_n 2, 1) := by decide +kernel
theorem dX8_yardsToNextPlace_36 : decode cX8_yardsToNextPlace 36 = .ok (.ifCond .eq 9, 3) := by decide +kernel
theorem dX8_yardsToNextPlace_39 : decode cX8_yardsToNextPlace 39 = .ok (.iload 4, 2) := by decide +kernel
theorem dX8_yardsToNextPlace_41 : decode cX8_yardsToNextPlace 41 = .ok (.iload_n 2, 1) := by decide +kernel
theorem dX8_yardsToNextPlace_42 : decode cX8_yardsToNextPlace 42 = .ok (.if_icmp .ge 6, 3) := by decide +kernel
theorem dX8_yardsToNextPlace_45 : decode cX8_yardsToNextPlace 45 = .ok (.iload 4, 2) := by decide +kernel
theorem dX8_yardsToNextPlace_47 : decode cX8_yardsToNextPlace 47 = .ok (.istore_n 2, 1) := by decide +kernel
theorem dX8_yardsToNextPlace_48 : decode cX8_yardsToNextPlace 48 = .ok (.iinc 3 1, 3) := by decide +kernel
theorem dX8_yardsToNextPlace_51 : decode cX8_yardsToNextPlace 51 = .ok (.goto (-47), 3) := by decide +kernel
theorem dX8_yardsToNextPlace_54 : decode cX8_yardsToNextPlace 54 = .ok (.iload_n 2, 1) := by decide +kernel
theorem dX8_yardsToNextPlace_55 : decode cX8_yardsToNextPlace 55 = .ok (.ireturn, 1) := by decide +kernel
theorem dX8_rankOf_0 : decode cX8_rankOf 0 = .ok (.aload_n 0, 1) := by decide +kernel
theorem dX8_rankOf_1 : decode cX8_rankOf 1 = .ok (.aload_n 0, 1) := by decide +kernel
theorem dX8_rankOf_2 : decode cX8_rankOf 2 = .ok (.getfield 43, 3) := by decide +kernel
theorem dX8_rankOf_5 : decode cX8_rankOf 5 = .ok (.iconst 0, 1) := by decide +kernel
theorem dX8_rankOf_6 : decode cX8_rankOf 6 = .ok (.iaload, 1) := by decide +kernel
theorem dX8_rankOf_7 : decode cX8_rankOf 7 = .ok (.aload_n 0, 1) := by decide +kernel
theorem dX8_rankOf_8 : decode cX8_rankOf 8 = .ok (.getfield 43, 3) := by decide +kernel
theorem dX8_rankOf_11 : decode cX8_rankOf 11 = .ok (.iload_n 1, 1) := by decide +kernel
theorem dX8_rankOf_12 : decode cX8_rankOf 12 = .ok (.iaload, 1) := by decide +kernel
theorem dX8_rankOf_13 : decode cX8_rankOf 13 = .ok (.invokevirtual 91, 3) := by decide +kernel
theorem dX8_rankOf_16 : decode cX8_rankOf 16 = .ok (.istore_n 2, 1) := by decide +kernel
theorem dX8_rankOf_17 : decode cX8_rankOf 17 = .ok (.iconst 0, 1) := by decide +kernel
theorem dX8_rankOf_18 : decode cX8_rankOf 18 = .ok (.istore_n 3, 1) := by decide +kernel
theorem dX8_rankOf_19 : decode cX8_rankOf 19 = .ok (.iconst 0, 1) := by decide +kernel
theorem dX8_rankOf_20 : decode cX8_rankOf 20 = .ok (.istore 4, 2) := by decide +kernel
theorem dX8_rankOf_22 : decode cX8_rankOf 22 = .ok (.iload 4, 2) := by decide +kernel
theorem dX8_rankOf_24 : decode cX8_rankOf 24 = .ok (.aload_n 0, 1) := by decide +kernel
theorem dX8_rankOf_25 : decode cX8_rankOf 25 = .ok (.getfield 34, 3) := by decide +kernel
theorem dX8_rankOf_28 : decode cX8_rankOf 28 = .ok (.if_icmp .ge 49, 3) := by decide +kernel
theorem dX8_rankOf_31 : decode cX8_rankOf 31 = .ok (.aload_n 0, 1) := by decide +kernel
theorem dX8_rankOf_32 : decode cX8_rankOf 32 = .ok (.aload_n 0, 1) := by decide +kernel
theorem dX8_rankOf_33 : decode cX8_rankOf 33 = .ok (.getfield 43, 3) := by decide +kernel
theorem dX8_rankOf_36 : decode cX8_rankOf 36 = .ok (.iconst 0, 1) := by decide +kernel
theorem dX8_rankOf_37 : decode cX8_rankOf 37 = .ok (.iaload, 1) := by decide +kernel
theorem dX8_rankOf_38 : decode cX8_rankOf 38 = .ok (.aload_n 0, 1) := by decide +kernel
theorem dX8_rankOf_39 : decode cX8_rankOf 39 = .ok (.getfield 43, 3) := by decide +kernel
theorem dX8_rankOf_42 : decode cX8_rankOf 42 = .ok (.iload 4, 2) := by decide +kernel
theorem dX8_rankOf_44 : decode cX8_rankOf 44 = .ok (.iaload, 1) := by decide +kernel
theorem dX8_rankOf_45 : decode cX8_rankOf 45 = .ok (.invokevirtual 91, 3) := by decide +kernel
theorem dX8_rankOf_48 : decode cX8_rankOf 48 = .ok (.istore 5, 2) := by decide +kernel
theorem dX8_rankOf_50 : decode cX8_rankOf 50 = .ok (.iload 5, 2) := by decide +kernel
theorem dX8_rankOf_52 : decode cX8_rankOf 52 = .ok (.iload_n 2, 1) := by decide +kernel
theorem dX8_rankOf_53 : decode cX8_rankOf 53 = .ok (.if_icmp .lt 15, 3) := by decide +kernel
theorem dX8_rankOf_56 : decode cX8_rankOf 56 = .ok (.iload 5, 2) := by decide +kernel
theorem dX8_rankOf_58 : decode cX8_rankOf 58 = .ok (.iload_n 2, 1) := by decide +kernel
theorem dX8_rankOf_59 : decode cX8_rankOf 59 = .ok (.if_icmp .ne 12, 3) := by decide +kernel
theorem dX8_rankOf_62 : decode cX8_rankOf 62 = .ok (.iload 4, 2) := by decide +kernel
theorem dX8_rankOf_64 : decode cX8_rankOf 64 = .ok (.iload_n 1, 1) := by decide +kernel
theorem dX8_rankOf_65 : decode cX8_rankOf 65 = .ok (.if_icmp .ge 6, 3) := by decide +kernel
theorem dX8_rankOf_68 : decode cX8_rankOf 68 = .ok (.iinc 3 1, 3) := by decide +kernel
theorem dX8_rankOf_71 : decode cX8_rankOf 71 = .ok (.iinc 4 1, 3) := by decide +kernel
theorem dX8_rankOf_74 : decode cX8_rankOf 74 = .ok (.goto (-52), 3) := by decide +kernel
theorem dX8_rankOf_77 : decode cX8_rankOf 77 = .ok (.iload_n 3, 1) := by decide +kernel
theorem dX8_rankOf_78 : decode cX8_rankOf 78 = .ok (.ireturn, 1) := by decide +kernel
theorem dX8_othersThan_0 : decode cX8_othersThan 0 = .ok (.iconst 1, 1) := by decide +kernel
theorem dX8_othersThan_1 : decode cX8_othersThan 1 = .ok (.aload_n 0, 1) := by decide +kernel
theorem dX8_othersThan_2 : decode cX8_othersThan 2 = .ok (.getfield 34, 3) := by decide +kernel
theorem dX8_othersThan_5 : decode cX8_othersThan 5 = .ok (.ishl, 1) := by decide +kernel
theorem dX8_othersThan_6 : decode cX8_othersThan 6 = .ok (.iconst 1, 1) := by decide +kernel
theorem dX8_othersThan_7 : decode cX8_othersThan 7 = .ok (.isub, 1) := by decide +kernel
theorem dX8_othersThan_8 : decode cX8_othersThan 8 = .ok (.iconst 1, 1) := by decide +kernel
theorem dX8_othersThan_9 : decode cX8_othersThan 9 = .ok (.iload_n 1, 1) := by decide +kernel
theorem dX8_othersThan_10 : decode cX8_othersThan 10 = .ok (.ishl, 1) := by decide +kernel
theorem dX8_othersThan_11 : decode cX8_othersThan 11 = .ok (.iconst (-1), 1) := by decide +kernel
theorem dX8_othersThan_12 : decode cX8_othersThan 12 = .ok (.ixor, 1) := by decide +kernel
theorem dX8_othersThan_13 : decode cX8_othersThan 13 = .ok (.iand, 1) := by decide +kernel
theorem dX8_othersThan_14 : decode cX8_othersThan 14 = .ok (.ireturn, 1) := by decide +kernel
theorem dX8_shunnersOf_0 : decode cX8_shunnersOf 0 = .ok (.iconst 0, 1) := by decide +kernel
theorem dX8_shunnersOf_1 : decode cX8_shunnersOf 1 = .ok (.istore_n 2, 1) := by decide +kernel
theorem dX8_shunnersOf_2 : decode cX8_shunnersOf 2 = .ok (.iconst 0, 1) := by decide +kernel
theorem dX8_shunnersOf_3 : decode cX8_shunnersOf 3 = .ok (.istore_n 3, 1) := by decide +kernel
theorem dX8_shunnersOf_4 : decode cX8_shunnersOf 4 = .ok (.iload_n 3, 1) := by decide +kernel
theorem dX8_shunnersOf_5 : decode cX8_shunnersOf 5 = .ok (.aload_n 0, 1) := by decide +kernel
theorem dX8_shunnersOf_6 : decode cX8_shunnersOf 6 = .ok (.getfield 34, 3) := by decide +kernel
theorem dX8_shunnersOf_9 : decode cX8_shunnersOf 9 = .ok (.if_icmp .ge 24, 3) := by decide +kernel
theorem dX8_shunnersOf_12 : decode cX8_shunnersOf 12 = .ok (.iload_n 2, 1) := by decide +kernel
theorem dX8_shunnersOf_13 : decode cX8_shunnersOf 13 = .ok (.aload_n 0, 1) := by decide +kernel
theorem dX8_shunnersOf_14 : decode cX8_shunnersOf 14 = .ok (.getfield 50, 3) := by decide +kernel
theorem dX8_shunnersOf_17 : decode cX8_shunnersOf 17 = .ok (.iload_n 3, 1) := by decide +kernel
theorem dX8_shunnersOf_18 : decode cX8_shunnersOf 18 = .ok (.iaload, 1) := by decide +kernel
theorem dX8_shunnersOf_19 : decode cX8_shunnersOf 19 = .ok (.iload_n 1, 1) := by decide +kernel
theorem dX8_shunnersOf_20 : decode cX8_shunnersOf 20 = .ok (.ishr, 1) := by decide +kernel
theorem dX8_shunnersOf_21 : decode cX8_shunnersOf 21 = .ok (.iconst 1, 1) := by decide +kernel
theorem dX8_shunnersOf_22 : decode cX8_shunnersOf 22 = .ok (.iand, 1) := by decide +kernel
theorem dX8_shunnersOf_23 : decode cX8_shunnersOf 23 = .ok (.iload_n 3, 1) := by decide +kernel
theorem dX8_shunnersOf_24 : decode cX8_shunnersOf 24 = .ok (.ishl, 1) := by decide +kernel
theorem dX8_shunnersOf_25 : decode cX8_shunnersOf 25 = .ok (.ior, 1) := by decide +kernel
theorem dX8_shunnersOf_26 : decode cX8_shunnersOf 26 = .ok (.istore_n 2, 1) := by decide +kernel
theorem dX8_shunnersOf_27 : decode cX8_shunnersOf 27 = .ok (.iinc 3 1, 3) := by decide +kernel
theorem dX8_shunnersOf_30 : decode cX8_shunnersOf 30 = .ok (.goto (-26), 3) := by decide +kernel
theorem dX8_shunnersOf_33 : decode cX8_shunnersOf 33 = .ok (.iload_n 2, 1) := by decide +kernel
theorem dX8_shunnersOf_34 : decode cX8_shunnersOf 34 = .ok (.ireturn, 1) := by decide +kernel
theorem dX8_allHats_0 : decode cX8_allHats 0 = .ok (.iconst 0, 1) := by decide +kernel
theorem dX8_allHats_1 : decode cX8_allHats 1 = .ok (.istore_n 1, 1) := by decide +kernel
theorem dX8_allHats_2 : decode cX8_allHats 2 = .ok (.iconst 0, 1) := by decide +kernel
theorem dX8_allHats_3 : decode cX8_allHats 3 = .ok (.istore_n 2, 1) := by decide +kernel
theorem dX8_allHats_4 : decode cX8_allHats 4 = .ok (.iload_n 2, 1) := by decide +kernel
theorem dX8_allHats_5 : decode cX8_allHats 5 = .ok (.aload_n 0, 1) := by decide +kernel
theorem dX8_allHats_6 : decode cX8_allHats 6 = .ok (.getfield 34, 3) := by decide +kernel
theorem dX8_allHats_9 : decode cX8_allHats 9 = .ok (.if_icmp .ge 18, 3) := by decide +kernel
theorem dX8_allHats_12 : decode cX8_allHats 12 = .ok (.iload_n 1, 1) := by decide +kernel
theorem dX8_allHats_13 : decode cX8_allHats 13 = .ok (.aload_n 0, 1) := by decide +kernel
theorem dX8_allHats_14 : decode cX8_allHats 14 = .ok (.getfield 53, 3) := by decide +kernel
theorem dX8_allHats_17 : decode cX8_allHats 17 = .ok (.iload_n 2, 1) := by decide +kernel
theorem dX8_allHats_18 : decode cX8_allHats 18 = .ok (.iaload, 1) := by decide +kernel
theorem dX8_allHats_19 : decode cX8_allHats 19 = .ok (.iadd, 1) := by decide +kernel
theorem dX8_allHats_20 : decode cX8_allHats 20 = .ok (.istore_n 1, 1) := by decide +kernel
theorem dX8_allHats_21 : decode cX8_allHats 21 = .ok (.iinc 2 1, 3) := by decide +kernel
theorem dX8_allHats_24 : decode cX8_allHats 24 = .ok (.goto (-20), 3) := by decide +kernel
theorem dX8_allHats_27 : decode cX8_allHats 27 = .ok (.iload_n 1, 1) := by decide +kernel
theorem dX8_allHats_28 : decode cX8_allHats 28 = .ok (.ireturn, 1) := by decide +kernel
theorem dX8_shareOf_0 : decode cX8_shareOf 0 = .ok (.aload_n 0, 1) := by decide +kernel
theorem dX8_shareOf_1 : decode cX8_shareOf 1 = .ok (.invokevirtual 121, 3) := by decide +kernel
theorem dX8_shareOf_4 : decode cX8_shareOf 4 = .ok (.istore_n 2, 1) := by decide +kernel
theorem dX8_shareOf_5 : decode cX8_shareOf 5 = .ok (.iload_n 2, 1) := by decide +kernel
theorem dX8_shareOf_6 : decode cX8_shareOf 6 = .ok (.ifCond .ne 7, 3) := by decide +kernel
theorem dX8_shareOf_9 : decode cX8_shareOf 9 = .ok (.iconst 0, 1) := by decide +kernel
theorem dX8_shareOf_10 : decode cX8_shareOf 10 = .ok (.goto 14, 3) := by decide +kernel
theorem dX8_shareOf_13 : decode cX8_shareOf 13 = .ok (.aload_n 0, 1) := by decide +kernel
theorem dX8_shareOf_14 : decode cX8_shareOf 14 = .ok (.getfield 53, 3) := by decide +kernel
theorem dX8_shareOf_17 : decode cX8_shareOf 17 = .ok (.iload_n 1, 1) := by decide +kernel
theorem dX8_shareOf_18 : decode cX8_shareOf 18 = .ok (.iaload, 1) := by decide +kernel
theorem dX8_shareOf_19 : decode cX8_shareOf 19 = .ok (.bipush 100, 2) := by decide +kernel
theorem dX8_shareOf_21 : decode cX8_shareOf 21 = .ok (.imul, 1) := by decide +kernel
theorem dX8_shareOf_22 : decode cX8_shareOf 22 = .ok (.iload_n 2, 1) := by decide +kernel
theorem dX8_shareOf_23 : decode cX8_shareOf 23 = .ok (.idiv, 1) := by decide +kernel
theorem dX8_shareOf_24 : decode cX8_shareOf 24 = .ok (.ireturn, 1) := by decide +kernel
theorem dX8_aloneAfter_0 : decode cX8_aloneAfter 0 = .ok (.aload_n 0, 1) := by decide +kernel
theorem dX8_aloneAfter_1 : decode cX8_aloneAfter 1 = .ok (.aload_n 0, 1) := by decide +kernel
theorem dX8_aloneAfter_2 : decode cX8_aloneAfter 2 = .ok (.getfield 43, 3) := by decide +kernel
theorem dX8_aloneAfter_5 : decode cX8_aloneAfter 5 = .ok (.iload_n 1, 1) := by decide +kernel
theorem dX8_aloneAfter_6 : decode cX8_aloneAfter 6 = .ok (.iaload, 1) := by decide +kernel
theorem dX8_aloneAfter_7 : decode cX8_aloneAfter 7 = .ok (.iload_n 2, 1) := by decide +kernel
theorem dX8_aloneAfter_8 : decode cX8_aloneAfter 8 = .ok (.aload_n 0, 1) := by decide +kernel
theorem dX8_aloneAfter_9 : decode cX8_aloneAfter 9 = .ok (.getfield 47, 3) := by decide +kernel
theorem dX8_aloneAfter_12 : decode cX8_aloneAfter 12 = .ok (.iload_n 1, 1) := by decide +kernel
theorem dX8_aloneAfter_13 : decode cX8_aloneAfter 13 = .ok (.iaload, 1) := by decide +kernel
theorem dX8_aloneAfter_14 : decode cX8_aloneAfter 14 = .ok (.imul, 1) := by decide +kernel
theorem dX8_aloneAfter_15 : decode cX8_aloneAfter 15 = .ok (.iadd, 1) := by decide +kernel
theorem dX8_aloneAfter_16 : decode cX8_aloneAfter 16 = .ok (.invokevirtual 104, 3) := by decide +kernel
theorem dX8_aloneAfter_19 : decode cX8_aloneAfter 19 = .ok (.ireturn, 1) := by decide +kernel
theorem dX8_calledFrom_0 : decode cX8_calledFrom 0 = .ok (.iload_n 1, 1) := by decide +kernel
theorem dX8_calledFrom_1 : decode cX8_calledFrom 1 = .ok (.istore_n 3, 1) := by decide +kernel
theorem dX8_calledFrom_2 : decode cX8_calledFrom 2 = .ok (.iconst 0, 1) := by decide +kernel
theorem dX8_calledFrom_3 : decode cX8_calledFrom 3 = .ok (.istore 4, 2) := by decide +kernel
theorem dX8_calledFrom_5 : decode cX8_calledFrom 5 = .ok (.iload 4, 2) := by decide +kernel
theorem dX8_calledFrom_7 : decode cX8_calledFrom 7 = .ok (.aload_n 0, 1) := by decide +kernel
theorem dX8_calledFrom_8 : decode cX8_calledFrom 8 = .ok (.getfield 34, 3) := by decide +kernel
theorem dX8_calledFrom_11 : decode cX8_calledFrom 11 = .ok (.if_icmp .ge 66, 3) := by decide +kernel
theorem dX8_calledFrom_14 : decode cX8_calledFrom 14 = .ok (.iconst 0, 1) := by decide +kernel
theorem dX8_calledFrom_15 : decode cX8_calledFrom 15 = .ok (.istore 5, 2) := by decide +kernel
theorem dX8_calledFrom_17 : decode cX8_calledFrom 17 = .ok (.iload 5, 2) := by decide +kernel
theorem dX8_calledFrom_19 : decode cX8_calledFrom 19 = .ok (.aload_n 0, 1) := by decide +kernel
theorem dX8_calledFrom_20 : decode cX8_calledFrom 20 = .ok (.getfield 34, 3) := by decide +kernel
theorem dX8_calledFrom_23 : decode cX8_calledFrom 23 = .ok (.if_icmp .ge 48, 3) := by decide +kernel
theorem dX8_calledFrom_26 : decode cX8_calledFrom 26 = .ok (.iload_n 1, 1) := by decide +kernel
theorem dX8_calledFrom_27 : decode cX8_calledFrom 27 = .ok (.iload 4, 2) := by decide +kernel
theorem dX8_calledFrom_29 : decode cX8_calledFrom 29 = .ok (.ishr, 1) := by decide +kernel
theorem dX8_calledFrom_30 : decode cX8_calledFrom 30 = .ok (.iconst 1, 1) := by decide +kernel
theorem dX8_calledFrom_31 : decode cX8_calledFrom 31 = .ok (.iand, 1) := by decide +kernel
theorem dX8_calledFrom_32 : decode cX8_calledFrom 32 = .ok (.iconst 1, 1) := by decide +kernel
theorem dX8_calledFrom_33 : decode cX8_calledFrom 33 = .ok (.if_icmp .ne 32, 3) := by decide +kernel
theorem dX8_calledFrom_36 : decode cX8_calledFrom 36 = .ok (.aload_n 0, 1) := by decide +kernel
theorem dX8_calledFrom_37 : decode cX8_calledFrom 37 = .ok (.aload_n 0, 1) := by decide +kernel
theorem dX8_calledFrom_38 : decode cX8_calledFrom 38 = .ok (.getfield 43, 3) := by decide +kernel
theorem dX8_calledFrom_41 : decode cX8_calledFrom 41 = .ok (.iload 4, 2) := by decide +kernel
theorem dX8_calledFrom_43 : decode cX8_calledFrom 43 = .ok (.iaload, 1) := by decide +kernel
theorem dX8_calledFrom_44 : decode cX8_calledFrom 44 = .ok (.aload_n 0, 1) := by decide +kernel
theorem dX8_calledFrom_45 : decode cX8_calledFrom 45 = .ok (.getfield 43, 3) := by decide +kernel
theorem dX8_calledFrom_48 : decode cX8_calledFrom 48 = .ok (.iload 5, 2) := by decide +kernel
theorem dX8_calledFrom_50 : decode cX8_calledFrom 50 = .ok (.iaload, 1) := by decide +kernel
theorem dX8_calledFrom_51 : decode cX8_calledFrom 51 = .ok (.invokevirtual 91, 3) := by decide +kernel
theorem dX8_calledFrom_54 : decode cX8_calledFrom 54 = .ok (.iload_n 2, 1) := by decide +kernel
theorem dX8_calledFrom_55 : decode cX8_calledFrom 55 = .ok (.if_icmp .gt 10, 3) := by decide +kernel
theorem dX8_calledFrom_58 : decode cX8_calledFrom 58 = .ok (.iload_n 3, 1) := by decide +kernel
theorem dX8_calledFrom_59 : decode cX8_calledFrom 59 = .ok (.iconst 1, 1) := by decide +kernel
theorem dX8_calledFrom_60 : decode cX8_calledFrom 60 = .ok (.iload 5, 2) := by decide +kernel
theorem dX8_calledFrom_62 : decode cX8_calledFrom 62 = .ok (.ishl, 1) := by decide +kernel
theorem dX8_calledFrom_63 : decode cX8_calledFrom 63 = .ok (.ior, 1) := by decide +kernel
theorem dX8_calledFrom_64 : decode cX8_calledFrom 64 = .ok (.istore_n 3, 1) := by decide +kernel
theorem dX8_calledFrom_65 : decode cX8_calledFrom 65 = .ok (.iinc 5 1, 3) := by decide +kernel
theorem dX8_calledFrom_68 : decode cX8_calledFrom 68 = .ok (.goto (-51), 3) := by decide +kernel
theorem dX8_calledFrom_71 : decode cX8_calledFrom 71 = .ok (.iinc 4 1, 3) := by decide +kernel
theorem dX8_calledFrom_74 : decode cX8_calledFrom 74 = .ok (.goto (-69), 3) := by decide +kernel
theorem dX8_calledFrom_77 : decode cX8_calledFrom 77 = .ok (.iload_n 3, 1) := by decide +kernel
theorem dX8_calledFrom_78 : decode cX8_calledFrom 78 = .ok (.ireturn, 1) := by decide +kernel
theorem dX8_farthestInBlack_0 : decode cX8_farthestInBlack 0 = .ok (.iconst 0, 1) := by decide +kernel
theorem dX8_farthestInBlack_1 : decode cX8_farthestInBlack 1 = .ok (.istore_n 2, 1) := by decide +kernel
theorem dX8_farthestInBlack_2 : decode cX8_farthestInBlack 2 = .ok (.iconst 0, 1) := by decide +kernel
theorem dX8_farthestInBlack_3 : decode cX8_farthestInBlack 3 = .ok (.istore_n 3, 1) := by decide +kernel
theorem dX8_farthestInBlack_4 : decode cX8_farthestInBlack 4 = .ok (.iload_n 3, 1) := by decide +kernel
theorem dX8_farthestInBlack_5 : decode cX8_farthestInBlack 5 = .ok (.aload_n 0, 1) := by decide +kernel
theorem dX8_farthestInBlack_6 : decode cX8_farthestInBlack 6 = .ok (.getfield 34, 3) := by decide +kernel
theorem dX8_farthestInBlack_9 : decode cX8_farthestInBlack 9 = .ok (.if_icmp .ge 42, 3) := by decide +kernel
theorem dX8_farthestInBlack_12 : decode cX8_farthestInBlack 12 = .ok (.aload_n 0, 1) := by decide +kernel
theorem dX8_farthestInBlack_13 : decode cX8_farthestInBlack 13 = .ok (.getfield 40, 3) := by decide +kernel
theorem dX8_farthestInBlack_16 : decode cX8_farthestInBlack 16 = .ok (.iload_n 3, 1) := by decide +kernel
theorem dX8_farthestInBlack_17 : decode cX8_farthestInBlack 17 = .ok (.ishr, 1) := by decide +kernel
theorem dX8_farthestInBlack_18 : decode cX8_farthestInBlack 18 = .ok (.iconst 1, 1) := by decide +kernel
theorem dX8_farthestInBlack_19 : decode cX8_farthestInBlack 19 = .ok (.iand, 1) := by decide +kernel
theorem dX8_farthestInBlack_20 : decode cX8_farthestInBlack 20 = .ok (.iconst 1, 1) := by decide +kernel
theorem dX8_farthestInBlack_21 : decode cX8_farthestInBlack 21 = .ok (.if_icmp .ne 24, 3) := by decide +kernel
theorem dX8_farthestInBlack_24 : decode cX8_farthestInBlack 24 = .ok (.iload_n 2, 1) := by decide +kernel
theorem dX8_farthestInBlack_25 : decode cX8_farthestInBlack 25 = .ok (.aload_n 0, 1) := by decide +kernel
theorem dX8_farthestInBlack_26 : decode cX8_farthestInBlack 26 = .ok (.aload_n 0, 1) := by decide +kernel
theorem dX8_farthestInBlack_27 : decode cX8_farthestInBlack 27 = .ok (.getfield 43, 3) := by decide +kernel
theorem dX8_farthestInBlack_30 : decode cX8_farthestInBlack 30 = .ok (.iload_n 1, 1) := by decide +kernel
theorem dX8_farthestInBlack_31 : decode cX8_farthestInBlack 31 = .ok (.iaload, 1) := by decide +kernel
theorem dX8_farthestInBlack_32 : decode cX8_farthestInBlack 32 = .ok (.aload_n 0, 1) := by decide +kernel
theorem dX8_farthestInBlack_33 : decode cX8_farthestInBlack 33 = .ok (.getfield 43, 3) := by decide +kernel
theorem dX8_farthestInBlack_36 : decode cX8_farthestInBlack 36 = .ok (.iload_n 3, 1) := by decide +kernel
theorem dX8_farthestInBlack_37 : decode cX8_farthestInBlack 37 = .ok (.iaload, 1) := by decide +kernel
theorem dX8_farthestInBlack_38 : decode cX8_farthestInBlack 38 = .ok (.invokevirtual 91, 3) := by decide +kernel
theorem dX8_farthestInBlack_41 : decode cX8_farthestInBlack 41 = .ok (.invokestatic 125, 3) := by decide +kernel
theorem dX8_farthestInBlack_44 : decode cX8_farthestInBlack 44 = .ok (.istore_n 2, 1) := by decide +kernel
theorem dX8_farthestInBlack_45 : decode cX8_farthestInBlack 45 = .ok (.iinc 3 1, 3) := by decide +kernel
theorem dX8_farthestInBlack_48 : decode cX8_farthestInBlack 48 = .ok (.goto (-44), 3) := by decide +kernel
theorem dX8_farthestInBlack_51 : decode cX8_farthestInBlack 51 = .ok (.iload_n 2, 1) := by decide +kernel
theorem dX8_farthestInBlack_52 : decode cX8_farthestInBlack 52 = .ok (.ireturn, 1) := by decide +kernel
theorem dX8_everyShelter_0 : decode cX8_everyShelter 0 = .ok (.iconst 1, 1) := by decide +kernel
theorem dX8_everyShelter_1 : decode cX8_everyShelter 1 = .ok (.aload_n 0, 1) := by decide +kernel
theorem dX8_everyShelter_2 : decode cX8_everyShelter 2 = .ok (.getfield 37, 3) := by decide +kernel
theorem dX8_everyShelter_5 : decode cX8_everyShelter 5 = .ok (.ishl, 1) := by decide +kernel
theorem dX8_everyShelter_6 : decode cX8_everyShelter 6 = .ok (.iconst 1, 1) := by decide +kernel
theorem dX8_everyShelter_7 : decode cX8_everyShelter 7 = .ok (.isub, 1) := by decide +kernel
theorem dX8_everyShelter_8 : decode cX8_everyShelter 8 = .ok (.ireturn, 1) := by decide +kernel
theorem dX8_farOf_0 : decode cX8_farOf 0 = .ok (.iconst (-1), 1) := by decide +kernel
theorem dX8_farOf_1 : decode cX8_farOf 1 = .ok (.istore_n 3, 1) := by decide +kernel
theorem dX8_farOf_2 : decode cX8_farOf 2 = .ok (.iconst 0, 1) := by decide +kernel
theorem dX8_farOf_3 : decode cX8_farOf 3 = .ok (.istore 4, 2) := by decide +kernel
theorem dX8_farOf_5 : decode cX8_farOf 5 = .ok (.iload 4, 2) := by decide +kernel
theorem dX8_farOf_7 : decode cX8_farOf 7 = .ok (.aload_n 0, 1) := by decide +kernel
theorem dX8_farOf_8 : decode cX8_farOf 8 = .ok (.getfield 37, 3) := by decide +kernel
theorem dX8_farOf_11 : decode cX8_farOf 11 = .ok (.if_icmp .ge 52, 3) := by decide +kernel
theorem dX8_farOf_14 : decode cX8_farOf 14 = .ok (.aload_n 0, 1) := by decide +kernel
theorem dX8_farOf_15 : decode cX8_farOf 15 = .ok (.aload_n 0, 1) := by decide +kernel
theorem dX8_farOf_16 : decode cX8_farOf 16 = .ok (.getfield 43, 3) := by decide +kernel
theorem dX8_farOf_19 : decode cX8_farOf 19 = .ok (.iload_n 1, 1) := by decide +kernel
theorem dX8_farOf_20 : decode cX8_farOf 20 = .ok (.iaload, 1) := by decide +kernel
theorem dX8_farOf_21 : decode cX8_farOf 21 = .ok (.aload_n 0, 1) := by decide +kernel
theorem dX8_farOf_22 : decode cX8_farOf 22 = .ok (.getfield 62, 3) := by decide +kernel
theorem dX8_farOf_25 : decode cX8_farOf 25 = .ok (.iload 4, 2) := by decide +kernel
theorem dX8_farOf_27 : decode cX8_farOf 27 = .ok (.iaload, 1) := by decide +kernel
theorem dX8_farOf_28 : decode cX8_farOf 28 = .ok (.invokevirtual 91, 3) := by decide +kernel
theorem dX8_farOf_31 : decode cX8_farOf 31 = .ok (.istore 5, 2) := by decide +kernel
theorem dX8_farOf_33 : decode cX8_farOf 33 = .ok (.iload_n 2, 1) := by decide +kernel
theorem dX8_farOf_34 : decode cX8_farOf 34 = .ok (.iload 4, 2) := by decide +kernel
theorem dX8_farOf_36 : decode cX8_farOf 36 = .ok (.ishr, 1) := by decide +kernel
theorem dX8_farOf_37 : decode cX8_farOf 37 = .ok (.iconst 1, 1) := by decide +kernel
theorem dX8_farOf_38 : decode cX8_farOf 38 = .ok (.iand, 1) := by decide +kernel
theorem dX8_farOf_39 : decode cX8_farOf 39 = .ok (.iconst 1, 1) := by decide +kernel
theorem dX8_farOf_40 : decode cX8_farOf 40 = .ok (.if_icmp .ne 17, 3) := by decide +kernel
theorem dX8_farOf_43 : decode cX8_farOf 43 = .ok (.iload_n 3, 1) := by decide +kernel
theorem dX8_farOf_44 : decode cX8_farOf 44 = .ok (.iconst (-1), 1) := by decide +kernel
theorem dX8_farOf_45 : decode cX8_farOf 45 = .ok (.if_icmp .eq 9, 3) := by decide +kernel
theorem dX8_farOf_48 : decode cX8_farOf 48 = .ok (.iload 5, 2) := by decide +kernel
theorem dX8_farOf_50 : decode cX8_farOf 50 = .ok (.iload_n 3, 1) := by decide +kernel
theorem dX8_farOf_51 : decode cX8_farOf 51 = .ok (.if_icmp .ge 6, 3) := by decide +kernel
theorem dX8_farOf_54 : decode cX8_farOf 54 = .ok (.iload 5, 2) := by decide +kernel
theorem dX8_farOf_56 : decode cX8_farOf 56 = .ok (.istore_n 3, 1) := by decide +kernel
theorem dX8_farOf_57 : decode cX8_farOf 57 = .ok (.iinc 4 1, 3) := by decide +kernel
theorem dX8_farOf_60 : decode cX8_farOf 60 = .ok (.goto (-55), 3) := by decide +kernel
theorem dX8_farOf_63 : decode cX8_farOf 63 = .ok (.iload_n 3, 1) := by decide +kernel
theorem dX8_farOf_64 : decode cX8_farOf 64 = .ok (.ireturn, 1) := by decide +kernel
theorem dX8_greatestFar_0 : decode cX8_greatestFar 0 = .ok (.iconst (-1), 1) := by decide +kernel
theorem dX8_greatestFar_1 : decode cX8_greatestFar 1 = .ok (.istore_n 1, 1) := by decide +kernel
theorem dX8_greatestFar_2 : decode cX8_greatestFar 2 = .ok (.iconst 0, 1) := by decide +kernel
theorem dX8_greatestFar_3 : decode cX8_greatestFar 3 = .ok (.istore_n 2, 1) := by decide +kernel
theorem dX8_greatestFar_4 : decode cX8_greatestFar 4 = .ok (.iload_n 2, 1) := by decide +kernel
theorem dX8_greatestFar_5 : decode cX8_greatestFar 5 = .ok (.aload_n 0, 1) := by decide +kernel
theorem dX8_greatestFar_6 : decode cX8_greatestFar 6 = .ok (.getfield 34, 3) := by decide +kernel
theorem dX8_greatestFar_9 : decode cX8_greatestFar 9 = .ok (.if_icmp .ge 23, 3) := by decide +kernel
theorem dX8_greatestFar_12 : decode cX8_greatestFar 12 = .ok (.iload_n 1, 1) := by decide +kernel
theorem dX8_greatestFar_13 : decode cX8_greatestFar 13 = .ok (.aload_n 0, 1) := by decide +kernel
theorem dX8_greatestFar_14 : decode cX8_greatestFar 14 = .ok (.iload_n 2, 1) := by decide +kernel
theorem dX8_greatestFar_15 : decode cX8_greatestFar 15 = .ok (.aload_n 0, 1) := by decide +kernel
theorem dX8_greatestFar_16 : decode cX8_greatestFar 16 = .ok (.invokevirtual 128, 3) := by decide +kernel
theorem dX8_greatestFar_19 : decode cX8_greatestFar 19 = .ok (.invokevirtual 131, 3) := by decide +kernel
theorem dX8_greatestFar_22 : decode cX8_greatestFar 22 = .ok (.invokestatic 125, 3) := by decide +kernel
theorem dX8_greatestFar_25 : decode cX8_greatestFar 25 = .ok (.istore_n 1, 1) := by decide +kernel
theorem dX8_greatestFar_26 : decode cX8_greatestFar 26 = .ok (.iinc 2 1, 3) := by decide +kernel
theorem dX8_greatestFar_29 : decode cX8_greatestFar 29 = .ok (.goto (-25), 3) := by decide +kernel
theorem dX8_greatestFar_32 : decode cX8_greatestFar 32 = .ok (.iload_n 1, 1) := by decide +kernel
theorem dX8_greatestFar_33 : decode cX8_greatestFar 33 = .ok (.ireturn, 1) := by decide +kernel
theorem dX8_nobodyIsFarther_0 : decode cX8_nobodyIsFarther 0 = .ok (.iconst 0, 1) := by decide +kernel
theorem dX8_nobodyIsFarther_1 : decode cX8_nobodyIsFarther 1 = .ok (.istore_n 3, 1) := by decide +kernel
theorem dX8_nobodyIsFarther_2 : decode cX8_nobodyIsFarther 2 = .ok (.iload_n 3, 1) := by decide +kernel
theorem dX8_nobodyIsFarther_3 : decode cX8_nobodyIsFarther 3 = .ok (.aload_n 0, 1) := by decide +kernel
theorem dX8_nobodyIsFarther_4 : decode cX8_nobodyIsFarther 4 = .ok (.getfield 34, 3) := by decide +kernel
theorem dX8_nobodyIsFarther_7 : decode cX8_nobodyIsFarther 7 = .ok (.if_icmp .ge 31, 3) := by decide +kernel
theorem dX8_nobodyIsFarther_10 : decode cX8_nobodyIsFarther 10 = .ok (.aload_n 0, 1) := by decide +kernel
theorem dX8_nobodyIsFarther_11 : decode cX8_nobodyIsFarther 11 = .ok (.iload_n 3, 1) := by decide +kernel
theorem dX8_nobodyIsFarther_12 : decode cX8_nobodyIsFarther 12 = .ok (.iload_n 2, 1) := by decide +kernel
theorem dX8_nobodyIsFarther_13 : decode cX8_nobodyIsFarther 13 = .ok (.invokevirtual 131, 3) := by decide +kernel
theorem dX8_nobodyIsFarther_16 : decode cX8_nobodyIsFarther 16 = .ok (.istore 4, 2) := by decide +kernel
theorem dX8_nobodyIsFarther_18 : decode cX8_nobodyIsFarther 18 = .ok (.iload 4, 2) := by decide +kernel
theorem dX8_nobodyIsFarther_20 : decode cX8_nobodyIsFarther 20 = .ok (.iconst (-1), 1) := by decide +kernel
theorem dX8_nobodyIsFarther_21 : decode cX8_nobodyIsFarther 21 = .ok (.if_icmp .eq 9, 3) := by decide +kernel
theorem dX8_nobodyIsFarther_24 : decode cX8_nobodyIsFarther 24 = .ok (.iload 4, 2) := by decide +kernel
theorem dX8_nobodyIsFarther_26 : decode cX8_nobodyIsFarther 26 = .ok (.iload_n 1, 1) := by decide +kernel
theorem dX8_nobodyIsFarther_27 : decode cX8_nobodyIsFarther 27 = .ok (.if_icmp .le 5, 3) := by decide +kernel
theorem dX8_nobodyIsFarther_30 : decode cX8_nobodyIsFarther 30 = .ok (.iconst 0, 1) := by decide +kernel
theorem dX8_nobodyIsFarther_31 : decode cX8_nobodyIsFarther 31 = .ok (.ireturn, 1) := by decide +kernel
theorem dX8_nobodyIsFarther_32 : decode cX8_nobodyIsFarther 32 = .ok (.iinc 3 1, 3) := by decide +kernel
theorem dX8_nobodyIsFarther_35 : decode cX8_nobodyIsFarther 35 = .ok (.goto (-33), 3) := by decide +kernel
theorem dX8_nobodyIsFarther_38 : decode cX8_nobodyIsFarther 38 = .ok (.iconst 1, 1) := by decide +kernel
theorem dX8_nobodyIsFarther_39 : decode cX8_nobodyIsFarther 39 = .ok (.ireturn, 1) := by decide +kernel
theorem dX8_worthOf_0 : decode cX8_worthOf 0 = .ok (.iload_n 2, 1) := by decide +kernel
theorem dX8_worthOf_1 : decode cX8_worthOf 1 = .ok (.ifCond .ne 24, 3) := by decide +kernel
theorem dX8_worthOf_4 : decode cX8_worthOf 4 = .ok (.iload_n 3, 1) := by decide +kernel
theorem dX8_worthOf_5 : decode cX8_worthOf 5 = .ok (.ifCond .ne 7, 3) := by decide +kernel
theorem dX8_worthOf_8 : decode cX8_worthOf 8 = .ok (.iconst 2, 1) := by decide +kernel
theorem dX8_worthOf_9 : decode cX8_worthOf 9 = .ok (.goto 15, 3) := by decide +kernel
theorem dX8_worthOf_12 : decode cX8_worthOf 12 = .ok (.aload_n 0, 1) := by decide +kernel
theorem dX8_worthOf_13 : decode cX8_worthOf 13 = .ok (.getfield 53, 3) := by decide +kernel
theorem dX8_worthOf_16 : decode cX8_worthOf 16 = .ok (.iload_n 1, 1) := by decide +kernel
theorem dX8_worthOf_17 : decode cX8_worthOf 17 = .ok (.iaload, 1) := by decide +kernel
theorem dX8_worthOf_18 : decode cX8_worthOf 18 = .ok (.bipush 10, 2) := by decide +kernel
theorem dX8_worthOf_20 : decode cX8_worthOf 20 = .ok (.idiv, 1) := by decide +kernel
theorem dX8_worthOf_21 : decode cX8_worthOf 21 = .ok (.ineg, 1) := by decide +kernel
theorem dX8_worthOf_22 : decode cX8_worthOf 22 = .ok (.iconst 1, 1) := by decide +kernel
theorem dX8_worthOf_23 : decode cX8_worthOf 23 = .ok (.isub, 1) := by decide +kernel
theorem dX8_worthOf_24 : decode cX8_worthOf 24 = .ok (.ireturn, 1) := by decide +kernel
theorem dX8_worthOf_25 : decode cX8_worthOf 25 = .ok (.iload_n 3, 1) := by decide +kernel
theorem dX8_worthOf_26 : decode cX8_worthOf 26 = .ok (.ifCond .ne 5, 3) := by decide +kernel
theorem dX8_worthOf_29 : decode cX8_worthOf 29 = .ok (.iconst 1, 1) := by decide +kernel
theorem dX8_worthOf_30 : decode cX8_worthOf 30 = .ok (.ireturn, 1) := by decide +kernel
theorem dX8_worthOf_31 : decode cX8_worthOf 31 = .ok (.aload_n 0, 1) := by decide +kernel
theorem dX8_worthOf_32 : decode cX8_worthOf 32 = .ok (.getfield 40, 3) := by decide +kernel
theorem dX8_worthOf_35 : decode cX8_worthOf 35 = .ok (.iload_n 1, 1) := by decide +kernel
theorem dX8_worthOf_36 : decode cX8_worthOf 36 = .ok (.ishr, 1) := by decide +kernel
theorem dX8_worthOf_37 : decode cX8_worthOf 37 = .ok (.iconst 1, 1) := by decide +kernel
theorem dX8_worthOf_38 : decode cX8_worthOf 38 = .ok (.iand, 1) := by decide +kernel
theorem dX8_worthOf_39 : decode cX8_worthOf 39 = .ok (.iconst 1, 1) := by decide +kernel
theorem dX8_worthOf_40 : decode cX8_worthOf 40 = .ok (.if_icmp .ne 7, 3) := by decide +kernel
theorem dX8_worthOf_43 : decode cX8_worthOf 43 = .ok (.iconst 0, 1) := by decide +kernel
theorem dX8_worthOf_44 : decode cX8_worthOf 44 = .ok (.goto 4, 3) := by decide +kernel
theorem dX8_worthOf_47 : decode cX8_worthOf 47 = .ok (.iconst (-1), 1) := by decide +kernel
theorem dX8_worthOf_48 : decode cX8_worthOf 48 = .ok (.ireturn, 1) := by decide +kernel
theorem dX9_init_0 : decode cX9_init 0 = .ok (.aload_n 0, 1) := by decide +kernel
theorem dX9_init_1 : decode cX9_init 1 = .ok (.invokespecial 3, 3) := by decide +kernel
theorem dX9_init_4 : decode cX9_init 4 = .ok (.aload_n 0, 1) := by decide +kernel
theorem dX9_init_5 : decode cX9_init 5 = .ok (.sipush 2048, 3) := by decide +kernel
theorem dX9_init_8 : decode cX9_init 8 = .ok (.newarray .int, 2) := by decide +kernel
theorem dX9_init_10 : decode cX9_init 10 = .ok (.putfield 11, 3) := by decide +kernel
theorem dX9_init_13 : decode cX9_init 13 = .ok (.aload_n 0, 1) := by decide +kernel
theorem dX9_init_14 : decode cX9_init 14 = .ok (.bipush 7, 2) := by decide +kernel
theorem dX9_init_16 : decode cX9_init 16 = .ok (.newarray .int, 2) := by decide +kernel
theorem dX9_init_18 : decode cX9_init 18 = .ok (.putfield 15, 3) := by decide +kernel
theorem dX9_init_21 : decode cX9_init 21 = .ok (.aload_n 0, 1) := by decide +kernel
theorem dX9_init_22 : decode cX9_init 22 = .ok (.iconst 0, 1) := by decide +kernel
theorem dX9_init_23 : decode cX9_init 23 = .ok (.putfield 18, 3) := by decide +kernel
theorem dX9_init_26 : decode cX9_init 26 = .ok (.return_, 1) := by decide +kernel
theorem dX9_seat_0 : decode cX9_seat 0 = .ok (.iconst 0, 1) := by decide +kernel
theorem dX9_seat_1 : decode cX9_seat 1 = .ok (.istore_n 2, 1) := by decide +kernel
theorem dX9_seat_2 : decode cX9_seat 2 = .ok (.iconst 0, 1) := by decide +kernel
theorem dX9_seat_3 : decode cX9_seat 3 = .ok (.istore_n 3, 1) := by decide +kernel
theorem dX9_seat_4 : decode cX9_seat 4 = .ok (.iload_n 3, 1) := by decide +kernel
theorem dX9_seat_5 : decode cX9_seat 5 = .ok (.aload_n 1, 1) := by decide +kernel
theorem dX9_seat_6 : decode cX9_seat 6 = .ok (.getfield 22, 3) := by decide +kernel
theorem dX9_seat_9 : decode cX9_seat 9 = .ok (.if_icmp .ge 22, 3) := by decide +kernel
theorem dX9_seat_12 : decode cX9_seat 12 = .ok (.iload_n 2, 1) := by decide +kernel
theorem dX9_seat_13 : decode cX9_seat 13 = .ok (.aload_n 1, 1) := by decide +kernel
theorem dX9_seat_14 : decode cX9_seat 14 = .ok (.getfield 27, 3) := by decide +kernel
theorem dX9_seat_17 : decode cX9_seat 17 = .ok (.iload_n 3, 1) := by decide +kernel
theorem dX9_seat_18 : decode cX9_seat 18 = .ok (.iaload, 1) := by decide +kernel
theorem dX9_seat_19 : decode cX9_seat 19 = .ok (.iconst 2, 1) := by decide +kernel
theorem dX9_seat_20 : decode cX9_seat 20 = .ok (.iload_n 3, 1) := by decide +kernel
theorem dX9_seat_21 : decode cX9_seat 21 = .ok (.imul, 1) := by decide +kernel
theorem dX9_seat_22 : decode cX9_seat 22 = .ok (.ishl, 1) := by decide +kernel
theorem dX9_seat_23 : decode cX9_seat 23 = .ok (.ior, 1) := by decide +kernel
theorem dX9_seat_24 : decode cX9_seat 24 = .ok (.istore_n 2, 1) := by decide +kernel
theorem dX9_seat_25 : decode cX9_seat 25 = .ok (.iinc 3 1, 3) := by decide +kernel
theorem dX9_seat_28 : decode cX9_seat 28 = .ok (.goto (-24), 3) := by decide +kernel
theorem dX9_seat_31 : decode cX9_seat 31 = .ok (.aload_n 0, 1) := by decide +kernel
theorem dX9_seat_32 : decode cX9_seat 32 = .ok (.getfield 11, 3) := by decide +kernel
theorem dX9_seat_35 : decode cX9_seat 35 = .ok (.iconst 0, 1) := by decide +kernel
theorem dX9_seat_36 : decode cX9_seat 36 = .ok (.invokestatic 30, 3) := by decide +kernel
theorem dX9_seat_39 : decode cX9_seat 39 = .ok (.aload_n 1, 1) := by decide +kernel
theorem dX9_seat_40 : decode cX9_seat 40 = .ok (.getfield 36, 3) := by decide +kernel
theorem dX9_seat_43 : decode cX9_seat 43 = .ok (.iconst 1, 1) := by decide +kernel
theorem dX9_seat_44 : decode cX9_seat 44 = .ok (.isub, 1) := by decide +kernel
theorem dX9_seat_45 : decode cX9_seat 45 = .ok (.istore_n 3, 1) := by decide +kernel
theorem dX9_seat_46 : decode cX9_seat 46 = .ok (.iload_n 3, 1) := by decide +kernel
theorem dX9_seat_47 : decode cX9_seat 47 = .ok (.ifCond .lt 45, 3) := by decide +kernel
theorem dX9_seat_50 : decode cX9_seat 50 = .ok (.iconst 0, 1) := by decide +kernel
theorem dX9_seat_51 : decode cX9_seat 51 = .ok (.istore 4, 2) := by decide +kernel
theorem dX9_seat_53 : decode cX9_seat 53 = .ok (.iload 4, 2) := by decide +kernel
theorem dX9_seat_55 : decode cX9_seat 55 = .ok (.iload_n 2, 1) := by decide +kernel
theorem dX9_seat_56 : decode cX9_seat 56 = .ok (.if_icmp .gt 30, 3) := by decide +kernel
theorem dX9_seat_59 : decode cX9_seat 59 = .ok (.aload_n 0, 1) := by decide +kernel
theorem dX9_seat_60 : decode cX9_seat 60 = .ok (.getfield 11, 3) := by decide +kernel
theorem dX9_seat_63 : decode cX9_seat 63 = .ok (.iload_n 3, 1) := by decide +kernel
theorem dX9_seat_64 : decode cX9_seat 64 = .ok (.sipush 256, 3) := by decide +kernel
theorem dX9_seat_67 : decode cX9_seat 67 = .ok (.imul, 1) := by decide +kernel
theorem dX9_seat_68 : decode cX9_seat 68 = .ok (.iload 4, 2) := by decide +kernel
theorem dX9_seat_70 : decode cX9_seat 70 = .ok (.iadd, 1) := by decide +kernel
theorem dX9_seat_71 : decode cX9_seat 71 = .ok (.aload_n 0, 1) := by decide +kernel
theorem dX9_seat_72 : decode cX9_seat 72 = .ok (.aload_n 1, 1) := by decide +kernel
theorem dX9_seat_73 : decode cX9_seat 73 = .ok (.iload_n 3, 1) := by decide +kernel
theorem dX9_seat_74 : decode cX9_seat 74 = .ok (.iload 4, 2) := by decide +kernel
theorem dX9_seat_76 : decode cX9_seat 76 = .ok (.invokevirtual 39, 3) := by decide +kernel
theorem dX9_seat_79 : decode cX9_seat 79 = .ok (.iastore, 1) := by decide +kernel
theorem dX9_seat_80 : decode cX9_seat 80 = .ok (.iinc 4 1, 3) := by decide +kernel
theorem dX9_seat_83 : decode cX9_seat 83 = .ok (.goto (-30), 3) := by decide +kernel
theorem dX9_seat_86 : decode cX9_seat 86 = .ok (.iinc 3 (-1), 3) := by decide +kernel
theorem dX9_seat_89 : decode cX9_seat 89 = .ok (.goto (-43), 3) := by decide +kernel
theorem dX9_seat_92 : decode cX9_seat 92 = .ok (.aload_n 0, 1) := by decide +kernel
theorem dX9_seat_93 : decode cX9_seat 93 = .ok (.iconst 0, 1) := by decide +kernel
theorem dX9_seat_94 : decode cX9_seat 94 = .ok (.putfield 18, 3) := by decide +kernel
theorem dX9_seat_97 : decode cX9_seat 97 = .ok (.iconst 0, 1) := by decide +kernel
theorem dX9_seat_98 : decode cX9_seat 98 = .ok (.istore_n 3, 1) := by decide +kernel
theorem dX9_seat_99 : decode cX9_seat 99 = .ok (.iload_n 3, 1) := by decide +kernel
theorem dX9_seat_100 : decode cX9_seat 100 = .ok (.aload_n 1, 1) := by decide +kernel
theorem dX9_seat_101 : decode cX9_seat 101 = .ok (.getfield 36, 3) := by decide +kernel
theorem dX9_seat_104 : decode cX9_seat 104 = .ok (.if_icmp .ge 51, 3) := by decide +kernel
theorem dX9_seat_107 : decode cX9_seat 107 = .ok (.aload_n 0, 1) := by decide +kernel
theorem dX9_seat_108 : decode cX9_seat 108 = .ok (.aload_n 1, 1) := by decide +kernel
theorem dX9_seat_109 : decode cX9_seat 109 = .ok (.iload_n 3, 1) := by decide +kernel
theorem dX9_seat_110 : decode cX9_seat 110 = .ok (.iload_n 2, 1) := by decide +kernel
theorem dX9_seat_111 : decode cX9_seat 111 = .ok (.invokevirtual 43, 3) := by decide +kernel
theorem dX9_seat_114 : decode cX9_seat 114 = .ok (.istore 4, 2) := by decide +kernel
theorem dX9_seat_116 : decode cX9_seat 116 = .ok (.aload_n 0, 1) := by decide +kernel
theorem dX9_seat_117 : decode cX9_seat 117 = .ok (.getfield 15, 3) := by decide +kernel
theorem dX9_seat_120 : decode cX9_seat 120 = .ok (.iload_n 3, 1) := by decide +kernel
theorem dX9_seat_121 : decode cX9_seat 121 = .ok (.iload 4, 2) := by decide +kernel
theorem dX9_seat_123 : decode cX9_seat 123 = .ok (.iastore, 1) := by decide +kernel
theorem dX9_seat_124 : decode cX9_seat 124 = .ok (.iload 4, 2) := by decide +kernel
theorem dX9_seat_126 : decode cX9_seat 126 = .ok (.iconst (-1), 1) := by decide +kernel
theorem dX9_seat_127 : decode cX9_seat 127 = .ok (.if_icmp .eq 22, 3) := by decide +kernel
theorem dX9_seat_130 : decode cX9_seat 130 = .ok (.iload_n 2, 1) := by decide +kernel
theorem dX9_seat_131 : decode cX9_seat 131 = .ok (.iconst 1, 1) := by decide +kernel
theorem dX9_seat_132 : decode cX9_seat 132 = .ok (.iconst 2, 1) := by decide +kernel
theorem dX9_seat_133 : decode cX9_seat 133 = .ok (.iload 4, 2) := by decide +kernel
theorem dX9_seat_135 : decode cX9_seat 135 = .ok (.imul, 1) := by decide +kernel
theorem dX9_seat_136 : decode cX9_seat 136 = .ok (.ishl, 1) := by decide +kernel
theorem dX9_seat_137 : decode cX9_seat 137 = .ok (.isub, 1) := by decide +kernel
theorem dX9_seat_138 : decode cX9_seat 138 = .ok (.istore_n 2, 1) := by decide +kernel
theorem dX9_seat_139 : decode cX9_seat 139 = .ok (.aload_n 0, 1) := by decide +kernel
theorem dX9_seat_140 : decode cX9_seat 140 = .ok (.dup, 1) := by decide +kernel
theorem dX9_seat_141 : decode cX9_seat 141 = .ok (.getfield 18, 3) := by decide +kernel
theorem dX9_seat_144 : decode cX9_seat 144 = .ok (.iconst 1, 1) := by decide +kernel
theorem dX9_seat_145 : decode cX9_seat 145 = .ok (.iadd, 1) := by decide +kernel
theorem dX9_seat_146 : decode cX9_seat 146 = .ok (.putfield 18, 3) := by decide +kernel
theorem dX9_seat_149 : decode cX9_seat 149 = .ok (.iinc 3 1, 3) := by decide +kernel
theorem dX9_seat_152 : decode cX9_seat 152 = .ok (.goto (-53), 3) := by decide +kernel
theorem dX9_seat_155 : decode cX9_seat 155 = .ok (.return_, 1) := by decide +kernel
theorem dX9_bestOf_0 : decode cX9_bestOf 0 = .ok (.aload_n 0, 1) := by decide +kernel
theorem dX9_bestOf_1 : decode cX9_bestOf 1 = .ok (.getfield 11, 3) := by decide +kernel
theorem dX9_bestOf_4 : decode cX9_bestOf 4 = .ok (.iload_n 2, 1) := by decide +kernel
theorem dX9_bestOf_5 : decode cX9_bestOf 5 = .ok (.iconst 1, 1) := by decide +kernel
theorem dX9_bestOf_6 : decode cX9_bestOf 6 = .ok (.iadd, 1) := by decide +kernel
theorem dX9_bestOf_7 : decode cX9_bestOf 7 = .ok (.sipush 256, 3) := by decide +kernel
theorem dX9_bestOf_10 : decode cX9_bestOf 10 = .ok (.imul, 1) := by decide +kernel
theorem dX9_bestOf_11 : decode cX9_bestOf 11 = .ok (.iload_n 3, 1) := by decide +kernel
theorem dX9_bestOf_12 : decode cX9_bestOf 12 = .ok (.iadd, 1) := by decide +kernel
theorem dX9_bestOf_13 : decode cX9_bestOf 13 = .ok (.iaload, 1) := by decide +kernel
theorem dX9_bestOf_14 : decode cX9_bestOf 14 = .ok (.istore 4, 2) := by decide +kernel
theorem dX9_bestOf_16 : decode cX9_bestOf 16 = .ok (.iconst 0, 1) := by decide +kernel
theorem dX9_bestOf_17 : decode cX9_bestOf 17 = .ok (.istore 5, 2) := by decide +kernel
theorem dX9_bestOf_19 : decode cX9_bestOf 19 = .ok (.iload 5, 2) := by decide +kernel
theorem dX9_bestOf_21 : decode cX9_bestOf 21 = .ok (.aload_n 1, 1) := by decide +kernel
theorem dX9_bestOf_22 : decode cX9_bestOf 22 = .ok (.getfield 22, 3) := by decide +kernel
theorem dX9_bestOf_25 : decode cX9_bestOf 25 = .ok (.if_icmp .ge 25, 3) := by decide +kernel
theorem dX9_bestOf_28 : decode cX9_bestOf 28 = .ok (.iload 4, 2) := by decide +kernel
theorem dX9_bestOf_30 : decode cX9_bestOf 30 = .ok (.aload_n 0, 1) := by decide +kernel
theorem dX9_bestOf_31 : decode cX9_bestOf 31 = .ok (.aload_n 1, 1) := by decide +kernel
theorem dX9_bestOf_32 : decode cX9_bestOf 32 = .ok (.iload_n 2, 1) := by decide +kernel
theorem dX9_bestOf_33 : decode cX9_bestOf 33 = .ok (.iload 5, 2) := by decide +kernel
theorem dX9_bestOf_35 : decode cX9_bestOf 35 = .ok (.iload_n 3, 1) := by decide +kernel
theorem dX9_bestOf_36 : decode cX9_bestOf 36 = .ok (.invokevirtual 46, 3) := by decide +kernel
theorem dX9_bestOf_39 : decode cX9_bestOf 39 = .ok (.invokestatic 50, 3) := by decide +kernel
theorem dX9_bestOf_42 : decode cX9_bestOf 42 = .ok (.istore 4, 2) := by decide +kernel
theorem dX9_bestOf_44 : decode cX9_bestOf 44 = .ok (.iinc 5 1, 3) := by decide +kernel
theorem dX9_bestOf_47 : decode cX9_bestOf 47 = .ok (.goto (-28), 3) := by decide +kernel
theorem dX9_bestOf_50 : decode cX9_bestOf 50 = .ok (.iload 4, 2) := by decide +kernel
theorem dX9_bestOf_52 : decode cX9_bestOf 52 = .ok (.ireturn, 1) := by decide +kernel
theorem dX9_firstBest_0 : decode cX9_firstBest 0 = .ok (.iconst 0, 1) := by decide +kernel
theorem dX9_firstBest_1 : decode cX9_firstBest 1 = .ok (.istore 4, 2) := by decide +kernel
theorem dX9_firstBest_3 : decode cX9_firstBest 3 = .ok (.iload 4, 2) := by decide +kernel
theorem dX9_firstBest_5 : decode cX9_firstBest 5 = .ok (.aload_n 1, 1) := by decide +kernel
theorem dX9_firstBest_6 : decode cX9_firstBest 6 = .ok (.getfield 22, 3) := by decide +kernel
theorem dX9_firstBest_9 : decode cX9_firstBest 9 = .ok (.if_icmp .ge 36, 3) := by decide +kernel
theorem dX9_firstBest_12 : decode cX9_firstBest 12 = .ok (.aload_n 0, 1) := by decide +kernel
theorem dX9_firstBest_13 : decode cX9_firstBest 13 = .ok (.aload_n 1, 1) := by decide +kernel
theorem dX9_firstBest_14 : decode cX9_firstBest 14 = .ok (.iload_n 2, 1) := by decide +kernel
theorem dX9_firstBest_15 : decode cX9_firstBest 15 = .ok (.iload 4, 2) := by decide +kernel
theorem dX9_firstBest_17 : decode cX9_firstBest 17 = .ok (.iload_n 3, 1) := by decide +kernel
theorem dX9_firstBest_18 : decode cX9_firstBest 18 = .ok (.invokevirtual 46, 3) := by decide +kernel
theorem dX9_firstBest_21 : decode cX9_firstBest 21 = .ok (.aload_n 0, 1) := by decide +kernel
theorem dX9_firstBest_22 : decode cX9_firstBest 22 = .ok (.getfield 11, 3) := by decide +kernel
theorem dX9_firstBest_25 : decode cX9_firstBest 25 = .ok (.iload_n 2, 1) := by decide +kernel
theorem dX9_firstBest_26 : decode cX9_firstBest 26 = .ok (.sipush 256, 3) := by decide +kernel
theorem dX9_firstBest_29 : decode cX9_firstBest 29 = .ok (.imul, 1) := by decide +kernel
theorem dX9_firstBest_30 : decode cX9_firstBest 30 = .ok (.iload_n 3, 1) := by decide +kernel
theorem dX9_firstBest_31 : decode cX9_firstBest 31 = .ok (.iadd, 1) := by decide +kernel
theorem dX9_firstBest_32 : decode cX9_firstBest 32 = .ok (.iaload, 1) := by decide +kernel
theorem dX9_firstBest_33 : decode cX9_firstBest 33 = .ok (.if_icmp .ne 6, 3) := by decide +kernel
theorem dX9_firstBest_36 : decode cX9_firstBest 36 = .ok (.iload 4, 2) := by decide +kernel
theorem dX9_firstBest_38 : decode cX9_firstBest 38 = .ok (.ireturn, 1) := by decide +kernel
theorem dX9_firstBest_39 : decode cX9_firstBest 39 = .ok (.iinc 4 1, 3) := by decide +kernel
theorem dX9_firstBest_42 : decode cX9_firstBest 42 = .ok (.goto (-39), 3) := by decide +kernel
theorem dX9_firstBest_45 : decode cX9_firstBest 45 = .ok (.iconst (-1), 1) := by decide +kernel
theorem dX9_firstBest_46 : decode cX9_firstBest 46 = .ok (.ireturn, 1) := by decide +kernel
theorem dX9_worthIn_0 : decode cX9_worthIn 0 = .ok (.iload 4, 2) := by decide +kernel
theorem dX9_worthIn_2 : decode cX9_worthIn 2 = .ok (.iconst 2, 1) := by decide +kernel
theorem dX9_worthIn_3 : decode cX9_worthIn 3 = .ok (.iload_n 3, 1) := by decide +kernel
theorem dX9_worthIn_4 : decode cX9_worthIn 4 = .ok (.imul, 1) := by decide +kernel
theorem dX9_worthIn_5 : decode cX9_worthIn 5 = .ok (.ishr, 1) := by decide +kernel
theorem dX9_worthIn_6 : decode cX9_worthIn 6 = .ok (.iconst 3, 1) := by decide +kernel
theorem dX9_worthIn_7 : decode cX9_worthIn 7 = .ok (.iand, 1) := by decide +kernel
theorem dX9_worthIn_8 : decode cX9_worthIn 8 = .ok (.ifCond .ne 5, 3) := by decide +kernel
theorem dX9_worthIn_11 : decode cX9_worthIn 11 = .ok (.iconst (-1), 1) := by decide +kernel
theorem dX9_worthIn_12 : decode cX9_worthIn 12 = .ok (.ireturn, 1) := by decide +kernel
theorem dX9_worthIn_13 : decode cX9_worthIn 13 = .ok (.aload_n 1, 1) := by decide +kernel
theorem dX9_worthIn_14 : decode cX9_worthIn 14 = .ok (.aload_n 1, 1) := by decide +kernel
theorem dX9_worthIn_15 : decode cX9_worthIn 15 = .ok (.getfield 56, 3) := by decide +kernel
theorem dX9_worthIn_18 : decode cX9_worthIn 18 = .ok (.iload_n 2, 1) := by decide +kernel
theorem dX9_worthIn_19 : decode cX9_worthIn 19 = .ok (.iaload, 1) := by decide +kernel
theorem dX9_worthIn_20 : decode cX9_worthIn 20 = .ok (.aload_n 1, 1) := by decide +kernel
theorem dX9_worthIn_21 : decode cX9_worthIn 21 = .ok (.getfield 59, 3) := by decide +kernel
theorem dX9_worthIn_24 : decode cX9_worthIn 24 = .ok (.iload_n 3, 1) := by decide +kernel
theorem dX9_worthIn_25 : decode cX9_worthIn 25 = .ok (.iaload, 1) := by decide +kernel
theorem dX9_worthIn_26 : decode cX9_worthIn 26 = .ok (.invokevirtual 62, 3) := by decide +kernel
theorem dX9_worthIn_29 : decode cX9_worthIn 29 = .ok (.istore 5, 2) := by decide +kernel
theorem dX9_worthIn_31 : decode cX9_worthIn 31 = .ok (.sipush 10000, 3) := by decide +kernel
theorem dX9_worthIn_34 : decode cX9_worthIn 34 = .ok (.iload 5, 2) := by decide +kernel
theorem dX9_worthIn_36 : decode cX9_worthIn 36 = .ok (.isub, 1) := by decide +kernel
theorem dX9_worthIn_37 : decode cX9_worthIn 37 = .ok (.aload_n 0, 1) := by decide +kernel
theorem dX9_worthIn_38 : decode cX9_worthIn 38 = .ok (.getfield 11, 3) := by decide +kernel
theorem dX9_worthIn_41 : decode cX9_worthIn 41 = .ok (.iload_n 2, 1) := by decide +kernel
theorem dX9_worthIn_42 : decode cX9_worthIn 42 = .ok (.iconst 1, 1) := by decide +kernel
theorem dX9_worthIn_43 : decode cX9_worthIn 43 = .ok (.iadd, 1) := by decide +kernel
theorem dX9_worthIn_44 : decode cX9_worthIn 44 = .ok (.sipush 256, 3) := by decide +kernel
theorem dX9_worthIn_47 : decode cX9_worthIn 47 = .ok (.imul, 1) := by decide +kernel
theorem dX9_worthIn_48 : decode cX9_worthIn 48 = .ok (.iload 4, 2) := by decide +kernel
theorem dX9_worthIn_50 : decode cX9_worthIn 50 = .ok (.iadd, 1) := by decide +kernel
theorem dX9_worthIn_51 : decode cX9_worthIn 51 = .ok (.iconst 1, 1) := by decide +kernel
theorem dX9_worthIn_52 : decode cX9_worthIn 52 = .ok (.iconst 2, 1) := by decide +kernel
theorem dX9_worthIn_53 : decode cX9_worthIn 53 = .ok (.iload_n 3, 1) := by decide +kernel
theorem dX9_worthIn_54 : decode cX9_worthIn 54 = .ok (.imul, 1) := by decide +kernel
theorem dX9_worthIn_55 : decode cX9_worthIn 55 = .ok (.ishl, 1) := by decide +kernel
theorem dX9_worthIn_56 : decode cX9_worthIn 56 = .ok (.isub, 1) := by decide +kernel
theorem dX9_worthIn_57 : decode cX9_worthIn 57 = .ok (.iaload, 1) := by decide +kernel
theorem dX9_worthIn_58 : decode cX9_worthIn 58 = .ok (.iadd, 1) := by decide +kernel
theorem dX9_worthIn_59 : decode cX9_worthIn 59 = .ok (.ireturn, 1) := by decide +kernel
theorem dX9_countSwaps_0 : decode cX9_countSwaps 0 = .ok (.iconst 0, 1) := by decide +kernel
theorem dX9_countSwaps_1 : decode cX9_countSwaps 1 = .ok (.istore_n 2, 1) := by decide +kernel
theorem dX9_countSwaps_2 : decode cX9_countSwaps 2 = .ok (.iconst 0, 1) := by decide +kernel
theorem dX9_countSwaps_3 : decode cX9_countSwaps 3 = .ok (.istore_n 3, 1) := by decide +kernel
theorem dX9_countSwaps_4 : decode cX9_countSwaps 4 = .ok (.iload_n 3, 1) := by decide +kernel
theorem dX9_countSwaps_5 : decode cX9_countSwaps 5 = .ok (.aload_n 1, 1) := by decide +kernel
theorem dX9_countSwaps_6 : decode cX9_countSwaps 6 = .ok (.getfield 36, 3) := by decide +kernel
theorem dX9_countSwaps_9 : decode cX9_countSwaps 9 = .ok (.if_icmp .ge 54, 3) := by decide +kernel
theorem dX9_countSwaps_12 : decode cX9_countSwaps 12 = .ok (.iload_n 3, 1) := by decide +kernel
theorem dX9_countSwaps_13 : decode cX9_countSwaps 13 = .ok (.iconst 1, 1) := by decide +kernel
theorem dX9_countSwaps_14 : decode cX9_countSwaps 14 = .ok (.iadd, 1) := by decide +kernel
theorem dX9_countSwaps_15 : decode cX9_countSwaps 15 = .ok (.istore 4, 2) := by decide +kernel
theorem dX9_countSwaps_17 : decode cX9_countSwaps 17 = .ok (.iload 4, 2) := by decide +kernel
theorem dX9_countSwaps_19 : decode cX9_countSwaps 19 = .ok (.aload_n 1, 1) := by decide +kernel
theorem dX9_countSwaps_20 : decode cX9_countSwaps 20 = .ok (.getfield 36, 3) := by decide +kernel
theorem dX9_countSwaps_23 : decode cX9_countSwaps 23 = .ok (.if_icmp .ge 34, 3) := by decide +kernel
theorem dX9_countSwaps_26 : decode cX9_countSwaps 26 = .ok (.aload_n 0, 1) := by decide +kernel
theorem dX9_countSwaps_27 : decode cX9_countSwaps 27 = .ok (.aload_n 1, 1) := by decide +kernel
theorem dX9_countSwaps_28 : decode cX9_countSwaps 28 = .ok (.iload_n 3, 1) := by decide +kernel
theorem dX9_countSwaps_29 : decode cX9_countSwaps 29 = .ok (.iload 4, 2) := by decide +kernel
theorem dX9_countSwaps_31 : decode cX9_countSwaps 31 = .ok (.invokevirtual 65, 3) := by decide +kernel
theorem dX9_countSwaps_34 : decode cX9_countSwaps 34 = .ok (.ifCond .eq 17, 3) := by decide +kernel
theorem dX9_countSwaps_37 : decode cX9_countSwaps 37 = .ok (.aload_n 0, 1) := by decide +kernel
theorem dX9_countSwaps_38 : decode cX9_countSwaps 38 = .ok (.aload_n 1, 1) := by decide +kernel
theorem dX9_countSwaps_39 : decode cX9_countSwaps 39 = .ok (.iload 4, 2) := by decide +kernel
theorem dX9_countSwaps_41 : decode cX9_countSwaps 41 = .ok (.iload_n 3, 1) := by decide +kernel
theorem dX9_countSwaps_42 : decode cX9_countSwaps 42 = .ok (.invokevirtual 65, 3) := by decide +kernel
theorem dX9_countSwaps_45 : decode cX9_countSwaps 45 = .ok (.ifCond .eq 6, 3) := by decide +kernel
theorem dX9_countSwaps_48 : decode cX9_countSwaps 48 = .ok (.iinc 2 1, 3) := by decide +kernel
theorem dX9_countSwaps_51 : decode cX9_countSwaps 51 = .ok (.iinc 4 1, 3) := by decide +kernel
theorem dX9_countSwaps_54 : decode cX9_countSwaps 54 = .ok (.goto (-37), 3) := by decide +kernel
theorem dX9_countSwaps_57 : decode cX9_countSwaps 57 = .ok (.iinc 3 1, 3) := by decide +kernel
theorem dX9_countSwaps_60 : decode cX9_countSwaps 60 = .ok (.goto (-56), 3) := by decide +kernel
theorem dX9_countSwaps_63 : decode cX9_countSwaps 63 = .ok (.iload_n 2, 1) := by decide +kernel
theorem dX9_countSwaps_64 : decode cX9_countSwaps 64 = .ok (.ireturn, 1) := by decide +kernel
theorem dX9_wouldGain_0 : decode cX9_wouldGain 0 = .ok (.aload_n 0, 1) := by decide +kernel
theorem dX9_wouldGain_1 : decode cX9_wouldGain 1 = .ok (.getfield 15, 3) := by decide +kernel
theorem dX9_wouldGain_4 : decode cX9_wouldGain 4 = .ok (.iload_n 2, 1) := by decide +kernel
theorem dX9_wouldGain_5 : decode cX9_wouldGain 5 = .ok (.iaload, 1) := by decide +kernel
theorem dX9_wouldGain_6 : decode cX9_wouldGain 6 = .ok (.istore 4, 2) := by decide +kernel
theorem dX9_wouldGain_8 : decode cX9_wouldGain 8 = .ok (.aload_n 0, 1) := by decide +kernel
theorem dX9_wouldGain_9 : decode cX9_wouldGain 9 = .ok (.getfield 15, 3) := by decide +kernel
theorem dX9_wouldGain_12 : decode cX9_wouldGain 12 = .ok (.iload_n 3, 1) := by decide +kernel
theorem dX9_wouldGain_13 : decode cX9_wouldGain 13 = .ok (.iaload, 1) := by decide +kernel
theorem dX9_wouldGain_14 : decode cX9_wouldGain 14 = .ok (.istore 5, 2) := by decide +kernel
theorem dX9_wouldGain_16 : decode cX9_wouldGain 16 = .ok (.iload 4, 2) := by decide +kernel
theorem dX9_wouldGain_18 : decode cX9_wouldGain 18 = .ok (.iconst (-1), 1) := by decide +kernel
theorem dX9_wouldGain_19 : decode cX9_wouldGain 19 = .ok (.if_icmp .eq 9, 3) := by decide +kernel
theorem dX9_wouldGain_22 : decode cX9_wouldGain 22 = .ok (.iload 5, 2) := by decide +kernel
theorem dX9_wouldGain_24 : decode cX9_wouldGain 24 = .ok (.iconst (-1), 1) := by decide +kernel
theorem dX9_wouldGain_25 : decode cX9_wouldGain 25 = .ok (.if_icmp .ne 5, 3) := by decide +kernel
theorem dX9_wouldGain_28 : decode cX9_wouldGain 28 = .ok (.iconst 0, 1) := by decide +kernel
theorem dX9_wouldGain_29 : decode cX9_wouldGain 29 = .ok (.ireturn, 1) := by decide +kernel
theorem dX9_wouldGain_30 : decode cX9_wouldGain 30 = .ok (.aload_n 1, 1) := by decide +kernel
theorem dX9_wouldGain_31 : decode cX9_wouldGain 31 = .ok (.getfield 56, 3) := by decide +kernel
theorem dX9_wouldGain_34 : decode cX9_wouldGain 34 = .ok (.iload_n 2, 1) := by decide +kernel
theorem dX9_wouldGain_35 : decode cX9_wouldGain 35 = .ok (.iaload, 1) := by decide +kernel
theorem dX9_wouldGain_36 : decode cX9_wouldGain 36 = .ok (.istore 6, 2) := by decide +kernel
theorem dX9_wouldGain_38 : decode cX9_wouldGain 38 = .ok (.aload_n 1, 1) := by decide +kernel
theorem dX9_wouldGain_39 : decode cX9_wouldGain 39 = .ok (.iload 6, 2) := by decide +kernel
theorem dX9_wouldGain_41 : decode cX9_wouldGain 41 = .ok (.aload_n 1, 1) := by decide +kernel
theorem dX9_wouldGain_42 : decode cX9_wouldGain 42 = .ok (.getfield 59, 3) := by decide +kernel
theorem dX9_wouldGain_45 : decode cX9_wouldGain 45 = .ok (.iload 5, 2) := by decide +kernel
theorem dX9_wouldGain_47 : decode cX9_wouldGain 47 = .ok (.iaload, 1) := by decide +kernel
theorem dX9_wouldGain_48 : decode cX9_wouldGain 48 = .ok (.invokevirtual 62, 3) := by decide +kernel
theorem dX9_wouldGain_51 : decode cX9_wouldGain 51 = .ok (.aload_n 1, 1) := by decide +kernel
theorem dX9_wouldGain_52 : decode cX9_wouldGain 52 = .ok (.iload 6, 2) := by decide +kernel
theorem dX9_wouldGain_54 : decode cX9_wouldGain 54 = .ok (.aload_n 1, 1) := by decide +kernel
