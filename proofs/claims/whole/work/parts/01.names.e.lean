theorem dX9_wouldGain_55 : decode cX9_wouldGain 55 = .ok (.getfield 59, 3) := by decide +kernel
theorem dX9_wouldGain_58 : decode cX9_wouldGain 58 = .ok (.iload 4, 2) := by decide +kernel
theorem dX9_wouldGain_60 : decode cX9_wouldGain 60 = .ok (.iaload, 1) := by decide +kernel
theorem dX9_wouldGain_61 : decode cX9_wouldGain 61 = .ok (.invokevirtual 62, 3) := by decide +kernel
theorem dX9_wouldGain_64 : decode cX9_wouldGain 64 = .ok (.if_icmp .ge 7, 3) := by decide +kernel
theorem dX9_wouldGain_67 : decode cX9_wouldGain 67 = .ok (.iconst 1, 1) := by decide +kernel
theorem dX9_wouldGain_68 : decode cX9_wouldGain 68 = .ok (.goto 4, 3) := by decide +kernel
theorem dX9_wouldGain_71 : decode cX9_wouldGain 71 = .ok (.iconst 0, 1) := by decide +kernel
theorem dX9_wouldGain_72 : decode cX9_wouldGain 72 = .ok (.ireturn, 1) := by decide +kernel
theorem dX11_init_0 : decode cX11_init 0 = .ok (.aload_n 0, 1) := by decide +kernel
theorem dX11_init_1 : decode cX11_init 1 = .ok (.invokespecial 1, 3) := by decide +kernel
theorem dX11_init_4 : decode cX11_init 4 = .ok (.aload_n 0, 1) := by decide +kernel
theorem dX11_init_5 : decode cX11_init 5 = .ok (.sipush 400, 3) := by decide +kernel
theorem dX11_init_8 : decode cX11_init 8 = .ok (.newarray .int, 2) := by decide +kernel
theorem dX11_init_10 : decode cX11_init 10 = .ok (.putfield 9, 3) := by decide +kernel
theorem dX11_init_13 : decode cX11_init 13 = .ok (.aload_n 0, 1) := by decide +kernel
theorem dX11_init_14 : decode cX11_init 14 = .ok (.iconst 0, 1) := by decide +kernel
theorem dX11_init_15 : decode cX11_init 15 = .ok (.putfield 13, 3) := by decide +kernel
theorem dX11_init_18 : decode cX11_init 18 = .ok (.aload_n 0, 1) := by decide +kernel
theorem dX11_init_19 : decode cX11_init 19 = .ok (.new 17, 3) := by decide +kernel
theorem dX11_init_22 : decode cX11_init 22 = .ok (.dup, 1) := by decide +kernel
theorem dX11_init_23 : decode cX11_init 23 = .ok (.invokespecial 19, 3) := by decide +kernel
theorem dX11_init_26 : decode cX11_init 26 = .ok (.putfield 20, 3) := by decide +kernel
theorem dX11_init_29 : decode cX11_init 29 = .ok (.aload_n 0, 1) := by decide +kernel
theorem dX11_init_30 : decode cX11_init 30 = .ok (.new 24, 3) := by decide +kernel
theorem dX11_init_33 : decode cX11_init 33 = .ok (.dup, 1) := by decide +kernel
theorem dX11_init_34 : decode cX11_init 34 = .ok (.invokespecial 26, 3) := by decide +kernel
theorem dX11_init_37 : decode cX11_init 37 = .ok (.putfield 27, 3) := by decide +kernel
theorem dX11_init_40 : decode cX11_init 40 = .ok (.aload_n 0, 1) := by decide +kernel
theorem dX11_init_41 : decode cX11_init 41 = .ok (.iconst (-1), 1) := by decide +kernel
theorem dX11_init_42 : decode cX11_init 42 = .ok (.putfield 31, 3) := by decide +kernel
theorem dX11_init_45 : decode cX11_init 45 = .ok (.aload_n 0, 1) := by decide +kernel
theorem dX11_init_46 : decode cX11_init 46 = .ok (.new 34, 3) := by decide +kernel
theorem dX11_init_49 : decode cX11_init 49 = .ok (.dup, 1) := by decide +kernel
theorem dX11_init_50 : decode cX11_init 50 = .ok (.invokespecial 36, 3) := by decide +kernel
theorem dX11_init_53 : decode cX11_init 53 = .ok (.putfield 37, 3) := by decide +kernel
theorem dX11_init_56 : decode cX11_init 56 = .ok (.aload_n 0, 1) := by decide +kernel
theorem dX11_init_57 : decode cX11_init 57 = .ok (.new 34, 3) := by decide +kernel
theorem dX11_init_60 : decode cX11_init 60 = .ok (.dup, 1) := by decide +kernel
theorem dX11_init_61 : decode cX11_init 61 = .ok (.invokespecial 36, 3) := by decide +kernel
theorem dX11_init_64 : decode cX11_init 64 = .ok (.putfield 41, 3) := by decide +kernel
theorem dX11_init_67 : decode cX11_init 67 = .ok (.aload_n 0, 1) := by decide +kernel
theorem dX11_init_68 : decode cX11_init 68 = .ok (.new 44, 3) := by decide +kernel
theorem dX11_init_71 : decode cX11_init 71 = .ok (.dup, 1) := by decide +kernel
theorem dX11_init_72 : decode cX11_init 72 = .ok (.invokespecial 46, 3) := by decide +kernel
theorem dX11_init_75 : decode cX11_init 75 = .ok (.putfield 47, 3) := by decide +kernel
theorem dX11_init_78 : decode cX11_init 78 = .ok (.aload_n 0, 1) := by decide +kernel
theorem dX11_init_79 : decode cX11_init 79 = .ok (.new 44, 3) := by decide +kernel
theorem dX11_init_82 : decode cX11_init 82 = .ok (.dup, 1) := by decide +kernel
theorem dX11_init_83 : decode cX11_init 83 = .ok (.invokespecial 46, 3) := by decide +kernel
theorem dX11_init_86 : decode cX11_init 86 = .ok (.putfield 51, 3) := by decide +kernel
theorem dX11_init_89 : decode cX11_init 89 = .ok (.aload_n 0, 1) := by decide +kernel
theorem dX11_init_90 : decode cX11_init 90 = .ok (.iconst 0, 1) := by decide +kernel
theorem dX11_init_91 : decode cX11_init 91 = .ok (.putfield 54, 3) := by decide +kernel
theorem dX11_init_94 : decode cX11_init 94 = .ok (.aload_n 0, 1) := by decide +kernel
theorem dX11_init_95 : decode cX11_init 95 = .ok (.bipush 12, 2) := by decide +kernel
theorem dX11_init_97 : decode cX11_init 97 = .ok (.anewarray 44, 3) := by decide +kernel
theorem dX11_init_100 : decode cX11_init 100 = .ok (.putfield 58, 3) := by decide +kernel
theorem dX11_init_103 : decode cX11_init 103 = .ok (.aload_n 0, 1) := by decide +kernel
theorem dX11_init_104 : decode cX11_init 104 = .ok (.iconst 0, 1) := by decide +kernel
theorem dX11_init_105 : decode cX11_init 105 = .ok (.putfield 62, 3) := by decide +kernel
theorem dX11_init_108 : decode cX11_init 108 = .ok (.aload_n 0, 1) := by decide +kernel
theorem dX11_init_109 : decode cX11_init 109 = .ok (.new 44, 3) := by decide +kernel
theorem dX11_init_112 : decode cX11_init 112 = .ok (.dup, 1) := by decide +kernel
theorem dX11_init_113 : decode cX11_init 113 = .ok (.invokespecial 46, 3) := by decide +kernel
theorem dX11_init_116 : decode cX11_init 116 = .ok (.putfield 65, 3) := by decide +kernel
theorem dX11_init_119 : decode cX11_init 119 = .ok (.aload_n 0, 1) := by decide +kernel
theorem dX11_init_120 : decode cX11_init 120 = .ok (.bipush 7, 2) := by decide +kernel
theorem dX11_init_122 : decode cX11_init 122 = .ok (.newarray .int, 2) := by decide +kernel
theorem dX11_init_124 : decode cX11_init 124 = .ok (.putfield 68, 3) := by decide +kernel
theorem dX11_init_127 : decode cX11_init 127 = .ok (.aload_n 0, 1) := by decide +kernel
theorem dX11_init_128 : decode cX11_init 128 = .ok (.new 71, 3) := by decide +kernel
theorem dX11_init_131 : decode cX11_init 131 = .ok (.dup, 1) := by decide +kernel
theorem dX11_init_132 : decode cX11_init 132 = .ok (.invokespecial 73, 3) := by decide +kernel
theorem dX11_init_135 : decode cX11_init 135 = .ok (.putfield 74, 3) := by decide +kernel
theorem dX11_init_138 : decode cX11_init 138 = .ok (.aload_n 0, 1) := by decide +kernel
theorem dX11_init_139 : decode cX11_init 139 = .ok (.new 78, 3) := by decide +kernel
theorem dX11_init_142 : decode cX11_init 142 = .ok (.dup, 1) := by decide +kernel
theorem dX11_init_143 : decode cX11_init 143 = .ok (.invokespecial 80, 3) := by decide +kernel
theorem dX11_init_146 : decode cX11_init 146 = .ok (.putfield 81, 3) := by decide +kernel
theorem dX11_init_149 : decode cX11_init 149 = .ok (.aload_n 0, 1) := by decide +kernel
theorem dX11_init_150 : decode cX11_init 150 = .ok (.new 85, 3) := by decide +kernel
theorem dX11_init_153 : decode cX11_init 153 = .ok (.dup, 1) := by decide +kernel
theorem dX11_init_154 : decode cX11_init 154 = .ok (.invokespecial 87, 3) := by decide +kernel
theorem dX11_init_157 : decode cX11_init 157 = .ok (.putfield 88, 3) := by decide +kernel
theorem dX11_init_160 : decode cX11_init 160 = .ok (.aload_n 0, 1) := by decide +kernel
theorem dX11_init_161 : decode cX11_init 161 = .ok (.new 92, 3) := by decide +kernel
theorem dX11_init_164 : decode cX11_init 164 = .ok (.dup, 1) := by decide +kernel
theorem dX11_init_165 : decode cX11_init 165 = .ok (.invokespecial 94, 3) := by decide +kernel
theorem dX11_init_168 : decode cX11_init 168 = .ok (.putfield 95, 3) := by decide +kernel
theorem dX11_init_171 : decode cX11_init 171 = .ok (.iconst 0, 1) := by decide +kernel
theorem dX11_init_172 : decode cX11_init 172 = .ok (.istore_n 1, 1) := by decide +kernel
theorem dX11_init_173 : decode cX11_init 173 = .ok (.iload_n 1, 1) := by decide +kernel
theorem dX11_init_174 : decode cX11_init 174 = .ok (.aload_n 0, 1) := by decide +kernel
theorem dX11_init_175 : decode cX11_init 175 = .ok (.getfield 58, 3) := by decide +kernel
theorem dX11_init_178 : decode cX11_init 178 = .ok (.arraylength, 1) := by decide +kernel
theorem dX11_init_179 : decode cX11_init 179 = .ok (.if_icmp .ge 22, 3) := by decide +kernel
theorem dX11_init_182 : decode cX11_init 182 = .ok (.aload_n 0, 1) := by decide +kernel
theorem dX11_init_183 : decode cX11_init 183 = .ok (.getfield 58, 3) := by decide +kernel
theorem dX11_init_186 : decode cX11_init 186 = .ok (.iload_n 1, 1) := by decide +kernel
theorem dX11_init_187 : decode cX11_init 187 = .ok (.new 44, 3) := by decide +kernel
theorem dX11_init_190 : decode cX11_init 190 = .ok (.dup, 1) := by decide +kernel
theorem dX11_init_191 : decode cX11_init 191 = .ok (.invokespecial 46, 3) := by decide +kernel
theorem dX11_init_194 : decode cX11_init 194 = .ok (.aastore, 1) := by decide +kernel
theorem dX11_init_195 : decode cX11_init 195 = .ok (.iinc 1 1, 3) := by decide +kernel
theorem dX11_init_198 : decode cX11_init 198 = .ok (.goto (-25), 3) := by decide +kernel
theorem dX11_init_201 : decode cX11_init 201 = .ok (.return_, 1) := by decide +kernel
theorem dX11_feed_0 : decode cX11_feed 0 = .ok (.aload_n 0, 1) := by decide +kernel
theorem dX11_feed_1 : decode cX11_feed 1 = .ok (.getfield 13, 3) := by decide +kernel
theorem dX11_feed_4 : decode cX11_feed 4 = .ok (.bipush 20, 2) := by decide +kernel
theorem dX11_feed_6 : decode cX11_feed 6 = .ok (.iadd, 1) := by decide +kernel
theorem dX11_feed_7 : decode cX11_feed 7 = .ok (.sipush 400, 3) := by decide +kernel
theorem dX11_feed_10 : decode cX11_feed 10 = .ok (.if_icmp .le 5, 3) := by decide +kernel
theorem dX11_feed_13 : decode cX11_feed 13 = .ok (.iconst (-1), 1) := by decide +kernel
theorem dX11_feed_14 : decode cX11_feed 14 = .ok (.ireturn, 1) := by decide +kernel
theorem dX11_feed_15 : decode cX11_feed 15 = .ok (.aload_n 0, 1) := by decide +kernel
theorem dX11_feed_16 : decode cX11_feed 16 = .ok (.iload_n 1, 1) := by decide +kernel
theorem dX11_feed_17 : decode cX11_feed 17 = .ok (.invokevirtual 99, 3) := by decide +kernel
theorem dX11_feed_20 : decode cX11_feed 20 = .ok (.aload_n 0, 1) := by decide +kernel
theorem dX11_feed_21 : decode cX11_feed 21 = .ok (.iload_n 2, 1) := by decide +kernel
theorem dX11_feed_22 : decode cX11_feed 22 = .ok (.invokevirtual 99, 3) := by decide +kernel
theorem dX11_feed_25 : decode cX11_feed 25 = .ok (.aload_n 0, 1) := by decide +kernel
theorem dX11_feed_26 : decode cX11_feed 26 = .ok (.iload_n 3, 1) := by decide +kernel
theorem dX11_feed_27 : decode cX11_feed 27 = .ok (.invokevirtual 99, 3) := by decide +kernel
theorem dX11_feed_30 : decode cX11_feed 30 = .ok (.aload_n 0, 1) := by decide +kernel
theorem dX11_feed_31 : decode cX11_feed 31 = .ok (.iload 4, 2) := by decide +kernel
theorem dX11_feed_33 : decode cX11_feed 33 = .ok (.invokevirtual 99, 3) := by decide +kernel
theorem dX11_feed_36 : decode cX11_feed 36 = .ok (.aload_n 0, 1) := by decide +kernel
theorem dX11_feed_37 : decode cX11_feed 37 = .ok (.iload 5, 2) := by decide +kernel
theorem dX11_feed_39 : decode cX11_feed 39 = .ok (.invokevirtual 99, 3) := by decide +kernel
theorem dX11_feed_42 : decode cX11_feed 42 = .ok (.aload_n 0, 1) := by decide +kernel
theorem dX11_feed_43 : decode cX11_feed 43 = .ok (.getfield 13, 3) := by decide +kernel
theorem dX11_feed_46 : decode cX11_feed 46 = .ok (.ireturn, 1) := by decide +kernel
theorem dX11_end_0 : decode cX11_end 0 = .ok (.iload_n 1, 1) := by decide +kernel
theorem dX11_end_1 : decode cX11_end 1 = .ok (.ifCond .lt 11, 3) := by decide +kernel
theorem dX11_end_4 : decode cX11_end 4 = .ok (.iload_n 1, 1) := by decide +kernel
theorem dX11_end_5 : decode cX11_end 5 = .ok (.aload_n 0, 1) := by decide +kernel
theorem dX11_end_6 : decode cX11_end 6 = .ok (.getfield 13, 3) := by decide +kernel
theorem dX11_end_9 : decode cX11_end 9 = .ok (.if_icmp .le 5, 3) := by decide +kernel
theorem dX11_end_12 : decode cX11_end 12 = .ok (.iconst 0, 1) := by decide +kernel
theorem dX11_end_13 : decode cX11_end 13 = .ok (.ireturn, 1) := by decide +kernel
theorem dX11_end_14 : decode cX11_end 14 = .ok (.aload_n 0, 1) := by decide +kernel
theorem dX11_end_15 : decode cX11_end 15 = .ok (.iload_n 1, 1) := by decide +kernel
theorem dX11_end_16 : decode cX11_end 16 = .ok (.putfield 13, 3) := by decide +kernel
theorem dX11_end_19 : decode cX11_end 19 = .ok (.iconst 1, 1) := by decide +kernel
theorem dX11_end_20 : decode cX11_end 20 = .ok (.ireturn, 1) := by decide +kernel
theorem dX11_promenade_0 : decode cX11_promenade 0 = .ok (.aload_n 0, 1) := by decide +kernel
theorem dX11_promenade_1 : decode cX11_promenade 1 = .ok (.getfield 20, 3) := by decide +kernel
theorem dX11_promenade_4 : decode cX11_promenade 4 = .ok (.getfield 103, 3) := by decide +kernel
theorem dX11_promenade_7 : decode cX11_promenade 7 = .ok (.aload_n 0, 1) := by decide +kernel
theorem dX11_promenade_8 : decode cX11_promenade 8 = .ok (.getfield 47, 3) := by decide +kernel
theorem dX11_promenade_11 : decode cX11_promenade 11 = .ok (.invokevirtual 106, 3) := by decide +kernel
theorem dX11_promenade_14 : decode cX11_promenade 14 = .ok (.aload_n 0, 1) := by decide +kernel
theorem dX11_promenade_15 : decode cX11_promenade 15 = .ok (.aload_n 0, 1) := by decide +kernel
theorem dX11_promenade_16 : decode cX11_promenade 16 = .ok (.getfield 20, 3) := by decide +kernel
theorem dX11_promenade_19 : decode cX11_promenade 19 = .ok (.aload_n 0, 1) := by decide +kernel
theorem dX11_promenade_20 : decode cX11_promenade 20 = .ok (.getfield 9, 3) := by decide +kernel
theorem dX11_promenade_23 : decode cX11_promenade 23 = .ok (.aload_n 0, 1) := by decide +kernel
theorem dX11_promenade_24 : decode cX11_promenade 24 = .ok (.invokevirtual 110, 3) := by decide +kernel
theorem dX11_promenade_27 : decode cX11_promenade 27 = .ok (.bipush 14, 2) := by decide +kernel
theorem dX11_promenade_29 : decode cX11_promenade 29 = .ok (.invokevirtual 114, 3) := by decide +kernel
theorem dX11_promenade_32 : decode cX11_promenade 32 = .ok (.putfield 31, 3) := by decide +kernel
theorem dX11_promenade_35 : decode cX11_promenade 35 = .ok (.aload_n 0, 1) := by decide +kernel
theorem dX11_promenade_36 : decode cX11_promenade 36 = .ok (.getfield 31, 3) := by decide +kernel
theorem dX11_promenade_39 : decode cX11_promenade 39 = .ok (.iconst (-1), 1) := by decide +kernel
theorem dX11_promenade_40 : decode cX11_promenade 40 = .ok (.if_icmp .eq 13, 3) := by decide +kernel
theorem dX11_promenade_43 : decode cX11_promenade 43 = .ok (.new 118, 3) := by decide +kernel
theorem dX11_promenade_46 : decode cX11_promenade 46 = .ok (.dup, 1) := by decide +kernel
theorem dX11_promenade_47 : decode cX11_promenade 47 = .ok (.ldc 120, 2) := by decide +kernel
theorem dX11_promenade_49 : decode cX11_promenade 49 = .ok (.invokespecial 122, 3) := by decide +kernel
theorem dX11_promenade_52 : decode cX11_promenade 52 = .ok (.athrow, 1) := by decide +kernel
theorem dX11_promenade_53 : decode cX11_promenade 53 = .ok (.aload_n 0, 1) := by decide +kernel
theorem dX11_promenade_54 : decode cX11_promenade 54 = .ok (.getfield 47, 3) := by decide +kernel
theorem dX11_promenade_57 : decode cX11_promenade 57 = .ok (.getfield 125, 3) := by decide +kernel
theorem dX11_promenade_60 : decode cX11_promenade 60 = .ok (.bipush 12, 2) := by decide +kernel
theorem dX11_promenade_62 : decode cX11_promenade 62 = .ok (.if_icmp .lt 13, 3) := by decide +kernel
theorem dX11_promenade_65 : decode cX11_promenade 65 = .ok (.new 128, 3) := by decide +kernel
theorem dX11_promenade_68 : decode cX11_promenade 68 = .ok (.dup, 1) := by decide +kernel
theorem dX11_promenade_69 : decode cX11_promenade 69 = .ok (.ldc 130, 2) := by decide +kernel
theorem dX11_promenade_71 : decode cX11_promenade 71 = .ok (.invokespecial 132, 3) := by decide +kernel
theorem dX11_promenade_74 : decode cX11_promenade 74 = .ok (.athrow, 1) := by decide +kernel
theorem dX11_promenade_75 : decode cX11_promenade 75 = .ok (.aload_n 0, 1) := by decide +kernel
theorem dX11_promenade_76 : decode cX11_promenade 76 = .ok (.getfield 47, 3) := by decide +kernel
theorem dX11_promenade_79 : decode cX11_promenade 79 = .ok (.aload_n 0, 1) := by decide +kernel
theorem dX11_promenade_80 : decode cX11_promenade 80 = .ok (.getfield 20, 3) := by decide +kernel
theorem dX11_promenade_83 : decode cX11_promenade 83 = .ok (.getfield 103, 3) := by decide +kernel
theorem dX11_promenade_86 : decode cX11_promenade 86 = .ok (.invokevirtual 106, 3) := by decide +kernel
theorem dX11_promenade_89 : decode cX11_promenade 89 = .ok (.aload_n 0, 1) := by decide +kernel
theorem dX11_promenade_90 : decode cX11_promenade 90 = .ok (.getfield 47, 3) := by decide +kernel
theorem dX11_promenade_93 : decode cX11_promenade 93 = .ok (.dup, 1) := by decide +kernel
theorem dX11_promenade_94 : decode cX11_promenade 94 = .ok (.getfield 125, 3) := by decide +kernel
theorem dX11_promenade_97 : decode cX11_promenade 97 = .ok (.iconst 1, 1) := by decide +kernel
theorem dX11_promenade_98 : decode cX11_promenade 98 = .ok (.iadd, 1) := by decide +kernel
theorem dX11_promenade_99 : decode cX11_promenade 99 = .ok (.putfield 125, 3) := by decide +kernel
theorem dX11_promenade_102 : decode cX11_promenade 102 = .ok (.aload_n 0, 1) := by decide +kernel
theorem dX11_promenade_103 : decode cX11_promenade 103 = .ok (.iconst 0, 1) := by decide +kernel
theorem dX11_promenade_104 : decode cX11_promenade 104 = .ok (.putfield 62, 3) := by decide +kernel
theorem dX11_promenade_107 : decode cX11_promenade 107 = .ok (.aload_n 0, 1) := by decide +kernel
theorem dX11_promenade_108 : decode cX11_promenade 108 = .ok (.getfield 47, 3) := by decide +kernel
theorem dX11_promenade_111 : decode cX11_promenade 111 = .ok (.getfield 125, 3) := by decide +kernel
theorem dX11_promenade_114 : decode cX11_promenade 114 = .ok (.ireturn, 1) := by decide +kernel
theorem dX11_law_0 : decode cX11_law 0 = .ok (.aload_n 0, 1) := by decide +kernel
theorem dX11_law_1 : decode cX11_law 1 = .ok (.getfield 27, 3) := by decide +kernel
theorem dX11_law_4 : decode cX11_law 4 = .ok (.getfield 133, 3) := by decide +kernel
theorem dX11_law_7 : decode cX11_law 7 = .ok (.invokevirtual 134, 3) := by decide +kernel
theorem dX11_law_10 : decode cX11_law 10 = .ok (.aload_n 0, 1) := by decide +kernel
theorem dX11_law_11 : decode cX11_law 11 = .ok (.aload_n 0, 1) := by decide +kernel
theorem dX11_law_12 : decode cX11_law 12 = .ok (.getfield 27, 3) := by decide +kernel
theorem dX11_law_15 : decode cX11_law 15 = .ok (.aload_n 0, 1) := by decide +kernel
theorem dX11_law_16 : decode cX11_law 16 = .ok (.getfield 9, 3) := by decide +kernel
theorem dX11_law_19 : decode cX11_law 19 = .ok (.aload_n 0, 1) := by decide +kernel
theorem dX11_law_20 : decode cX11_law 20 = .ok (.invokevirtual 110, 3) := by decide +kernel
theorem dX11_law_23 : decode cX11_law 23 = .ok (.bipush 12, 2) := by decide +kernel
theorem dX11_law_25 : decode cX11_law 25 = .ok (.invokevirtual 137, 3) := by decide +kernel
theorem dX11_law_28 : decode cX11_law 28 = .ok (.putfield 31, 3) := by decide +kernel
theorem dX11_law_31 : decode cX11_law 31 = .ok (.aload_n 0, 1) := by decide +kernel
theorem dX11_law_32 : decode cX11_law 32 = .ok (.getfield 31, 3) := by decide +kernel
theorem dX11_law_35 : decode cX11_law 35 = .ok (.iconst (-1), 1) := by decide +kernel
theorem dX11_law_36 : decode cX11_law 36 = .ok (.if_icmp .eq 13, 3) := by decide +kernel
theorem dX11_law_39 : decode cX11_law 39 = .ok (.new 118, 3) := by decide +kernel
theorem dX11_law_42 : decode cX11_law 42 = .ok (.dup, 1) := by decide +kernel
theorem dX11_law_43 : decode cX11_law 43 = .ok (.ldc 120, 2) := by decide +kernel
theorem dX11_law_45 : decode cX11_law 45 = .ok (.invokespecial 122, 3) := by decide +kernel
theorem dX11_law_48 : decode cX11_law 48 = .ok (.athrow, 1) := by decide +kernel
theorem dX11_law_49 : decode cX11_law 49 = .ok (.aload_n 0, 1) := by decide +kernel
theorem dX11_law_50 : decode cX11_law 50 = .ok (.getfield 37, 3) := by decide +kernel
theorem dX11_law_53 : decode cX11_law 53 = .ok (.aload_n 0, 1) := by decide +kernel
theorem dX11_law_54 : decode cX11_law 54 = .ok (.getfield 27, 3) := by decide +kernel
theorem dX11_law_57 : decode cX11_law 57 = .ok (.getfield 133, 3) := by decide +kernel
theorem dX11_law_60 : decode cX11_law 60 = .ok (.invokevirtual 138, 3) := by decide +kernel
theorem dX11_law_63 : decode cX11_law 63 = .ok (.aload_n 0, 1) := by decide +kernel
theorem dX11_law_64 : decode cX11_law 64 = .ok (.iconst 0, 1) := by decide +kernel
theorem dX11_law_65 : decode cX11_law 65 = .ok (.putfield 62, 3) := by decide +kernel
theorem dX11_law_68 : decode cX11_law 68 = .ok (.aload_n 0, 1) := by decide +kernel
theorem dX11_law_69 : decode cX11_law 69 = .ok (.getfield 37, 3) := by decide +kernel
theorem dX11_law_72 : decode cX11_law 72 = .ok (.getfield 141, 3) := by decide +kernel
theorem dX11_law_75 : decode cX11_law 75 = .ok (.ireturn, 1) := by decide +kernel
theorem dX11_fault_0 : decode cX11_fault 0 = .ok (.aload_n 0, 1) := by decide +kernel
theorem dX11_fault_1 : decode cX11_fault 1 = .ok (.getfield 31, 3) := by decide +kernel
theorem dX11_fault_4 : decode cX11_fault 4 = .ok (.ireturn, 1) := by decide +kernel
theorem dX11_walker_0 : decode cX11_walker 0 = .ok (.aload_n 0, 1) := by decide +kernel
theorem dX11_walker_1 : decode cX11_walker 1 = .ok (.iload_n 1, 1) := by decide +kernel
theorem dX11_walker_2 : decode cX11_walker 2 = .ok (.invokevirtual 144, 3) := by decide +kernel
theorem dX11_walker_5 : decode cX11_walker 5 = .ok (.iload_n 2, 1) := by decide +kernel
theorem dX11_walker_6 : decode cX11_walker 6 = .ok (.tableswitch 243 0 13 #[70, 80, 90, 100, 112, 122, 132, 142, 155, 164, 188, 204, 225, 234], 70) := by decide +kernel
theorem dX11_walker_76 : decode cX11_walker 76 = .ok (.aload_n 0, 1) := by decide +kernel
theorem dX11_walker_77 : decode cX11_walker 77 = .ok (.getfield 47, 3) := by decide +kernel
theorem dX11_walker_80 : decode cX11_walker 80 = .ok (.getfield 147, 3) := by decide +kernel
theorem dX11_walker_83 : decode cX11_walker 83 = .ok (.iload_n 1, 1) := by decide +kernel
theorem dX11_walker_84 : decode cX11_walker 84 = .ok (.iaload, 1) := by decide +kernel
theorem dX11_walker_85 : decode cX11_walker 85 = .ok (.ireturn, 1) := by decide +kernel
theorem dX11_walker_86 : decode cX11_walker 86 = .ok (.aload_n 0, 1) := by decide +kernel
theorem dX11_walker_87 : decode cX11_walker 87 = .ok (.getfield 47, 3) := by decide +kernel
theorem dX11_walker_90 : decode cX11_walker 90 = .ok (.getfield 150, 3) := by decide +kernel
theorem dX11_walker_93 : decode cX11_walker 93 = .ok (.iload_n 1, 1) := by decide +kernel
theorem dX11_walker_94 : decode cX11_walker 94 = .ok (.iaload, 1) := by decide +kernel
theorem dX11_walker_95 : decode cX11_walker 95 = .ok (.ireturn, 1) := by decide +kernel
theorem dX11_walker_96 : decode cX11_walker 96 = .ok (.aload_n 0, 1) := by decide +kernel
theorem dX11_walker_97 : decode cX11_walker 97 = .ok (.getfield 47, 3) := by decide +kernel
theorem dX11_walker_100 : decode cX11_walker 100 = .ok (.getfield 153, 3) := by decide +kernel
theorem dX11_walker_103 : decode cX11_walker 103 = .ok (.iload_n 1, 1) := by decide +kernel
theorem dX11_walker_104 : decode cX11_walker 104 = .ok (.iaload, 1) := by decide +kernel
theorem dX11_walker_105 : decode cX11_walker 105 = .ok (.ireturn, 1) := by decide +kernel
theorem dX11_walker_106 : decode cX11_walker 106 = .ok (.aload_n 0, 1) := by decide +kernel
theorem dX11_walker_107 : decode cX11_walker 107 = .ok (.getfield 47, 3) := by decide +kernel
theorem dX11_walker_110 : decode cX11_walker 110 = .ok (.getfield 156, 3) := by decide +kernel
theorem dX11_walker_113 : decode cX11_walker 113 = .ok (.iload_n 1, 1) := by decide +kernel
theorem dX11_walker_114 : decode cX11_walker 114 = .ok (.ishr, 1) := by decide +kernel
theorem dX11_walker_115 : decode cX11_walker 115 = .ok (.iconst 1, 1) := by decide +kernel
theorem dX11_walker_116 : decode cX11_walker 116 = .ok (.iand, 1) := by decide +kernel
theorem dX11_walker_117 : decode cX11_walker 117 = .ok (.ireturn, 1) := by decide +kernel
theorem dX11_walker_118 : decode cX11_walker 118 = .ok (.aload_n 0, 1) := by decide +kernel
theorem dX11_walker_119 : decode cX11_walker 119 = .ok (.getfield 47, 3) := by decide +kernel
theorem dX11_walker_122 : decode cX11_walker 122 = .ok (.getfield 159, 3) := by decide +kernel
theorem dX11_walker_125 : decode cX11_walker 125 = .ok (.iload_n 1, 1) := by decide +kernel
theorem dX11_walker_126 : decode cX11_walker 126 = .ok (.iaload, 1) := by decide +kernel
theorem dX11_walker_127 : decode cX11_walker 127 = .ok (.ireturn, 1) := by decide +kernel
theorem dX11_walker_128 : decode cX11_walker 128 = .ok (.aload_n 0, 1) := by decide +kernel
theorem dX11_walker_129 : decode cX11_walker 129 = .ok (.getfield 47, 3) := by decide +kernel
theorem dX11_walker_132 : decode cX11_walker 132 = .ok (.getfield 162, 3) := by decide +kernel
theorem dX11_walker_135 : decode cX11_walker 135 = .ok (.iload_n 1, 1) := by decide +kernel
theorem dX11_walker_136 : decode cX11_walker 136 = .ok (.iaload, 1) := by decide +kernel
theorem dX11_walker_137 : decode cX11_walker 137 = .ok (.ireturn, 1) := by decide +kernel
theorem dX11_walker_138 : decode cX11_walker 138 = .ok (.aload_n 0, 1) := by decide +kernel
theorem dX11_walker_139 : decode cX11_walker 139 = .ok (.getfield 47, 3) := by decide +kernel
theorem dX11_walker_142 : decode cX11_walker 142 = .ok (.getfield 165, 3) := by decide +kernel
theorem dX11_walker_145 : decode cX11_walker 145 = .ok (.iload_n 1, 1) := by decide +kernel
theorem dX11_walker_146 : decode cX11_walker 146 = .ok (.iaload, 1) := by decide +kernel
theorem dX11_walker_147 : decode cX11_walker 147 = .ok (.ireturn, 1) := by decide +kernel
theorem dX11_walker_148 : decode cX11_walker 148 = .ok (.aload_n 0, 1) := by decide +kernel
theorem dX11_walker_149 : decode cX11_walker 149 = .ok (.getfield 37, 3) := by decide +kernel
theorem dX11_walker_152 : decode cX11_walker 152 = .ok (.aload_n 0, 1) := by decide +kernel
theorem dX11_walker_153 : decode cX11_walker 153 = .ok (.getfield 47, 3) := by decide +kernel
theorem dX11_walker_156 : decode cX11_walker 156 = .ok (.iload_n 1, 1) := by decide +kernel
theorem dX11_walker_157 : decode cX11_walker 157 = .ok (.invokevirtual 168, 3) := by decide +kernel
theorem dX11_walker_160 : decode cX11_walker 160 = .ok (.ireturn, 1) := by decide +kernel
theorem dX11_walker_161 : decode cX11_walker 161 = .ok (.aload_n 0, 1) := by decide +kernel
theorem dX11_walker_162 : decode cX11_walker 162 = .ok (.getfield 47, 3) := by decide +kernel
theorem dX11_walker_165 : decode cX11_walker 165 = .ok (.iload_n 1, 1) := by decide +kernel
theorem dX11_walker_166 : decode cX11_walker 166 = .ok (.invokevirtual 172, 3) := by decide +kernel
theorem dX11_walker_169 : decode cX11_walker 169 = .ok (.ireturn, 1) := by decide +kernel
theorem dX11_walker_170 : decode cX11_walker 170 = .ok (.aload_n 0, 1) := by decide +kernel
theorem dX11_walker_171 : decode cX11_walker 171 = .ok (.getfield 47, 3) := by decide +kernel
theorem dX11_walker_174 : decode cX11_walker 174 = .ok (.getfield 176, 3) := by decide +kernel
theorem dX11_walker_177 : decode cX11_walker 177 = .ok (.iconst 2, 1) := by decide +kernel
theorem dX11_walker_178 : decode cX11_walker 178 = .ok (.if_icmp .ge 7, 3) := by decide +kernel
theorem dX11_walker_181 : decode cX11_walker 181 = .ok (.iconst (-1), 1) := by decide +kernel
theorem dX11_walker_182 : decode cX11_walker 182 = .ok (.goto 11, 3) := by decide +kernel
theorem dX11_walker_185 : decode cX11_walker 185 = .ok (.aload_n 0, 1) := by decide +kernel
theorem dX11_walker_186 : decode cX11_walker 186 = .ok (.getfield 47, 3) := by decide +kernel
theorem dX11_walker_189 : decode cX11_walker 189 = .ok (.iload_n 1, 1) := by decide +kernel
theorem dX11_walker_190 : decode cX11_walker 190 = .ok (.invokevirtual 179, 3) := by decide +kernel
theorem dX11_walker_193 : decode cX11_walker 193 = .ok (.ireturn, 1) := by decide +kernel
theorem dX11_walker_194 : decode cX11_walker 194 = .ok (.aload_n 0, 1) := by decide +kernel
theorem dX11_walker_195 : decode cX11_walker 195 = .ok (.getfield 47, 3) := by decide +kernel
theorem dX11_walker_198 : decode cX11_walker 198 = .ok (.iload_n 1, 1) := by decide +kernel
theorem dX11_walker_199 : decode cX11_walker 199 = .ok (.aload_n 0, 1) := by decide +kernel
theorem dX11_walker_200 : decode cX11_walker 200 = .ok (.getfield 47, 3) := by decide +kernel
theorem dX11_walker_203 : decode cX11_walker 203 = .ok (.invokevirtual 182, 3) := by decide +kernel
theorem dX11_walker_206 : decode cX11_walker 206 = .ok (.invokevirtual 185, 3) := by decide +kernel
theorem dX11_walker_209 : decode cX11_walker 209 = .ok (.ireturn, 1) := by decide +kernel
theorem dX11_walker_210 : decode cX11_walker 210 = .ok (.aload_n 0, 1) := by decide +kernel
theorem dX11_walker_211 : decode cX11_walker 211 = .ok (.getfield 47, 3) := by decide +kernel
theorem dX11_walker_214 : decode cX11_walker 214 = .ok (.iload_n 1, 1) := by decide +kernel
theorem dX11_walker_215 : decode cX11_walker 215 = .ok (.invokevirtual 189, 3) := by decide +kernel
theorem dX11_walker_218 : decode cX11_walker 218 = .ok (.aload_n 0, 1) := by decide +kernel
theorem dX11_walker_219 : decode cX11_walker 219 = .ok (.iload_n 1, 1) := by decide +kernel
theorem dX11_walker_220 : decode cX11_walker 220 = .ok (.sipush 200, 3) := by decide +kernel
theorem dX11_walker_223 : decode cX11_walker 223 = .ok (.iconst 0, 1) := by decide +kernel
theorem dX11_walker_224 : decode cX11_walker 224 = .ok (.invokevirtual 192, 3) := by decide +kernel
theorem dX11_walker_227 : decode cX11_walker 227 = .ok (.iconst (-1), 1) := by decide +kernel
theorem dX11_walker_228 : decode cX11_walker 228 = .ok (.ixor, 1) := by decide +kernel
theorem dX11_walker_229 : decode cX11_walker 229 = .ok (.iand, 1) := by decide +kernel
theorem dX11_walker_230 : decode cX11_walker 230 = .ok (.ireturn, 1) := by decide +kernel
theorem dX11_walker_231 : decode cX11_walker 231 = .ok (.aload_n 0, 1) := by decide +kernel
theorem dX11_walker_232 : decode cX11_walker 232 = .ok (.getfield 47, 3) := by decide +kernel
theorem dX11_walker_235 : decode cX11_walker 235 = .ok (.iload_n 1, 1) := by decide +kernel
theorem dX11_walker_236 : decode cX11_walker 236 = .ok (.invokevirtual 196, 3) := by decide +kernel
theorem dX11_walker_239 : decode cX11_walker 239 = .ok (.ireturn, 1) := by decide +kernel
theorem dX11_walker_240 : decode cX11_walker 240 = .ok (.aload_n 0, 1) := by decide +kernel
theorem dX11_walker_241 : decode cX11_walker 241 = .ok (.getfield 47, 3) := by decide +kernel
theorem dX11_walker_244 : decode cX11_walker 244 = .ok (.iload_n 1, 1) := by decide +kernel
theorem dX11_walker_245 : decode cX11_walker 245 = .ok (.invokevirtual 199, 3) := by decide +kernel
theorem dX11_walker_248 : decode cX11_walker 248 = .ok (.ireturn, 1) := by decide +kernel
theorem dX11_walker_249 : decode cX11_walker 249 = .ok (.new 202, 3) := by decide +kernel
theorem dX11_walker_252 : decode cX11_walker 252 = .ok (.dup, 1) := by decide +kernel
theorem dX11_walker_253 : decode cX11_walker 253 = .ok (.ldc 204, 2) := by decide +kernel
theorem dX11_walker_255 : decode cX11_walker 255 = .ok (.invokespecial 206, 3) := by decide +kernel
theorem dX11_walker_258 : decode cX11_walker 258 = .ok (.athrow, 1) := by decide +kernel
theorem dX11_shelter_0 : decode cX11_shelter 0 = .ok (.aload_n 0, 1) := by decide +kernel
theorem dX11_shelter_1 : decode cX11_shelter 1 = .ok (.iload_n 1, 1) := by decide +kernel
theorem dX11_shelter_2 : decode cX11_shelter 2 = .ok (.invokevirtual 207, 3) := by decide +kernel
theorem dX11_shelter_5 : decode cX11_shelter 5 = .ok (.iload_n 2, 1) := by decide +kernel
theorem dX11_shelter_6 : decode cX11_shelter 6 = .ok (.tableswitch 52 0 2 #[26, 36, 46], 26) := by decide +kernel
theorem dX11_shelter_32 : decode cX11_shelter 32 = .ok (.aload_n 0, 1) := by decide +kernel
theorem dX11_shelter_33 : decode cX11_shelter 33 = .ok (.getfield 47, 3) := by decide +kernel
theorem dX11_shelter_36 : decode cX11_shelter 36 = .ok (.getfield 210, 3) := by decide +kernel
theorem dX11_shelter_39 : decode cX11_shelter 39 = .ok (.iload_n 1, 1) := by decide +kernel
theorem dX11_shelter_40 : decode cX11_shelter 40 = .ok (.iaload, 1) := by decide +kernel
theorem dX11_shelter_41 : decode cX11_shelter 41 = .ok (.ireturn, 1) := by decide +kernel
theorem dX11_shelter_42 : decode cX11_shelter 42 = .ok (.aload_n 0, 1) := by decide +kernel
theorem dX11_shelter_43 : decode cX11_shelter 43 = .ok (.getfield 47, 3) := by decide +kernel
theorem dX11_shelter_46 : decode cX11_shelter 46 = .ok (.getfield 213, 3) := by decide +kernel
theorem dX11_shelter_49 : decode cX11_shelter 49 = .ok (.iload_n 1, 1) := by decide +kernel
theorem dX11_shelter_50 : decode cX11_shelter 50 = .ok (.iaload, 1) := by decide +kernel
theorem dX11_shelter_51 : decode cX11_shelter 51 = .ok (.ireturn, 1) := by decide +kernel
theorem dX11_shelter_52 : decode cX11_shelter 52 = .ok (.aload_n 0, 1) := by decide +kernel
theorem dX11_shelter_53 : decode cX11_shelter 53 = .ok (.iload_n 1, 1) := by decide +kernel
theorem dX11_shelter_54 : decode cX11_shelter 54 = .ok (.invokevirtual 216, 3) := by decide +kernel
theorem dX11_shelter_57 : decode cX11_shelter 57 = .ok (.ireturn, 1) := by decide +kernel
theorem dX11_shelter_58 : decode cX11_shelter 58 = .ok (.new 202, 3) := by decide +kernel
theorem dX11_shelter_61 : decode cX11_shelter 61 = .ok (.dup, 1) := by decide +kernel
theorem dX11_shelter_62 : decode cX11_shelter 62 = .ok (.ldc 219, 2) := by decide +kernel
theorem dX11_shelter_64 : decode cX11_shelter 64 = .ok (.invokespecial 206, 3) := by decide +kernel
theorem dX11_shelter_67 : decode cX11_shelter 67 = .ok (.athrow, 1) := by decide +kernel
theorem dX11_gap_0 : decode cX11_gap 0 = .ok (.aload_n 0, 1) := by decide +kernel
theorem dX11_gap_1 : decode cX11_gap 1 = .ok (.iload_n 1, 1) := by decide +kernel
theorem dX11_gap_2 : decode cX11_gap 2 = .ok (.invokevirtual 221, 3) := by decide +kernel
theorem dX11_gap_5 : decode cX11_gap 5 = .ok (.aload_n 0, 1) := by decide +kernel
theorem dX11_gap_6 : decode cX11_gap 6 = .ok (.iload_n 2, 1) := by decide +kernel
theorem dX11_gap_7 : decode cX11_gap 7 = .ok (.invokevirtual 221, 3) := by decide +kernel
theorem dX11_gap_10 : decode cX11_gap 10 = .ok (.aload_n 0, 1) := by decide +kernel
theorem dX11_gap_11 : decode cX11_gap 11 = .ok (.getfield 47, 3) := by decide +kernel
theorem dX11_gap_14 : decode cX11_gap 14 = .ok (.iload_n 1, 1) := by decide +kernel
theorem dX11_gap_15 : decode cX11_gap 15 = .ok (.iload_n 2, 1) := by decide +kernel
theorem dX11_gap_16 : decode cX11_gap 16 = .ok (.invokevirtual 224, 3) := by decide +kernel
theorem dX11_gap_19 : decode cX11_gap 19 = .ok (.ireturn, 1) := by decide +kernel
theorem dX11_count_0 : decode cX11_count 0 = .ok (.iload_n 1, 1) := by decide +kernel
theorem dX11_count_1 : decode cX11_count 1 = .ok (.tableswitch 155 0 10 #[59, 67, 75, 83, 91, 99, 107, 115, 131, 139, 150], 59) := by decide +kernel
theorem dX11_count_60 : decode cX11_count 60 = .ok (.aload_n 0, 1) := by decide +kernel
theorem dX11_count_61 : decode cX11_count 61 = .ok (.getfield 47, 3) := by decide +kernel
theorem dX11_count_64 : decode cX11_count 64 = .ok (.getfield 176, 3) := by decide +kernel
theorem dX11_count_67 : decode cX11_count 67 = .ok (.ireturn, 1) := by decide +kernel
theorem dX11_count_68 : decode cX11_count 68 = .ok (.aload_n 0, 1) := by decide +kernel
theorem dX11_count_69 : decode cX11_count 69 = .ok (.getfield 47, 3) := by decide +kernel
theorem dX11_count_72 : decode cX11_count 72 = .ok (.getfield 227, 3) := by decide +kernel
theorem dX11_count_75 : decode cX11_count 75 = .ok (.ireturn, 1) := by decide +kernel
theorem dX11_count_76 : decode cX11_count 76 = .ok (.aload_n 0, 1) := by decide +kernel
theorem dX11_count_77 : decode cX11_count 77 = .ok (.getfield 47, 3) := by decide +kernel
theorem dX11_count_80 : decode cX11_count 80 = .ok (.getfield 125, 3) := by decide +kernel
theorem dX11_count_83 : decode cX11_count 83 = .ok (.ireturn, 1) := by decide +kernel
theorem dX11_count_84 : decode cX11_count 84 = .ok (.aload_n 0, 1) := by decide +kernel
theorem dX11_count_85 : decode cX11_count 85 = .ok (.getfield 37, 3) := by decide +kernel
theorem dX11_count_88 : decode cX11_count 88 = .ok (.getfield 141, 3) := by decide +kernel
theorem dX11_count_91 : decode cX11_count 91 = .ok (.ireturn, 1) := by decide +kernel
theorem dX11_count_92 : decode cX11_count 92 = .ok (.aload_n 0, 1) := by decide +kernel
theorem dX11_count_93 : decode cX11_count 93 = .ok (.getfield 47, 3) := by decide +kernel
theorem dX11_count_96 : decode cX11_count 96 = .ok (.getfield 230, 3) := by decide +kernel
theorem dX11_count_99 : decode cX11_count 99 = .ok (.ireturn, 1) := by decide +kernel
theorem dX11_count_100 : decode cX11_count 100 = .ok (.aload_n 0, 1) := by decide +kernel
theorem dX11_count_101 : decode cX11_count 101 = .ok (.getfield 47, 3) := by decide +kernel
theorem dX11_count_104 : decode cX11_count 104 = .ok (.getfield 233, 3) := by decide +kernel
theorem dX11_count_107 : decode cX11_count 107 = .ok (.ireturn, 1) := by decide +kernel
theorem dX11_count_108 : decode cX11_count 108 = .ok (.aload_n 0, 1) := by decide +kernel
theorem dX11_count_109 : decode cX11_count 109 = .ok (.getfield 47, 3) := by decide +kernel
theorem dX11_count_112 : decode cX11_count 112 = .ok (.getfield 236, 3) := by decide +kernel
theorem dX11_count_115 : decode cX11_count 115 = .ok (.ireturn, 1) := by decide +kernel
theorem dX11_count_116 : decode cX11_count 116 = .ok (.aload_n 0, 1) := by decide +kernel
theorem dX11_count_117 : decode cX11_count 117 = .ok (.getfield 47, 3) := by decide +kernel
theorem dX11_count_120 : decode cX11_count 120 = .ok (.getfield 239, 3) := by decide +kernel
theorem dX11_count_123 : decode cX11_count 123 = .ok (.ifCond .eq 7, 3) := by decide +kernel
theorem dX11_count_126 : decode cX11_count 126 = .ok (.iconst 1, 1) := by decide +kernel
theorem dX11_count_127 : decode cX11_count 127 = .ok (.goto 4, 3) := by decide +kernel
theorem dX11_count_130 : decode cX11_count 130 = .ok (.iconst 0, 1) := by decide +kernel
theorem dX11_count_131 : decode cX11_count 131 = .ok (.ireturn, 1) := by decide +kernel
theorem dX11_count_132 : decode cX11_count 132 = .ok (.aload_n 0, 1) := by decide +kernel
theorem dX11_count_133 : decode cX11_count 133 = .ok (.getfield 47, 3) := by decide +kernel
theorem dX11_count_136 : decode cX11_count 136 = .ok (.invokevirtual 242, 3) := by decide +kernel
theorem dX11_count_139 : decode cX11_count 139 = .ok (.ireturn, 1) := by decide +kernel
theorem dX11_count_140 : decode cX11_count 140 = .ok (.aload_n 0, 1) := by decide +kernel
theorem dX11_count_141 : decode cX11_count 141 = .ok (.getfield 47, 3) := by decide +kernel
theorem dX11_count_144 : decode cX11_count 144 = .ok (.getfield 245, 3) := by decide +kernel
theorem dX11_count_147 : decode cX11_count 147 = .ok (.getfield 249, 3) := by decide +kernel
theorem dX11_count_150 : decode cX11_count 150 = .ok (.ireturn, 1) := by decide +kernel
theorem dX11_count_151 : decode cX11_count 151 = .ok (.aload_n 0, 1) := by decide +kernel
theorem dX11_count_152 : decode cX11_count 152 = .ok (.getfield 62, 3) := by decide +kernel
theorem dX11_count_155 : decode cX11_count 155 = .ok (.ireturn, 1) := by decide +kernel
theorem dX11_count_156 : decode cX11_count 156 = .ok (.iconst (-1), 1) := by decide +kernel
theorem dX11_count_157 : decode cX11_count 157 = .ok (.ireturn, 1) := by decide +kernel
theorem dX11_hours_0 : decode cX11_hours 0 = .ok (.iload_n 1, 1) := by decide +kernel
theorem dX11_hours_1 : decode cX11_hours 1 = .ok (.iconst 1, 1) := by decide +kernel
theorem dX11_hours_2 : decode cX11_hours 2 = .ok (.sipush 200, 3) := by decide +kernel
theorem dX11_hours_5 : decode cX11_hours 5 = .ok (.invokestatic 254, 3) := by decide +kernel
theorem dX11_hours_8 : decode cX11_hours 8 = .ok (.aload_n 0, 1) := by decide +kernel
theorem dX11_hours_9 : decode cX11_hours 9 = .ok (.invokevirtual 258, 3) := by decide +kernel
theorem dX11_hours_12 : decode cX11_hours 12 = .ok (.iconst 0, 1) := by decide +kernel
theorem dX11_hours_13 : decode cX11_hours 13 = .ok (.istore_n 2, 1) := by decide +kernel
theorem dX11_hours_14 : decode cX11_hours 14 = .ok (.iconst 0, 1) := by decide +kernel
theorem dX11_hours_15 : decode cX11_hours 15 = .ok (.istore_n 3, 1) := by decide +kernel
theorem dX11_hours_16 : decode cX11_hours 16 = .ok (.iload_n 3, 1) := by decide +kernel
theorem dX11_hours_17 : decode cX11_hours 17 = .ok (.iload_n 1, 1) := by decide +kernel
theorem dX11_hours_18 : decode cX11_hours 18 = .ok (.if_icmp .ge 35, 3) := by decide +kernel
theorem dX11_hours_21 : decode cX11_hours 21 = .ok (.iload_n 2, 1) := by decide +kernel
theorem dX11_hours_22 : decode cX11_hours 22 = .ok (.aload_n 0, 1) := by decide +kernel
theorem dX11_hours_23 : decode cX11_hours 23 = .ok (.getfield 47, 3) := by decide +kernel
theorem dX11_hours_26 : decode cX11_hours 26 = .ok (.aload_n 0, 1) := by decide +kernel
theorem dX11_hours_27 : decode cX11_hours 27 = .ok (.getfield 37, 3) := by decide +kernel
theorem dX11_hours_30 : decode cX11_hours 30 = .ok (.iconst (-1), 1) := by decide +kernel
theorem dX11_hours_31 : decode cX11_hours 31 = .ok (.aload_n 0, 1) := by decide +kernel
theorem dX11_hours_32 : decode cX11_hours 32 = .ok (.getfield 68, 3) := by decide +kernel
theorem dX11_hours_35 : decode cX11_hours 35 = .ok (.invokevirtual 261, 3) := by decide +kernel
theorem dX11_hours_38 : decode cX11_hours 38 = .ok (.iadd, 1) := by decide +kernel
theorem dX11_hours_39 : decode cX11_hours 39 = .ok (.istore_n 2, 1) := by decide +kernel
theorem dX11_hours_40 : decode cX11_hours 40 = .ok (.aload_n 0, 1) := by decide +kernel
theorem dX11_hours_41 : decode cX11_hours 41 = .ok (.getfield 47, 3) := by decide +kernel
theorem dX11_hours_44 : decode cX11_hours 44 = .ok (.invokevirtual 265, 3) := by decide +kernel
theorem dX11_hours_47 : decode cX11_hours 47 = .ok (.iinc 3 1, 3) := by decide +kernel
theorem dX11_hours_50 : decode cX11_hours 50 = .ok (.goto (-34), 3) := by decide +kernel
theorem dX11_hours_53 : decode cX11_hours 53 = .ok (.iload_n 2, 1) := by decide +kernel
theorem dX11_hours_54 : decode cX11_hours 54 = .ok (.ireturn, 1) := by decide +kernel
theorem dX11_out_0 : decode cX11_out 0 = .ok (.iload_n 1, 1) := by decide +kernel
theorem dX11_out_1 : decode cX11_out 1 = .ok (.iconst 0, 1) := by decide +kernel
theorem dX11_out_2 : decode cX11_out 2 = .ok (.bipush 99, 2) := by decide +kernel
theorem dX11_out_4 : decode cX11_out 4 = .ok (.invokestatic 254, 3) := by decide +kernel
theorem dX11_out_7 : decode cX11_out 7 = .ok (.aload_n 0, 1) := by decide +kernel
theorem dX11_out_8 : decode cX11_out 8 = .ok (.getfield 47, 3) := by decide +kernel
theorem dX11_out_11 : decode cX11_out 11 = .ok (.getfield 176, 3) := by decide +kernel
theorem dX11_out_14 : decode cX11_out 14 = .ok (.bipush 7, 2) := by decide +kernel
theorem dX11_out_16 : decode cX11_out 16 = .ok (.if_icmp .lt 14, 3) := by decide +kernel
theorem dX11_out_19 : decode cX11_out 19 = .ok (.new 268, 3) := by decide +kernel
theorem dX11_out_22 : decode cX11_out 22 = .ok (.dup, 1) := by decide +kernel
theorem dX11_out_23 : decode cX11_out 23 = .ok (.ldc_w 270, 3) := by decide +kernel
theorem dX11_out_26 : decode cX11_out 26 = .ok (.invokespecial 272, 3) := by decide +kernel
theorem dX11_out_29 : decode cX11_out 29 = .ok (.athrow, 1) := by decide +kernel
theorem dX11_out_30 : decode cX11_out 30 = .ok (.aload_n 0, 1) := by decide +kernel
theorem dX11_out_31 : decode cX11_out 31 = .ok (.invokevirtual 258, 3) := by decide +kernel
theorem dX11_out_34 : decode cX11_out 34 = .ok (.aload_n 0, 1) := by decide +kernel
theorem dX11_out_35 : decode cX11_out 35 = .ok (.getfield 47, 3) := by decide +kernel
theorem dX11_out_38 : decode cX11_out 38 = .ok (.iconst 0, 1) := by decide +kernel
theorem dX11_out_39 : decode cX11_out 39 = .ok (.iload_n 1, 1) := by decide +kernel
theorem dX11_out_40 : decode cX11_out 40 = .ok (.invokevirtual 273, 3) := by decide +kernel
theorem dX11_out_43 : decode cX11_out 43 = .ok (.aload_n 0, 1) := by decide +kernel
theorem dX11_out_44 : decode cX11_out 44 = .ok (.getfield 47, 3) := by decide +kernel
theorem dX11_out_47 : decode cX11_out 47 = .ok (.getfield 176, 3) := by decide +kernel
theorem dX11_out_50 : decode cX11_out 50 = .ok (.iconst 1, 1) := by decide +kernel
theorem dX11_out_51 : decode cX11_out 51 = .ok (.isub, 1) := by decide +kernel
theorem dX11_out_52 : decode cX11_out 52 = .ok (.ireturn, 1) := by decide +kernel
theorem dX11_pace_0 : decode cX11_pace 0 = .ok (.aload_n 0, 1) := by decide +kernel
theorem dX11_pace_1 : decode cX11_pace 1 = .ok (.iload_n 1, 1) := by decide +kernel
theorem dX11_pace_2 : decode cX11_pace 2 = .ok (.invokevirtual 144, 3) := by decide +kernel
theorem dX11_pace_5 : decode cX11_pace 5 = .ok (.iload_n 2, 1) := by decide +kernel
theorem dX11_pace_6 : decode cX11_pace 6 = .ok (.iconst 0, 1) := by decide +kernel
theorem dX11_pace_7 : decode cX11_pace 7 = .ok (.bipush 99, 2) := by decide +kernel
theorem dX11_pace_9 : decode cX11_pace 9 = .ok (.invokestatic 254, 3) := by decide +kernel
theorem dX11_pace_12 : decode cX11_pace 12 = .ok (.aload_n 0, 1) := by decide +kernel
theorem dX11_pace_13 : decode cX11_pace 13 = .ok (.invokevirtual 258, 3) := by decide +kernel
theorem dX11_pace_16 : decode cX11_pace 16 = .ok (.aload_n 0, 1) := by decide +kernel
theorem dX11_pace_17 : decode cX11_pace 17 = .ok (.getfield 47, 3) := by decide +kernel
theorem dX11_pace_20 : decode cX11_pace 20 = .ok (.getfield 150, 3) := by decide +kernel
theorem dX11_pace_23 : decode cX11_pace 23 = .ok (.iload_n 1, 1) := by decide +kernel
theorem dX11_pace_24 : decode cX11_pace 24 = .ok (.iaload, 1) := by decide +kernel
theorem dX11_pace_25 : decode cX11_pace 25 = .ok (.istore_n 3, 1) := by decide +kernel
theorem dX11_pace_26 : decode cX11_pace 26 = .ok (.aload_n 0, 1) := by decide +kernel
theorem dX11_pace_27 : decode cX11_pace 27 = .ok (.getfield 47, 3) := by decide +kernel
theorem dX11_pace_30 : decode cX11_pace 30 = .ok (.getfield 150, 3) := by decide +kernel
theorem dX11_pace_33 : decode cX11_pace 33 = .ok (.iload_n 1, 1) := by decide +kernel
theorem dX11_pace_34 : decode cX11_pace 34 = .ok (.iload_n 2, 1) := by decide +kernel
theorem dX11_pace_35 : decode cX11_pace 35 = .ok (.iastore, 1) := by decide +kernel
theorem dX11_pace_36 : decode cX11_pace 36 = .ok (.iload_n 3, 1) := by decide +kernel
theorem dX11_pace_37 : decode cX11_pace 37 = .ok (.ireturn, 1) := by decide +kernel
theorem dX11_shun_0 : decode cX11_shun 0 = .ok (.aload_n 0, 1) := by decide +kernel
theorem dX11_shun_1 : decode cX11_shun 1 = .ok (.iload_n 1, 1) := by decide +kernel
theorem dX11_shun_2 : decode cX11_shun 2 = .ok (.iload_n 2, 1) := by decide +kernel
theorem dX11_shun_3 : decode cX11_shun 3 = .ok (.invokevirtual 277, 3) := by decide +kernel
theorem dX11_shun_6 : decode cX11_shun 6 = .ok (.aload_n 0, 1) := by decide +kernel
theorem dX11_shun_7 : decode cX11_shun 7 = .ok (.invokevirtual 258, 3) := by decide +kernel
theorem dX11_shun_10 : decode cX11_shun 10 = .ok (.aload_n 0, 1) := by decide +kernel
theorem dX11_shun_11 : decode cX11_shun 11 = .ok (.getfield 47, 3) := by decide +kernel
theorem dX11_shun_14 : decode cX11_shun 14 = .ok (.getfield 153, 3) := by decide +kernel
theorem dX11_shun_17 : decode cX11_shun 17 = .ok (.iload_n 1, 1) := by decide +kernel
theorem dX11_shun_18 : decode cX11_shun 18 = .ok (.iaload, 1) := by decide +kernel
theorem dX11_shun_19 : decode cX11_shun 19 = .ok (.istore 4, 2) := by decide +kernel
theorem dX11_shun_21 : decode cX11_shun 21 = .ok (.aload_n 0, 1) := by decide +kernel
theorem dX11_shun_22 : decode cX11_shun 22 = .ok (.getfield 47, 3) := by decide +kernel
theorem dX11_shun_25 : decode cX11_shun 25 = .ok (.getfield 153, 3) := by decide +kernel
theorem dX11_shun_28 : decode cX11_shun 28 = .ok (.iload_n 1, 1) := by decide +kernel
theorem dX11_shun_29 : decode cX11_shun 29 = .ok (.iload_n 3, 1) := by decide +kernel
theorem dX11_shun_30 : decode cX11_shun 30 = .ok (.ifCond .eq 12, 3) := by decide +kernel
theorem dX11_shun_33 : decode cX11_shun 33 = .ok (.iload 4, 2) := by decide +kernel
theorem dX11_shun_35 : decode cX11_shun 35 = .ok (.iconst 1, 1) := by decide +kernel
theorem dX11_shun_36 : decode cX11_shun 36 = .ok (.iload_n 2, 1) := by decide +kernel
theorem dX11_shun_37 : decode cX11_shun 37 = .ok (.ishl, 1) := by decide +kernel
theorem dX11_shun_38 : decode cX11_shun 38 = .ok (.ior, 1) := by decide +kernel
theorem dX11_shun_39 : decode cX11_shun 39 = .ok (.goto 11, 3) := by decide +kernel
theorem dX11_shun_42 : decode cX11_shun 42 = .ok (.iload 4, 2) := by decide +kernel
theorem dX11_shun_44 : decode cX11_shun 44 = .ok (.iconst 1, 1) := by decide +kernel
theorem dX11_shun_45 : decode cX11_shun 45 = .ok (.iload_n 2, 1) := by decide +kernel
theorem dX11_shun_46 : decode cX11_shun 46 = .ok (.ishl, 1) := by decide +kernel
theorem dX11_shun_47 : decode cX11_shun 47 = .ok (.iconst (-1), 1) := by decide +kernel
theorem dX11_shun_48 : decode cX11_shun 48 = .ok (.ixor, 1) := by decide +kernel
theorem dX11_shun_49 : decode cX11_shun 49 = .ok (.iand, 1) := by decide +kernel
theorem dX11_shun_50 : decode cX11_shun 50 = .ok (.iastore, 1) := by decide +kernel
theorem dX11_shun_51 : decode cX11_shun 51 = .ok (.aload_n 0, 1) := by decide +kernel
theorem dX11_shun_52 : decode cX11_shun 52 = .ok (.getfield 47, 3) := by decide +kernel
theorem dX11_shun_55 : decode cX11_shun 55 = .ok (.getfield 153, 3) := by decide +kernel
theorem dX11_shun_58 : decode cX11_shun 58 = .ok (.iload_n 1, 1) := by decide +kernel
theorem dX11_shun_59 : decode cX11_shun 59 = .ok (.iaload, 1) := by decide +kernel
theorem dX11_shun_60 : decode cX11_shun 60 = .ok (.iload 4, 2) := by decide +kernel
theorem dX11_shun_62 : decode cX11_shun 62 = .ok (.if_icmp .eq 7, 3) := by decide +kernel
theorem dX11_shun_65 : decode cX11_shun 65 = .ok (.iconst 1, 1) := by decide +kernel
theorem dX11_shun_66 : decode cX11_shun 66 = .ok (.goto 4, 3) := by decide +kernel
theorem dX11_shun_69 : decode cX11_shun 69 = .ok (.iconst 0, 1) := by decide +kernel
theorem dX11_shun_70 : decode cX11_shun 70 = .ok (.ireturn, 1) := by decide +kernel
theorem dX11_mourn_0 : decode cX11_mourn 0 = .ok (.aload_n 0, 1) := by decide +kernel
theorem dX11_mourn_1 : decode cX11_mourn 1 = .ok (.iload_n 1, 1) := by decide +kernel
theorem dX11_mourn_2 : decode cX11_mourn 2 = .ok (.invokevirtual 144, 3) := by decide +kernel
theorem dX11_mourn_5 : decode cX11_mourn 5 = .ok (.aload_n 0, 1) := by decide +kernel
theorem dX11_mourn_6 : decode cX11_mourn 6 = .ok (.invokevirtual 258, 3) := by decide +kernel
theorem dX11_mourn_9 : decode cX11_mourn 9 = .ok (.aload_n 0, 1) := by decide +kernel
theorem dX11_mourn_10 : decode cX11_mourn 10 = .ok (.getfield 47, 3) := by decide +kernel
theorem dX11_mourn_13 : decode cX11_mourn 13 = .ok (.getfield 156, 3) := by decide +kernel
theorem dX11_mourn_16 : decode cX11_mourn 16 = .ok (.istore_n 3, 1) := by decide +kernel
theorem dX11_mourn_17 : decode cX11_mourn 17 = .ok (.aload_n 0, 1) := by decide +kernel
theorem dX11_mourn_18 : decode cX11_mourn 18 = .ok (.getfield 47, 3) := by decide +kernel
theorem dX11_mourn_21 : decode cX11_mourn 21 = .ok (.iload_n 2, 1) := by decide +kernel
theorem dX11_mourn_22 : decode cX11_mourn 22 = .ok (.ifCond .eq 11, 3) := by decide +kernel
theorem dX11_mourn_25 : decode cX11_mourn 25 = .ok (.iload_n 3, 1) := by decide +kernel
theorem dX11_mourn_26 : decode cX11_mourn 26 = .ok (.iconst 1, 1) := by decide +kernel
theorem dX11_mourn_27 : decode cX11_mourn 27 = .ok (.iload_n 1, 1) := by decide +kernel
theorem dX11_mourn_28 : decode cX11_mourn 28 = .ok (.ishl, 1) := by decide +kernel
theorem dX11_mourn_29 : decode cX11_mourn 29 = .ok (.ior, 1) := by decide +kernel
theorem dX11_mourn_30 : decode cX11_mourn 30 = .ok (.goto 10, 3) := by decide +kernel
theorem dX11_mourn_33 : decode cX11_mourn 33 = .ok (.iload_n 3, 1) := by decide +kernel
theorem dX11_mourn_34 : decode cX11_mourn 34 = .ok (.iconst 1, 1) := by decide +kernel
theorem dX11_mourn_35 : decode cX11_mourn 35 = .ok (.iload_n 1, 1) := by decide +kernel
theorem dX11_mourn_36 : decode cX11_mourn 36 = .ok (.ishl, 1) := by decide +kernel
theorem dX11_mourn_37 : decode cX11_mourn 37 = .ok (.iconst (-1), 1) := by decide +kernel
theorem dX11_mourn_38 : decode cX11_mourn 38 = .ok (.ixor, 1) := by decide +kernel
theorem dX11_mourn_39 : decode cX11_mourn 39 = .ok (.iand, 1) := by decide +kernel
theorem dX11_mourn_40 : decode cX11_mourn 40 = .ok (.putfield 156, 3) := by decide +kernel
theorem dX11_mourn_43 : decode cX11_mourn 43 = .ok (.aload_n 0, 1) := by decide +kernel
theorem dX11_mourn_44 : decode cX11_mourn 44 = .ok (.getfield 47, 3) := by decide +kernel
theorem dX11_mourn_47 : decode cX11_mourn 47 = .ok (.getfield 156, 3) := by decide +kernel
theorem dX11_mourn_50 : decode cX11_mourn 50 = .ok (.iload_n 3, 1) := by decide +kernel
theorem dX11_mourn_51 : decode cX11_mourn 51 = .ok (.if_icmp .eq 7, 3) := by decide +kernel
theorem dX11_mourn_54 : decode cX11_mourn 54 = .ok (.iconst 1, 1) := by decide +kernel
theorem dX11_mourn_55 : decode cX11_mourn 55 = .ok (.goto 4, 3) := by decide +kernel
theorem dX11_mourn_58 : decode cX11_mourn 58 = .ok (.iconst 0, 1) := by decide +kernel
theorem dX11_mourn_59 : decode cX11_mourn 59 = .ok (.ireturn, 1) := by decide +kernel
theorem dX11_move_0 : decode cX11_move 0 = .ok (.aload_n 0, 1) := by decide +kernel
theorem dX11_move_1 : decode cX11_move 1 = .ok (.iload_n 1, 1) := by decide +kernel
theorem dX11_move_2 : decode cX11_move 2 = .ok (.invokevirtual 207, 3) := by decide +kernel
theorem dX11_move_5 : decode cX11_move 5 = .ok (.aload_n 0, 1) := by decide +kernel
theorem dX11_move_6 : decode cX11_move 6 = .ok (.iload_n 2, 1) := by decide +kernel
theorem dX11_move_7 : decode cX11_move 7 = .ok (.invokevirtual 221, 3) := by decide +kernel
theorem dX11_move_10 : decode cX11_move 10 = .ok (.aload_n 0, 1) := by decide +kernel
theorem dX11_move_11 : decode cX11_move 11 = .ok (.invokevirtual 258, 3) := by decide +kernel
theorem dX11_move_14 : decode cX11_move 14 = .ok (.aload_n 0, 1) := by decide +kernel
theorem dX11_move_15 : decode cX11_move 15 = .ok (.getfield 47, 3) := by decide +kernel
theorem dX11_move_18 : decode cX11_move 18 = .ok (.getfield 210, 3) := by decide +kernel
theorem dX11_move_21 : decode cX11_move 21 = .ok (.iload_n 1, 1) := by decide +kernel
theorem dX11_move_22 : decode cX11_move 22 = .ok (.iaload, 1) := by decide +kernel
theorem dX11_move_23 : decode cX11_move 23 = .ok (.istore_n 3, 1) := by decide +kernel
theorem dX11_move_24 : decode cX11_move 24 = .ok (.aload_n 0, 1) := by decide +kernel
theorem dX11_move_25 : decode cX11_move 25 = .ok (.getfield 47, 3) := by decide +kernel
theorem dX11_move_28 : decode cX11_move 28 = .ok (.getfield 210, 3) := by decide +kernel
theorem dX11_move_31 : decode cX11_move 31 = .ok (.iload_n 1, 1) := by decide +kernel
theorem dX11_move_32 : decode cX11_move 32 = .ok (.iload_n 2, 1) := by decide +kernel
theorem dX11_move_33 : decode cX11_move 33 = .ok (.iastore, 1) := by decide +kernel
theorem dX11_move_34 : decode cX11_move 34 = .ok (.iload_n 3, 1) := by decide +kernel
theorem dX11_move_35 : decode cX11_move 35 = .ok (.ireturn, 1) := by decide +kernel
theorem dX11_lad_0 : decode cX11_lad 0 = .ok (.aload_n 0, 1) := by decide +kernel
theorem dX11_lad_1 : decode cX11_lad 1 = .ok (.iload_n 1, 1) := by decide +kernel
theorem dX11_lad_2 : decode cX11_lad 2 = .ok (.invokevirtual 144, 3) := by decide +kernel
theorem dX11_lad_5 : decode cX11_lad 5 = .ok (.aload_n 0, 1) := by decide +kernel
theorem dX11_lad_6 : decode cX11_lad 6 = .ok (.invokevirtual 258, 3) := by decide +kernel
theorem dX11_lad_9 : decode cX11_lad 9 = .ok (.aload_n 0, 1) := by decide +kernel
theorem dX11_lad_10 : decode cX11_lad 10 = .ok (.getfield 47, 3) := by decide +kernel
theorem dX11_lad_13 : decode cX11_lad 13 = .ok (.getfield 150, 3) := by decide +kernel
theorem dX11_lad_16 : decode cX11_lad 16 = .ok (.iload_n 1, 1) := by decide +kernel
theorem dX11_lad_17 : decode cX11_lad 17 = .ok (.aload_n 0, 1) := by decide +kernel
theorem dX11_lad_18 : decode cX11_lad 18 = .ok (.getfield 47, 3) := by decide +kernel
theorem dX11_lad_21 : decode cX11_lad 21 = .ok (.getfield 150, 3) := by decide +kernel
theorem dX11_lad_24 : decode cX11_lad 24 = .ok (.iload_n 1, 1) := by decide +kernel
theorem dX11_lad_25 : decode cX11_lad 25 = .ok (.iaload, 1) := by decide +kernel
theorem dX11_lad_26 : decode cX11_lad 26 = .ok (.bipush 10, 2) := by decide +kernel
theorem dX11_lad_28 : decode cX11_lad 28 = .ok (.iadd, 1) := by decide +kernel
theorem dX11_lad_29 : decode cX11_lad 29 = .ok (.bipush 99, 2) := by decide +kernel
theorem dX11_lad_31 : decode cX11_lad 31 = .ok (.invokestatic 280, 3) := by decide +kernel
theorem dX11_lad_34 : decode cX11_lad 34 = .ok (.iastore, 1) := by decide +kernel
theorem dX11_lad_35 : decode cX11_lad 35 = .ok (.aload_n 0, 1) := by decide +kernel
theorem dX11_lad_36 : decode cX11_lad 36 = .ok (.getfield 47, 3) := by decide +kernel
theorem dX11_lad_39 : decode cX11_lad 39 = .ok (.getfield 150, 3) := by decide +kernel
theorem dX11_lad_42 : decode cX11_lad 42 = .ok (.iload_n 1, 1) := by decide +kernel
theorem dX11_lad_43 : decode cX11_lad 43 = .ok (.iaload, 1) := by decide +kernel
theorem dX11_lad_44 : decode cX11_lad 44 = .ok (.ireturn, 1) := by decide +kernel
theorem dX11_seed_0 : decode cX11_seed 0 = .ok (.aload_n 0, 1) := by decide +kernel
theorem dX11_seed_1 : decode cX11_seed 1 = .ok (.getfield 47, 3) := by decide +kernel
theorem dX11_seed_4 : decode cX11_seed 4 = .ok (.getfield 285, 3) := by decide +kernel
theorem dX11_seed_7 : decode cX11_seed 7 = .ok (.istore_n 2, 1) := by decide +kernel
theorem dX11_seed_8 : decode cX11_seed 8 = .ok (.aload_n 0, 1) := by decide +kernel
theorem dX11_seed_9 : decode cX11_seed 9 = .ok (.getfield 47, 3) := by decide +kernel
theorem dX11_seed_12 : decode cX11_seed 12 = .ok (.iload_n 1, 1) := by decide +kernel
theorem dX11_seed_13 : decode cX11_seed 13 = .ok (.putfield 285, 3) := by decide +kernel
theorem dX11_seed_16 : decode cX11_seed 16 = .ok (.iload_n 2, 1) := by decide +kernel
theorem dX11_seed_17 : decode cX11_seed 17 = .ok (.ireturn, 1) := by decide +kernel
theorem dX11_undo_0 : decode cX11_undo 0 = .ok (.aload_n 0, 1) := by decide +kernel
theorem dX11_undo_1 : decode cX11_undo 1 = .ok (.getfield 62, 3) := by decide +kernel
theorem dX11_undo_4 : decode cX11_undo 4 = .ok (.ifCond .le 15, 3) := by decide +kernel
theorem dX11_undo_7 : decode cX11_undo 7 = .ok (.aload_n 0, 1) := by decide +kernel
theorem dX11_undo_8 : decode cX11_undo 8 = .ok (.getfield 62, 3) := by decide +kernel
theorem dX11_undo_11 : decode cX11_undo 11 = .ok (.aload_n 0, 1) := by decide +kernel
theorem dX11_undo_12 : decode cX11_undo 12 = .ok (.getfield 58, 3) := by decide +kernel
theorem dX11_undo_15 : decode cX11_undo 15 = .ok (.arraylength, 1) := by decide +kernel
theorem dX11_undo_16 : decode cX11_undo 16 = .ok (.if_icmp .le 5, 3) := by decide +kernel
theorem dX11_undo_19 : decode cX11_undo 19 = .ok (.iconst 0, 1) := by decide +kernel
theorem dX11_undo_20 : decode cX11_undo 20 = .ok (.ireturn, 1) := by decide +kernel
theorem dX11_undo_21 : decode cX11_undo 21 = .ok (.aload_n 0, 1) := by decide +kernel
theorem dX11_undo_22 : decode cX11_undo 22 = .ok (.dup, 1) := by decide +kernel
theorem dX11_undo_23 : decode cX11_undo 23 = .ok (.getfield 62, 3) := by decide +kernel
theorem dX11_undo_26 : decode cX11_undo 26 = .ok (.iconst 1, 1) := by decide +kernel
theorem dX11_undo_27 : decode cX11_undo 27 = .ok (.isub, 1) := by decide +kernel
theorem dX11_undo_28 : decode cX11_undo 28 = .ok (.putfield 62, 3) := by decide +kernel
theorem dX11_undo_31 : decode cX11_undo 31 = .ok (.aload_n 0, 1) := by decide +kernel
theorem dX11_undo_32 : decode cX11_undo 32 = .ok (.getfield 47, 3) := by decide +kernel
theorem dX11_undo_35 : decode cX11_undo 35 = .ok (.aload_n 0, 1) := by decide +kernel
theorem dX11_undo_36 : decode cX11_undo 36 = .ok (.getfield 58, 3) := by decide +kernel
theorem dX11_undo_39 : decode cX11_undo 39 = .ok (.aload_n 0, 1) := by decide +kernel
theorem dX11_undo_40 : decode cX11_undo 40 = .ok (.getfield 62, 3) := by decide +kernel
theorem dX11_undo_43 : decode cX11_undo 43 = .ok (.aaload, 1) := by decide +kernel
theorem dX11_undo_44 : decode cX11_undo 44 = .ok (.invokevirtual 106, 3) := by decide +kernel
theorem dX11_undo_47 : decode cX11_undo 47 = .ok (.iconst 1, 1) := by decide +kernel
theorem dX11_undo_48 : decode cX11_undo 48 = .ok (.ireturn, 1) := by decide +kernel
theorem dX11_image_0 : decode cX11_image 0 = .ok (.aload_n 0, 1) := by decide +kernel
theorem dX11_image_1 : decode cX11_image 1 = .ok (.getfield 51, 3) := by decide +kernel
theorem dX11_image_4 : decode cX11_image 4 = .ok (.aload_n 0, 1) := by decide +kernel
theorem dX11_image_5 : decode cX11_image 5 = .ok (.getfield 47, 3) := by decide +kernel
theorem dX11_image_8 : decode cX11_image 8 = .ok (.invokevirtual 106, 3) := by decide +kernel
theorem dX11_image_11 : decode cX11_image 11 = .ok (.aload_n 0, 1) := by decide +kernel
theorem dX11_image_12 : decode cX11_image 12 = .ok (.getfield 41, 3) := by decide +kernel
theorem dX11_image_15 : decode cX11_image 15 = .ok (.aload_n 0, 1) := by decide +kernel
theorem dX11_image_16 : decode cX11_image 16 = .ok (.getfield 37, 3) := by decide +kernel
theorem dX11_image_19 : decode cX11_image 19 = .ok (.invokevirtual 138, 3) := by decide +kernel
theorem dX11_image_22 : decode cX11_image 22 = .ok (.aload_n 0, 1) := by decide +kernel
theorem dX11_image_23 : decode cX11_image 23 = .ok (.iconst 1, 1) := by decide +kernel
theorem dX11_image_24 : decode cX11_image 24 = .ok (.putfield 54, 3) := by decide +kernel
theorem dX11_image_27 : decode cX11_image 27 = .ok (.return_, 1) := by decide +kernel
theorem dX11_back_0 : decode cX11_back 0 = .ok (.aload_n 0, 1) := by decide +kernel
theorem dX11_back_1 : decode cX11_back 1 = .ok (.getfield 54, 3) := by decide +kernel
theorem dX11_back_4 : decode cX11_back 4 = .ok (.ifCond .ne 5, 3) := by decide +kernel
theorem dX11_back_7 : decode cX11_back 7 = .ok (.iconst 0, 1) := by decide +kernel
theorem dX11_back_8 : decode cX11_back 8 = .ok (.ireturn, 1) := by decide +kernel
theorem dX11_back_9 : decode cX11_back 9 = .ok (.aload_n 0, 1) := by decide +kernel
theorem dX11_back_10 : decode cX11_back 10 = .ok (.getfield 47, 3) := by decide +kernel
theorem dX11_back_13 : decode cX11_back 13 = .ok (.aload_n 0, 1) := by decide +kernel
theorem dX11_back_14 : decode cX11_back 14 = .ok (.getfield 51, 3) := by decide +kernel
theorem dX11_back_17 : decode cX11_back 17 = .ok (.invokevirtual 106, 3) := by decide +kernel
theorem dX11_back_20 : decode cX11_back 20 = .ok (.aload_n 0, 1) := by decide +kernel
theorem dX11_back_21 : decode cX11_back 21 = .ok (.getfield 37, 3) := by decide +kernel
theorem dX11_back_24 : decode cX11_back 24 = .ok (.aload_n 0, 1) := by decide +kernel
theorem dX11_back_25 : decode cX11_back 25 = .ok (.getfield 41, 3) := by decide +kernel
theorem dX11_back_28 : decode cX11_back 28 = .ok (.invokevirtual 138, 3) := by decide +kernel
theorem dX11_back_31 : decode cX11_back 31 = .ok (.aload_n 0, 1) := by decide +kernel
theorem dX11_back_32 : decode cX11_back 32 = .ok (.iconst 0, 1) := by decide +kernel
theorem dX11_back_33 : decode cX11_back 33 = .ok (.putfield 62, 3) := by decide +kernel
theorem dX11_back_36 : decode cX11_back 36 = .ok (.iconst 1, 1) := by decide +kernel
theorem dX11_back_37 : decode cX11_back 37 = .ok (.ireturn, 1) := by decide +kernel
theorem dX11_order_0 : decode cX11_order 0 = .ok (.iconst 0, 1) := by decide +kernel
theorem dX11_order_1 : decode cX11_order 1 = .ok (.istore_n 2, 1) := by decide +kernel
theorem dX11_order_2 : decode cX11_order 2 = .ok (.iload_n 2, 1) := by decide +kernel
theorem dX11_order_3 : decode cX11_order 3 = .ok (.aload_n 0, 1) := by decide +kernel
theorem dX11_order_4 : decode cX11_order 4 = .ok (.getfield 47, 3) := by decide +kernel
theorem dX11_order_7 : decode cX11_order 7 = .ok (.getfield 176, 3) := by decide +kernel
theorem dX11_order_10 : decode cX11_order 10 = .ok (.if_icmp .ge 23, 3) := by decide +kernel
theorem dX11_order_13 : decode cX11_order 13 = .ok (.aload_n 0, 1) := by decide +kernel
theorem dX11_order_14 : decode cX11_order 14 = .ok (.getfield 47, 3) := by decide +kernel
theorem dX11_order_17 : decode cX11_order 17 = .ok (.iload_n 2, 1) := by decide +kernel
theorem dX11_order_18 : decode cX11_order 18 = .ok (.invokevirtual 288, 3) := by decide +kernel
theorem dX11_order_21 : decode cX11_order 21 = .ok (.iload_n 1, 1) := by decide +kernel
theorem dX11_order_22 : decode cX11_order 22 = .ok (.if_icmp .ne 5, 3) := by decide +kernel
theorem dX11_order_25 : decode cX11_order 25 = .ok (.iload_n 2, 1) := by decide +kernel
theorem dX11_order_26 : decode cX11_order 26 = .ok (.ireturn, 1) := by decide +kernel
theorem dX11_order_27 : decode cX11_order 27 = .ok (.iinc 2 1, 3) := by decide +kernel
theorem dX11_order_30 : decode cX11_order 30 = .ok (.goto (-28), 3) := by decide +kernel
theorem dX11_order_33 : decode cX11_order 33 = .ok (.iconst (-1), 1) := by decide +kernel
theorem dX11_order_34 : decode cX11_order 34 = .ok (.ireturn, 1) := by decide +kernel
theorem dX11_where_0 : decode cX11_where 0 = .ok (.aload_n 0, 1) := by decide +kernel
theorem dX11_where_1 : decode cX11_where 1 = .ok (.iload_n 1, 1) := by decide +kernel
theorem dX11_where_2 : decode cX11_where 2 = .ok (.invokevirtual 144, 3) := by decide +kernel
theorem dX11_where_5 : decode cX11_where 5 = .ok (.iload_n 2, 1) := by decide +kernel
theorem dX11_where_6 : decode cX11_where 6 = .ok (.iconst 0, 1) := by decide +kernel
theorem dX11_where_7 : decode cX11_where 7 = .ok (.sipush 200, 3) := by decide +kernel
theorem dX11_where_10 : decode cX11_where 10 = .ok (.invokestatic 254, 3) := by decide +kernel
theorem dX11_where_13 : decode cX11_where 13 = .ok (.aload_n 0, 1) := by decide +kernel
theorem dX11_where_14 : decode cX11_where 14 = .ok (.iload_n 2, 1) := by decide +kernel
theorem dX11_where_15 : decode cX11_where 15 = .ok (.invokevirtual 291, 3) := by decide +kernel
theorem dX11_where_18 : decode cX11_where 18 = .ok (.aload_n 0, 1) := by decide +kernel
theorem dX11_where_19 : decode cX11_where 19 = .ok (.getfield 65, 3) := by decide +kernel
theorem dX11_where_22 : decode cX11_where 22 = .ok (.getfield 147, 3) := by decide +kernel
theorem dX11_where_25 : decode cX11_where 25 = .ok (.iload_n 1, 1) := by decide +kernel
theorem dX11_where_26 : decode cX11_where 26 = .ok (.iaload, 1) := by decide +kernel
theorem dX11_where_27 : decode cX11_where 27 = .ok (.ireturn, 1) := by decide +kernel
theorem dX11_laps_0 : decode cX11_laps 0 = .ok (.aload_n 0, 1) := by decide +kernel
theorem dX11_laps_1 : decode cX11_laps 1 = .ok (.iload_n 1, 1) := by decide +kernel
theorem dX11_laps_2 : decode cX11_laps 2 = .ok (.invokevirtual 144, 3) := by decide +kernel
theorem dX11_laps_5 : decode cX11_laps 5 = .ok (.iload_n 2, 1) := by decide +kernel
theorem dX11_laps_6 : decode cX11_laps 6 = .ok (.iconst 0, 1) := by decide +kernel
theorem dX11_laps_7 : decode cX11_laps 7 = .ok (.sipush 200, 3) := by decide +kernel
theorem dX11_laps_10 : decode cX11_laps 10 = .ok (.invokestatic 254, 3) := by decide +kernel
theorem dX11_laps_13 : decode cX11_laps 13 = .ok (.aload_n 0, 1) := by decide +kernel
theorem dX11_laps_14 : decode cX11_laps 14 = .ok (.iload_n 2, 1) := by decide +kernel
theorem dX11_laps_15 : decode cX11_laps 15 = .ok (.invokevirtual 291, 3) := by decide +kernel
theorem dX11_laps_18 : decode cX11_laps 18 = .ok (.aload_n 0, 1) := by decide +kernel
theorem dX11_laps_19 : decode cX11_laps 19 = .ok (.getfield 65, 3) := by decide +kernel
theorem dX11_laps_22 : decode cX11_laps 22 = .ok (.getfield 162, 3) := by decide +kernel
theorem dX11_laps_25 : decode cX11_laps 25 = .ok (.iload_n 1, 1) := by decide +kernel
theorem dX11_laps_26 : decode cX11_laps 26 = .ok (.iaload, 1) := by decide +kernel
theorem dX11_laps_27 : decode cX11_laps 27 = .ok (.ireturn, 1) := by decide +kernel
theorem dX11_up_0 : decode cX11_up 0 = .ok (.aload_n 0, 1) := by decide +kernel
theorem dX11_up_1 : decode cX11_up 1 = .ok (.iload_n 1, 1) := by decide +kernel
theorem dX11_up_2 : decode cX11_up 2 = .ok (.iload_n 2, 1) := by decide +kernel
theorem dX11_up_3 : decode cX11_up 3 = .ok (.invokevirtual 277, 3) := by decide +kernel
theorem dX11_up_6 : decode cX11_up 6 = .ok (.aload_n 0, 1) := by decide +kernel
theorem dX11_up_7 : decode cX11_up 7 = .ok (.invokevirtual 294, 3) := by decide +kernel
theorem dX11_up_10 : decode cX11_up 10 = .ok (.iconst 1, 1) := by decide +kernel
theorem dX11_up_11 : decode cX11_up 11 = .ok (.istore_n 3, 1) := by decide +kernel
theorem dX11_up_12 : decode cX11_up 12 = .ok (.iload_n 3, 1) := by decide +kernel
theorem dX11_up_13 : decode cX11_up 13 = .ok (.sipush 200, 3) := by decide +kernel
theorem dX11_up_16 : decode cX11_up 16 = .ok (.if_icmp .gt 42, 3) := by decide +kernel
theorem dX11_up_19 : decode cX11_up 19 = .ok (.aload_n 0, 1) := by decide +kernel
theorem dX11_up_20 : decode cX11_up 20 = .ok (.getfield 65, 3) := by decide +kernel
theorem dX11_up_23 : decode cX11_up 23 = .ok (.aload_n 0, 1) := by decide +kernel
theorem dX11_up_24 : decode cX11_up 24 = .ok (.getfield 37, 3) := by decide +kernel
theorem dX11_up_27 : decode cX11_up 27 = .ok (.iconst (-1), 1) := by decide +kernel
theorem dX11_up_28 : decode cX11_up 28 = .ok (.aload_n 0, 1) := by decide +kernel
theorem dX11_up_29 : decode cX11_up 29 = .ok (.getfield 68, 3) := by decide +kernel
theorem dX11_up_32 : decode cX11_up 32 = .ok (.invokevirtual 261, 3) := by decide +kernel
theorem dX11_up_35 : decode cX11_up 35 = .ok (.pop, 1) := by decide +kernel
theorem dX11_up_36 : decode cX11_up 36 = .ok (.aload_n 0, 1) := by decide +kernel
theorem dX11_up_37 : decode cX11_up 37 = .ok (.getfield 68, 3) := by decide +kernel
theorem dX11_up_40 : decode cX11_up 40 = .ok (.iload_n 1, 1) := by decide +kernel
theorem dX11_up_41 : decode cX11_up 41 = .ok (.iaload, 1) := by decide +kernel
theorem dX11_up_42 : decode cX11_up 42 = .ok (.iload_n 2, 1) := by decide +kernel
theorem dX11_up_43 : decode cX11_up 43 = .ok (.ishr, 1) := by decide +kernel
theorem dX11_up_44 : decode cX11_up 44 = .ok (.iconst 1, 1) := by decide +kernel
theorem dX11_up_45 : decode cX11_up 45 = .ok (.iand, 1) := by decide +kernel
theorem dX11_up_46 : decode cX11_up 46 = .ok (.iconst 1, 1) := by decide +kernel
theorem dX11_up_47 : decode cX11_up 47 = .ok (.if_icmp .ne 5, 3) := by decide +kernel
theorem dX11_up_50 : decode cX11_up 50 = .ok (.iload_n 3, 1) := by decide +kernel
theorem dX11_up_51 : decode cX11_up 51 = .ok (.ireturn, 1) := by decide +kernel
theorem dX11_up_52 : decode cX11_up 52 = .ok (.iinc 3 1, 3) := by decide +kernel
theorem dX11_up_55 : decode cX11_up 55 = .ok (.goto (-43), 3) := by decide +kernel
theorem dX11_up_58 : decode cX11_up 58 = .ok (.iconst (-1), 1) := by decide +kernel
theorem dX11_up_59 : decode cX11_up 59 = .ok (.ireturn, 1) := by decide +kernel
theorem dX11_circle_0 : decode cX11_circle 0 = .ok (.aload_n 0, 1) := by decide +kernel
theorem dX11_circle_1 : decode cX11_circle 1 = .ok (.iload_n 1, 1) := by decide +kernel
theorem dX11_circle_2 : decode cX11_circle 2 = .ok (.invokevirtual 144, 3) := by decide +kernel
theorem dX11_circle_5 : decode cX11_circle 5 = .ok (.iload_n 2, 1) := by decide +kernel
theorem dX11_circle_6 : decode cX11_circle 6 = .ok (.iconst 0, 1) := by decide +kernel
theorem dX11_circle_7 : decode cX11_circle 7 = .ok (.sipush 200, 3) := by decide +kernel
theorem dX11_circle_10 : decode cX11_circle 10 = .ok (.invokestatic 254, 3) := by decide +kernel
theorem dX11_circle_13 : decode cX11_circle 13 = .ok (.aload_n 0, 1) := by decide +kernel
theorem dX11_circle_14 : decode cX11_circle 14 = .ok (.iload_n 1, 1) := by decide +kernel
theorem dX11_circle_15 : decode cX11_circle 15 = .ok (.iload_n 2, 1) := by decide +kernel
theorem dX11_circle_16 : decode cX11_circle 16 = .ok (.iconst 0, 1) := by decide +kernel
theorem dX11_circle_17 : decode cX11_circle 17 = .ok (.invokevirtual 192, 3) := by decide +kernel
theorem dX11_circle_20 : decode cX11_circle 20 = .ok (.ireturn, 1) := by decide +kernel
theorem dX11_alone_0 : decode cX11_alone 0 = .ok (.aload_n 0, 1) := by decide +kernel
theorem dX11_alone_1 : decode cX11_alone 1 = .ok (.iload_n 1, 1) := by decide +kernel
theorem dX11_alone_2 : decode cX11_alone 2 = .ok (.invokevirtual 144, 3) := by decide +kernel
theorem dX11_alone_5 : decode cX11_alone 5 = .ok (.aload_n 0, 1) := by decide +kernel
theorem dX11_alone_6 : decode cX11_alone 6 = .ok (.iload_n 2, 1) := by decide +kernel
theorem dX11_alone_7 : decode cX11_alone 7 = .ok (.invokevirtual 221, 3) := by decide +kernel
theorem dX11_alone_10 : decode cX11_alone 10 = .ok (.iconst 0, 1) := by decide +kernel
theorem dX11_alone_11 : decode cX11_alone 11 = .ok (.istore_n 3, 1) := by decide +kernel
theorem dX11_alone_12 : decode cX11_alone 12 = .ok (.iload_n 3, 1) := by decide +kernel
theorem dX11_alone_13 : decode cX11_alone 13 = .ok (.sipush 200, 3) := by decide +kernel
theorem dX11_alone_16 : decode cX11_alone 16 = .ok (.if_icmp .gt 24, 3) := by decide +kernel
theorem dX11_alone_19 : decode cX11_alone 19 = .ok (.aload_n 0, 1) := by decide +kernel
theorem dX11_alone_20 : decode cX11_alone 20 = .ok (.getfield 47, 3) := by decide +kernel
theorem dX11_alone_23 : decode cX11_alone 23 = .ok (.iload_n 1, 1) := by decide +kernel
theorem dX11_alone_24 : decode cX11_alone 24 = .ok (.iload_n 3, 1) := by decide +kernel
theorem dX11_alone_25 : decode cX11_alone 25 = .ok (.invokevirtual 297, 3) := by decide +kernel
theorem dX11_alone_28 : decode cX11_alone 28 = .ok (.iload_n 2, 1) := by decide +kernel
theorem dX11_alone_29 : decode cX11_alone 29 = .ok (.if_icmp .ne 5, 3) := by decide +kernel
theorem dX11_alone_32 : decode cX11_alone 32 = .ok (.iload_n 3, 1) := by decide +kernel
theorem dX11_alone_33 : decode cX11_alone 33 = .ok (.ireturn, 1) := by decide +kernel
theorem dX11_alone_34 : decode cX11_alone 34 = .ok (.iinc 3 1, 3) := by decide +kernel
theorem dX11_alone_37 : decode cX11_alone 37 = .ok (.goto (-25), 3) := by decide +kernel
theorem dX11_alone_40 : decode cX11_alone 40 = .ok (.iconst (-1), 1) := by decide +kernel
theorem dX11_alone_41 : decode cX11_alone 41 = .ok (.ireturn, 1) := by decide +kernel
theorem dX11_both_0 : decode cX11_both 0 = .ok (.aload_n 0, 1) := by decide +kernel
theorem dX11_both_1 : decode cX11_both 1 = .ok (.iload_n 1, 1) := by decide +kernel
theorem dX11_both_2 : decode cX11_both 2 = .ok (.iload_n 2, 1) := by decide +kernel
theorem dX11_both_3 : decode cX11_both 3 = .ok (.invokevirtual 277, 3) := by decide +kernel
theorem dX11_both_6 : decode cX11_both 6 = .ok (.iconst 0, 1) := by decide +kernel
theorem dX11_both_7 : decode cX11_both 7 = .ok (.istore_n 3, 1) := by decide +kernel
theorem dX11_both_8 : decode cX11_both 8 = .ok (.iload_n 3, 1) := by decide +kernel
theorem dX11_both_9 : decode cX11_both 9 = .ok (.sipush 200, 3) := by decide +kernel
theorem dX11_both_12 : decode cX11_both 12 = .ok (.if_icmp .gt 32, 3) := by decide +kernel
theorem dX11_both_15 : decode cX11_both 15 = .ok (.aload_n 0, 1) := by decide +kernel
theorem dX11_both_16 : decode cX11_both 16 = .ok (.getfield 47, 3) := by decide +kernel
theorem dX11_both_19 : decode cX11_both 19 = .ok (.iload_n 1, 1) := by decide +kernel
theorem dX11_both_20 : decode cX11_both 20 = .ok (.iload_n 3, 1) := by decide +kernel
theorem dX11_both_21 : decode cX11_both 21 = .ok (.invokevirtual 297, 3) := by decide +kernel
theorem dX11_both_24 : decode cX11_both 24 = .ok (.aload_n 0, 1) := by decide +kernel
theorem dX11_both_25 : decode cX11_both 25 = .ok (.getfield 47, 3) := by decide +kernel
theorem dX11_both_28 : decode cX11_both 28 = .ok (.iload_n 2, 1) := by decide +kernel
theorem dX11_both_29 : decode cX11_both 29 = .ok (.iload_n 3, 1) := by decide +kernel
theorem dX11_both_30 : decode cX11_both 30 = .ok (.invokevirtual 297, 3) := by decide +kernel
theorem dX11_both_33 : decode cX11_both 33 = .ok (.if_icmp .ne 5, 3) := by decide +kernel
theorem dX11_both_36 : decode cX11_both 36 = .ok (.iload_n 3, 1) := by decide +kernel
theorem dX11_both_37 : decode cX11_both 37 = .ok (.ireturn, 1) := by decide +kernel
theorem dX11_both_38 : decode cX11_both 38 = .ok (.iinc 3 1, 3) := by decide +kernel
theorem dX11_both_41 : decode cX11_both 41 = .ok (.goto (-33), 3) := by decide +kernel
theorem dX11_both_44 : decode cX11_both 44 = .ok (.iconst (-1), 1) := by decide +kernel
theorem dX11_both_45 : decode cX11_both 45 = .ok (.ireturn, 1) := by decide +kernel
theorem dX11_period_0 : decode cX11_period 0 = .ok (.aload_n 0, 1) := by decide +kernel
theorem dX11_period_1 : decode cX11_period 1 = .ok (.iload_n 1, 1) := by decide +kernel
theorem dX11_period_2 : decode cX11_period 2 = .ok (.invokevirtual 144, 3) := by decide +kernel
theorem dX11_period_5 : decode cX11_period 5 = .ok (.iconst 1, 1) := by decide +kernel
theorem dX11_period_6 : decode cX11_period 6 = .ok (.istore_n 2, 1) := by decide +kernel
theorem dX11_period_7 : decode cX11_period 7 = .ok (.iload_n 2, 1) := by decide +kernel
theorem dX11_period_8 : decode cX11_period 8 = .ok (.aload_n 0, 1) := by decide +kernel
theorem dX11_period_9 : decode cX11_period 9 = .ok (.getfield 47, 3) := by decide +kernel
theorem dX11_period_12 : decode cX11_period 12 = .ok (.getfield 230, 3) := by decide +kernel
theorem dX11_period_15 : decode cX11_period 15 = .ok (.if_icmp .ge 32, 3) := by decide +kernel
theorem dX11_period_18 : decode cX11_period 18 = .ok (.aload_n 0, 1) := by decide +kernel
theorem dX11_period_19 : decode cX11_period 19 = .ok (.getfield 47, 3) := by decide +kernel
theorem dX11_period_22 : decode cX11_period 22 = .ok (.iload_n 1, 1) := by decide +kernel
theorem dX11_period_23 : decode cX11_period 23 = .ok (.iload_n 2, 1) := by decide +kernel
theorem dX11_period_24 : decode cX11_period 24 = .ok (.invokevirtual 297, 3) := by decide +kernel
theorem dX11_period_27 : decode cX11_period 27 = .ok (.aload_n 0, 1) := by decide +kernel
theorem dX11_period_28 : decode cX11_period 28 = .ok (.getfield 47, 3) := by decide +kernel
theorem dX11_period_31 : decode cX11_period 31 = .ok (.getfield 147, 3) := by decide +kernel
theorem dX11_period_34 : decode cX11_period 34 = .ok (.iload_n 1, 1) := by decide +kernel
theorem dX11_period_35 : decode cX11_period 35 = .ok (.iaload, 1) := by decide +kernel
theorem dX11_period_36 : decode cX11_period 36 = .ok (.if_icmp .ne 5, 3) := by decide +kernel
theorem dX11_period_39 : decode cX11_period 39 = .ok (.iload_n 2, 1) := by decide +kernel
theorem dX11_period_40 : decode cX11_period 40 = .ok (.ireturn, 1) := by decide +kernel
theorem dX11_period_41 : decode cX11_period 41 = .ok (.iinc 2 1, 3) := by decide +kernel
theorem dX11_period_44 : decode cX11_period 44 = .ok (.goto (-37), 3) := by decide +kernel
theorem dX11_period_47 : decode cX11_period 47 = .ok (.aload_n 0, 1) := by decide +kernel
theorem dX11_period_48 : decode cX11_period 48 = .ok (.getfield 47, 3) := by decide +kernel
theorem dX11_period_51 : decode cX11_period 51 = .ok (.getfield 230, 3) := by decide +kernel
theorem dX11_period_54 : decode cX11_period 54 = .ok (.ireturn, 1) := by decide +kernel
theorem dX11_stands_0 : decode cX11_stands 0 = .ok (.aload_n 0, 1) := by decide +kernel
theorem dX11_stands_1 : decode cX11_stands 1 = .ok (.iload_n 1, 1) := by decide +kernel
theorem dX11_stands_2 : decode cX11_stands 2 = .ok (.invokevirtual 144, 3) := by decide +kernel
theorem dX11_stands_5 : decode cX11_stands 5 = .ok (.iload_n 3, 1) := by decide +kernel
theorem dX11_stands_6 : decode cX11_stands 6 = .ok (.iconst 1, 1) := by decide +kernel
theorem dX11_stands_7 : decode cX11_stands 7 = .ok (.bipush 6, 2) := by decide +kernel
theorem dX11_stands_9 : decode cX11_stands 9 = .ok (.invokestatic 254, 3) := by decide +kernel
theorem dX11_stands_12 : decode cX11_stands 12 = .ok (.iload_n 2, 1) := by decide +kernel
theorem dX11_stands_13 : decode cX11_stands 13 = .ok (.aload_n 0, 1) := by decide +kernel
theorem dX11_stands_14 : decode cX11_stands 14 = .ok (.getfield 47, 3) := by decide +kernel
theorem dX11_stands_17 : decode cX11_stands 17 = .ok (.iload_n 1, 1) := by decide +kernel
theorem dX11_stands_18 : decode cX11_stands 18 = .ok (.invokevirtual 189, 3) := by decide +kernel
theorem dX11_stands_21 : decode cX11_stands 21 = .ok (.iand, 1) := by decide +kernel
theorem dX11_stands_22 : decode cX11_stands 22 = .ok (.istore 4, 2) := by decide +kernel
theorem dX11_stands_24 : decode cX11_stands 24 = .ok (.iconst 0, 1) := by decide +kernel
theorem dX11_stands_25 : decode cX11_stands 25 = .ok (.istore 5, 2) := by decide +kernel
theorem dX11_stands_27 : decode cX11_stands 27 = .ok (.iload 5, 2) := by decide +kernel
theorem dX11_stands_29 : decode cX11_stands 29 = .ok (.iload_n 3, 1) := by decide +kernel
theorem dX11_stands_30 : decode cX11_stands 30 = .ok (.if_icmp .gt 52, 3) := by decide +kernel
theorem dX11_stands_33 : decode cX11_stands 33 = .ok (.iconst 0, 1) := by decide +kernel
theorem dX11_stands_34 : decode cX11_stands 34 = .ok (.istore 6, 2) := by decide +kernel
theorem dX11_stands_36 : decode cX11_stands 36 = .ok (.iload 6, 2) := by decide +kernel
theorem dX11_stands_38 : decode cX11_stands 38 = .ok (.iconst 1, 1) := by decide +kernel
theorem dX11_stands_39 : decode cX11_stands 39 = .ok (.iload_n 3, 1) := by decide +kernel
theorem dX11_stands_40 : decode cX11_stands 40 = .ok (.ishl, 1) := by decide +kernel
theorem dX11_stands_41 : decode cX11_stands 41 = .ok (.if_icmp .ge 35, 3) := by decide +kernel
theorem dX11_stands_44 : decode cX11_stands 44 = .ok (.iload 6, 2) := by decide +kernel
theorem dX11_stands_46 : decode cX11_stands 46 = .ok (.invokestatic 300, 3) := by decide +kernel
theorem dX11_stands_49 : decode cX11_stands 49 = .ok (.iload 5, 2) := by decide +kernel
theorem dX11_stands_51 : decode cX11_stands 51 = .ok (.if_icmp .ne 19, 3) := by decide +kernel
theorem dX11_stands_54 : decode cX11_stands 54 = .ok (.aload_n 0, 1) := by decide +kernel
theorem dX11_stands_55 : decode cX11_stands 55 = .ok (.iload_n 1, 1) := by decide +kernel
theorem dX11_stands_56 : decode cX11_stands 56 = .ok (.iload_n 3, 1) := by decide +kernel
theorem dX11_stands_57 : decode cX11_stands 57 = .ok (.iload 6, 2) := by decide +kernel
theorem dX11_stands_59 : decode cX11_stands 59 = .ok (.invokevirtual 192, 3) := by decide +kernel
theorem dX11_stands_62 : decode cX11_stands 62 = .ok (.iload 4, 2) := by decide +kernel
theorem dX11_stands_64 : decode cX11_stands 64 = .ok (.if_icmp .ne 6, 3) := by decide +kernel
theorem dX11_stands_67 : decode cX11_stands 67 = .ok (.iload 6, 2) := by decide +kernel
theorem dX11_stands_69 : decode cX11_stands 69 = .ok (.ireturn, 1) := by decide +kernel
theorem dX11_stands_70 : decode cX11_stands 70 = .ok (.iinc 6 1, 3) := by decide +kernel
theorem dX11_stands_73 : decode cX11_stands 73 = .ok (.goto (-37), 3) := by decide +kernel
theorem dX11_stands_76 : decode cX11_stands 76 = .ok (.iinc 5 1, 3) := by decide +kernel
theorem dX11_stands_79 : decode cX11_stands 79 = .ok (.goto (-52), 3) := by decide +kernel
theorem dX11_stands_82 : decode cX11_stands 82 = .ok (.iconst (-1), 1) := by decide +kernel
theorem dX11_stands_83 : decode cX11_stands 83 = .ok (.ireturn, 1) := by decide +kernel
theorem dX11_backs_0 : decode cX11_backs 0 = .ok (.aload_n 0, 1) := by decide +kernel
theorem dX11_backs_1 : decode cX11_backs 1 = .ok (.invokevirtual 305, 3) := by decide +kernel
theorem dX11_backs_4 : decode cX11_backs 4 = .ok (.aload_n 0, 1) := by decide +kernel
theorem dX11_backs_5 : decode cX11_backs 5 = .ok (.getfield 74, 3) := by decide +kernel
theorem dX11_backs_8 : decode cX11_backs 8 = .ok (.invokevirtual 308, 3) := by decide +kernel
theorem dX11_backs_11 : decode cX11_backs 11 = .ok (.istore_n 2, 1) := by decide +kernel
theorem dX11_backs_12 : decode cX11_backs 12 = .ok (.iload_n 1, 1) := by decide +kernel
theorem dX11_backs_13 : decode cX11_backs 13 = .ok (.iconst (-1), 1) := by decide +kernel
theorem dX11_backs_14 : decode cX11_backs 14 = .ok (.if_icmp .ne 5, 3) := by decide +kernel
theorem dX11_backs_17 : decode cX11_backs 17 = .ok (.iload_n 2, 1) := by decide +kernel
theorem dX11_backs_18 : decode cX11_backs 18 = .ok (.ireturn, 1) := by decide +kernel
theorem dX11_backs_19 : decode cX11_backs 19 = .ok (.iload_n 2, 1) := by decide +kernel
theorem dX11_backs_20 : decode cX11_backs 20 = .ok (.ifCond .ne 7, 3) := by decide +kernel
theorem dX11_backs_23 : decode cX11_backs 23 = .ok (.iconst (-1), 1) := by decide +kernel
theorem dX11_backs_24 : decode cX11_backs 24 = .ok (.goto 11, 3) := by decide +kernel
theorem dX11_backs_27 : decode cX11_backs 27 = .ok (.aload_n 0, 1) := by decide +kernel
theorem dX11_backs_28 : decode cX11_backs 28 = .ok (.getfield 74, 3) := by decide +kernel
theorem dX11_backs_31 : decode cX11_backs 31 = .ok (.iload_n 1, 1) := by decide +kernel
theorem dX11_backs_32 : decode cX11_backs 32 = .ok (.invokevirtual 311, 3) := by decide +kernel
theorem dX11_backs_35 : decode cX11_backs 35 = .ok (.ireturn, 1) := by decide +kernel
theorem dX11_ask_0 : decode cX11_ask 0 = .ok (.aload_n 0, 1) := by decide +kernel
theorem dX11_ask_1 : decode cX11_ask 1 = .ok (.invokevirtual 305, 3) := by decide +kernel
theorem dX11_ask_4 : decode cX11_ask 4 = .ok (.aload_n 0, 1) := by decide +kernel
theorem dX11_ask_5 : decode cX11_ask 5 = .ok (.getfield 74, 3) := by decide +kernel
theorem dX11_ask_8 : decode cX11_ask 8 = .ok (.invokevirtual 314, 3) := by decide +kernel
theorem dX11_ask_11 : decode cX11_ask 11 = .ok (.ireturn, 1) := by decide +kernel
theorem dX11_round_0 : decode cX11_round 0 = .ok (.aload_n 0, 1) := by decide +kernel
theorem dX11_round_1 : decode cX11_round 1 = .ok (.invokevirtual 317, 3) := by decide +kernel
theorem dX11_round_4 : decode cX11_round 4 = .ok (.iload_n 1, 1) := by decide +kernel
theorem dX11_round_5 : decode cX11_round 5 = .ok (.ifCond .eq 13, 3) := by decide +kernel
theorem dX11_round_8 : decode cX11_round 8 = .ok (.aload_n 0, 1) := by decide +kernel
theorem dX11_round_9 : decode cX11_round 9 = .ok (.getfield 81, 3) := by decide +kernel
theorem dX11_round_12 : decode cX11_round 12 = .ok (.invokevirtual 320, 3) := by decide +kernel
theorem dX11_round_15 : decode cX11_round 15 = .ok (.goto 10, 3) := by decide +kernel
theorem dX11_round_18 : decode cX11_round 18 = .ok (.aload_n 0, 1) := by decide +kernel
theorem dX11_round_19 : decode cX11_round 19 = .ok (.getfield 81, 3) := by decide +kernel
theorem dX11_round_22 : decode cX11_round 22 = .ok (.getfield 323, 3) := by decide +kernel
theorem dX11_round_25 : decode cX11_round 25 = .ok (.ireturn, 1) := by decide +kernel
theorem dX11_tries_0 : decode cX11_tries 0 = .ok (.aload_n 0, 1) := by decide +kernel
theorem dX11_tries_1 : decode cX11_tries 1 = .ok (.invokevirtual 317, 3) := by decide +kernel
theorem dX11_tries_4 : decode cX11_tries 4 = .ok (.aload_n 0, 1) := by decide +kernel
theorem dX11_tries_5 : decode cX11_tries 5 = .ok (.getfield 81, 3) := by decide +kernel
theorem dX11_tries_8 : decode cX11_tries 8 = .ok (.invokevirtual 326, 3) := by decide +kernel
theorem dX11_tries_11 : decode cX11_tries 11 = .ok (.ireturn, 1) := by decide +kernel
theorem dX11_calls_0 : decode cX11_calls 0 = .ok (.aload_n 0, 1) := by decide +kernel
theorem dX11_calls_1 : decode cX11_calls 1 = .ok (.iload_n 1, 1) := by decide +kernel
theorem dX11_calls_2 : decode cX11_calls 2 = .ok (.invokevirtual 144, 3) := by decide +kernel
theorem dX11_calls_5 : decode cX11_calls 5 = .ok (.aload_n 0, 1) := by decide +kernel
theorem dX11_calls_6 : decode cX11_calls 6 = .ok (.iload_n 2, 1) := by decide +kernel
theorem dX11_calls_7 : decode cX11_calls 7 = .ok (.invokevirtual 144, 3) := by decide +kernel
theorem dX11_calls_10 : decode cX11_calls 10 = .ok (.iload_n 3, 1) := by decide +kernel
theorem dX11_calls_11 : decode cX11_calls 11 = .ok (.iconst 1, 1) := by decide +kernel
theorem dX11_calls_12 : decode cX11_calls 12 = .ok (.sipush 200, 3) := by decide +kernel
theorem dX11_calls_15 : decode cX11_calls 15 = .ok (.invokestatic 254, 3) := by decide +kernel
theorem dX11_calls_18 : decode cX11_calls 18 = .ok (.iconst 1, 1) := by decide +kernel
theorem dX11_calls_19 : decode cX11_calls 19 = .ok (.iload_n 1, 1) := by decide +kernel
theorem dX11_calls_20 : decode cX11_calls 20 = .ok (.ishl, 1) := by decide +kernel
theorem dX11_calls_21 : decode cX11_calls 21 = .ok (.istore 4, 2) := by decide +kernel
theorem dX11_calls_23 : decode cX11_calls 23 = .ok (.iconst 0, 1) := by decide +kernel
theorem dX11_calls_24 : decode cX11_calls 24 = .ok (.istore 5, 2) := by decide +kernel
theorem dX11_calls_26 : decode cX11_calls 26 = .ok (.iload 5, 2) := by decide +kernel
theorem dX11_calls_28 : decode cX11_calls 28 = .ok (.aload_n 0, 1) := by decide +kernel
theorem dX11_calls_29 : decode cX11_calls 29 = .ok (.getfield 47, 3) := by decide +kernel
theorem dX11_calls_32 : decode cX11_calls 32 = .ok (.getfield 176, 3) := by decide +kernel
theorem dX11_calls_35 : decode cX11_calls 35 = .ok (.if_icmp .ge 34, 3) := by decide +kernel
theorem dX11_calls_38 : decode cX11_calls 38 = .ok (.iload 4, 2) := by decide +kernel
theorem dX11_calls_40 : decode cX11_calls 40 = .ok (.iload_n 2, 1) := by decide +kernel
theorem dX11_calls_41 : decode cX11_calls 41 = .ok (.ishr, 1) := by decide +kernel
theorem dX11_calls_42 : decode cX11_calls 42 = .ok (.iconst 1, 1) := by decide +kernel
theorem dX11_calls_43 : decode cX11_calls 43 = .ok (.iand, 1) := by decide +kernel
theorem dX11_calls_44 : decode cX11_calls 44 = .ok (.iconst 1, 1) := by decide +kernel
theorem dX11_calls_45 : decode cX11_calls 45 = .ok (.if_icmp .ne 6, 3) := by decide +kernel
theorem dX11_calls_48 : decode cX11_calls 48 = .ok (.iload 5, 2) := by decide +kernel
theorem dX11_calls_50 : decode cX11_calls 50 = .ok (.ireturn, 1) := by decide +kernel
theorem dX11_calls_51 : decode cX11_calls 51 = .ok (.aload_n 0, 1) := by decide +kernel
theorem dX11_calls_52 : decode cX11_calls 52 = .ok (.getfield 47, 3) := by decide +kernel
theorem dX11_calls_55 : decode cX11_calls 55 = .ok (.iload 4, 2) := by decide +kernel
theorem dX11_calls_57 : decode cX11_calls 57 = .ok (.iload_n 3, 1) := by decide +kernel
theorem dX11_calls_58 : decode cX11_calls 58 = .ok (.invokevirtual 329, 3) := by decide +kernel
theorem dX11_calls_61 : decode cX11_calls 61 = .ok (.istore 4, 2) := by decide +kernel
theorem dX11_calls_63 : decode cX11_calls 63 = .ok (.iinc 5 1, 3) := by decide +kernel
theorem dX11_calls_66 : decode cX11_calls 66 = .ok (.goto (-40), 3) := by decide +kernel
theorem dX11_calls_69 : decode cX11_calls 69 = .ok (.iconst (-1), 1) := by decide +kernel
theorem dX11_calls_70 : decode cX11_calls 70 = .ok (.ireturn, 1) := by decide +kernel
theorem dX11_told_0 : decode cX11_told 0 = .ok (.aload_n 0, 1) := by decide +kernel
theorem dX11_told_1 : decode cX11_told 1 = .ok (.iload_n 1, 1) := by decide +kernel
theorem dX11_told_2 : decode cX11_told 2 = .ok (.invokevirtual 144, 3) := by decide +kernel
theorem dX11_told_5 : decode cX11_told 5 = .ok (.iload_n 2, 1) := by decide +kernel
theorem dX11_told_6 : decode cX11_told 6 = .ok (.iconst 1, 1) := by decide +kernel
theorem dX11_told_7 : decode cX11_told 7 = .ok (.sipush 200, 3) := by decide +kernel
theorem dX11_told_10 : decode cX11_told 10 = .ok (.invokestatic 254, 3) := by decide +kernel
theorem dX11_told_13 : decode cX11_told 13 = .ok (.iconst 1, 1) := by decide +kernel
theorem dX11_told_14 : decode cX11_told 14 = .ok (.iload_n 1, 1) := by decide +kernel
theorem dX11_told_15 : decode cX11_told 15 = .ok (.ishl, 1) := by decide +kernel
theorem dX11_told_16 : decode cX11_told 16 = .ok (.istore_n 3, 1) := by decide +kernel
theorem dX11_told_17 : decode cX11_told 17 = .ok (.iconst 1, 1) := by decide +kernel
theorem dX11_told_18 : decode cX11_told 18 = .ok (.istore 4, 2) := by decide +kernel
theorem dX11_told_20 : decode cX11_told 20 = .ok (.iload 4, 2) := by decide +kernel
theorem dX11_told_22 : decode cX11_told 22 = .ok (.aload_n 0, 1) := by decide +kernel
theorem dX11_told_23 : decode cX11_told 23 = .ok (.getfield 47, 3) := by decide +kernel
theorem dX11_told_26 : decode cX11_told 26 = .ok (.getfield 176, 3) := by decide +kernel
theorem dX11_told_29 : decode cX11_told 29 = .ok (.if_icmp .ge 19, 3) := by decide +kernel
theorem dX11_told_32 : decode cX11_told 32 = .ok (.aload_n 0, 1) := by decide +kernel
theorem dX11_told_33 : decode cX11_told 33 = .ok (.getfield 47, 3) := by decide +kernel
theorem dX11_told_36 : decode cX11_told 36 = .ok (.iload_n 3, 1) := by decide +kernel
theorem dX11_told_37 : decode cX11_told 37 = .ok (.iload_n 2, 1) := by decide +kernel
theorem dX11_told_38 : decode cX11_told 38 = .ok (.invokevirtual 329, 3) := by decide +kernel
theorem dX11_told_41 : decode cX11_told 41 = .ok (.istore_n 3, 1) := by decide +kernel
theorem dX11_told_42 : decode cX11_told 42 = .ok (.iinc 4 1, 3) := by decide +kernel
theorem dX11_told_45 : decode cX11_told 45 = .ok (.goto (-25), 3) := by decide +kernel
theorem dX11_told_48 : decode cX11_told 48 = .ok (.iload_n 3, 1) := by decide +kernel
theorem dX11_told_49 : decode cX11_told 49 = .ok (.ireturn, 1) := by decide +kernel
theorem dX11_ear_0 : decode cX11_ear 0 = .ok (.aload_n 0, 1) := by decide +kernel
theorem dX11_ear_1 : decode cX11_ear 1 = .ok (.getfield 47, 3) := by decide +kernel
theorem dX11_ear_4 : decode cX11_ear 4 = .ok (.getfield 176, 3) := by decide +kernel
theorem dX11_ear_7 : decode cX11_ear 7 = .ok (.ifCond .ne 7, 3) := by decide +kernel
theorem dX11_ear_10 : decode cX11_ear 10 = .ok (.iconst (-1), 1) := by decide +kernel
theorem dX11_ear_11 : decode cX11_ear 11 = .ok (.goto 4, 3) := by decide +kernel
theorem dX11_ear_14 : decode cX11_ear 14 = .ok (.iconst 1, 1) := by decide +kernel
theorem dX11_ear_15 : decode cX11_ear 15 = .ok (.istore_n 1, 1) := by decide +kernel
theorem dX11_ear_16 : decode cX11_ear 16 = .ok (.iconst 0, 1) := by decide +kernel
theorem dX11_ear_17 : decode cX11_ear 17 = .ok (.istore_n 2, 1) := by decide +kernel
theorem dX11_ear_18 : decode cX11_ear 18 = .ok (.iload_n 2, 1) := by decide +kernel
theorem dX11_ear_19 : decode cX11_ear 19 = .ok (.aload_n 0, 1) := by decide +kernel
theorem dX11_ear_20 : decode cX11_ear 20 = .ok (.getfield 47, 3) := by decide +kernel
theorem dX11_ear_23 : decode cX11_ear 23 = .ok (.getfield 176, 3) := by decide +kernel
theorem dX11_ear_26 : decode cX11_ear 26 = .ok (.if_icmp .ge 22, 3) := by decide +kernel
theorem dX11_ear_29 : decode cX11_ear 29 = .ok (.iload_n 1, 1) := by decide +kernel
theorem dX11_ear_30 : decode cX11_ear 30 = .ok (.aload_n 0, 1) := by decide +kernel
theorem dX11_ear_31 : decode cX11_ear 31 = .ok (.getfield 47, 3) := by decide +kernel
theorem dX11_ear_34 : decode cX11_ear 34 = .ok (.iload_n 2, 1) := by decide +kernel
theorem dX11_ear_35 : decode cX11_ear 35 = .ok (.invokevirtual 332, 3) := by decide +kernel
theorem dX11_ear_38 : decode cX11_ear 38 = .ok (.invokestatic 335, 3) := by decide +kernel
theorem dX11_ear_41 : decode cX11_ear 41 = .ok (.istore_n 1, 1) := by decide +kernel
theorem dX11_ear_42 : decode cX11_ear 42 = .ok (.iinc 2 1, 3) := by decide +kernel
theorem dX11_ear_45 : decode cX11_ear 45 = .ok (.goto (-27), 3) := by decide +kernel
theorem dX11_ear_48 : decode cX11_ear 48 = .ok (.iload_n 1, 1) := by decide +kernel
theorem dX11_ear_49 : decode cX11_ear 49 = .ok (.ireturn, 1) := by decide +kernel
theorem dX11_farthest_0 : decode cX11_farthest 0 = .ok (.iconst (-1), 1) := by decide +kernel
theorem dX11_farthest_1 : decode cX11_farthest 1 = .ok (.istore_n 1, 1) := by decide +kernel
theorem dX11_farthest_2 : decode cX11_farthest 2 = .ok (.iconst (-1), 1) := by decide +kernel
theorem dX11_farthest_3 : decode cX11_farthest 3 = .ok (.istore_n 2, 1) := by decide +kernel
theorem dX11_farthest_4 : decode cX11_farthest 4 = .ok (.iconst 0, 1) := by decide +kernel
theorem dX11_farthest_5 : decode cX11_farthest 5 = .ok (.istore_n 3, 1) := by decide +kernel
theorem dX11_farthest_6 : decode cX11_farthest 6 = .ok (.iload_n 3, 1) := by decide +kernel
theorem dX11_farthest_7 : decode cX11_farthest 7 = .ok (.aload_n 0, 1) := by decide +kernel
theorem dX11_farthest_8 : decode cX11_farthest 8 = .ok (.getfield 47, 3) := by decide +kernel
theorem dX11_farthest_11 : decode cX11_farthest 11 = .ok (.getfield 176, 3) := by decide +kernel
theorem dX11_farthest_14 : decode cX11_farthest 14 = .ok (.if_icmp .ge 37, 3) := by decide +kernel
theorem dX11_farthest_17 : decode cX11_farthest 17 = .ok (.aload_n 0, 1) := by decide +kernel
theorem dX11_farthest_18 : decode cX11_farthest 18 = .ok (.getfield 47, 3) := by decide +kernel
theorem dX11_farthest_21 : decode cX11_farthest 21 = .ok (.iload_n 3, 1) := by decide +kernel
theorem dX11_farthest_22 : decode cX11_farthest 22 = .ok (.aload_n 0, 1) := by decide +kernel
theorem dX11_farthest_23 : decode cX11_farthest 23 = .ok (.getfield 47, 3) := by decide +kernel
theorem dX11_farthest_26 : decode cX11_farthest 26 = .ok (.invokevirtual 182, 3) := by decide +kernel
theorem dX11_farthest_29 : decode cX11_farthest 29 = .ok (.invokevirtual 185, 3) := by decide +kernel
theorem dX11_farthest_32 : decode cX11_farthest 32 = .ok (.istore 4, 2) := by decide +kernel
theorem dX11_farthest_34 : decode cX11_farthest 34 = .ok (.iload 4, 2) := by decide +kernel
theorem dX11_farthest_36 : decode cX11_farthest 36 = .ok (.iload_n 2, 1) := by decide +kernel
theorem dX11_farthest_37 : decode cX11_farthest 37 = .ok (.if_icmp .le 8, 3) := by decide +kernel
theorem dX11_farthest_40 : decode cX11_farthest 40 = .ok (.iload 4, 2) := by decide +kernel
theorem dX11_farthest_42 : decode cX11_farthest 42 = .ok (.istore_n 2, 1) := by decide +kernel
theorem dX11_farthest_43 : decode cX11_farthest 43 = .ok (.iload_n 3, 1) := by decide +kernel
theorem dX11_farthest_44 : decode cX11_farthest 44 = .ok (.istore_n 1, 1) := by decide +kernel
theorem dX11_farthest_45 : decode cX11_farthest 45 = .ok (.iinc 3 1, 3) := by decide +kernel
theorem dX11_farthest_48 : decode cX11_farthest 48 = .ok (.goto (-42), 3) := by decide +kernel
theorem dX11_farthest_51 : decode cX11_farthest 51 = .ok (.iload_n 1, 1) := by decide +kernel
theorem dX11_farthest_52 : decode cX11_farthest 52 = .ok (.ireturn, 1) := by decide +kernel
theorem dX11_few_0 : decode cX11_few 0 = .ok (.iload_n 1, 1) := by decide +kernel
theorem dX11_few_1 : decode cX11_few 1 = .ok (.iconst 0, 1) := by decide +kernel
theorem dX11_few_2 : decode cX11_few 2 = .ok (.sipush 199, 3) := by decide +kernel
theorem dX11_few_5 : decode cX11_few 5 = .ok (.invokestatic 254, 3) := by decide +kernel
theorem dX11_few_8 : decode cX11_few 8 = .ok (.iconst 0, 1) := by decide +kernel
theorem dX11_few_9 : decode cX11_few 9 = .ok (.istore_n 2, 1) := by decide +kernel
theorem dX11_few_10 : decode cX11_few 10 = .ok (.iload_n 2, 1) := by decide +kernel
theorem dX11_few_11 : decode cX11_few 11 = .ok (.aload_n 0, 1) := by decide +kernel
theorem dX11_few_12 : decode cX11_few 12 = .ok (.getfield 47, 3) := by decide +kernel
theorem dX11_few_15 : decode cX11_few 15 = .ok (.getfield 227, 3) := by decide +kernel
theorem dX11_few_18 : decode cX11_few 18 = .ok (.if_icmp .gt 50, 3) := by decide +kernel
theorem dX11_few_21 : decode cX11_few 21 = .ok (.iconst 0, 1) := by decide +kernel
theorem dX11_few_22 : decode cX11_few 22 = .ok (.istore_n 3, 1) := by decide +kernel
theorem dX11_few_23 : decode cX11_few 23 = .ok (.iload_n 3, 1) := by decide +kernel
theorem dX11_few_24 : decode cX11_few 24 = .ok (.aload_n 0, 1) := by decide +kernel
theorem dX11_few_25 : decode cX11_few 25 = .ok (.getfield 47, 3) := by decide +kernel
theorem dX11_few_28 : decode cX11_few 28 = .ok (.invokevirtual 182, 3) := by decide +kernel
theorem dX11_few_31 : decode cX11_few 31 = .ok (.if_icmp .gt 31, 3) := by decide +kernel
theorem dX11_few_34 : decode cX11_few 34 = .ok (.iload_n 3, 1) := by decide +kernel
theorem dX11_few_35 : decode cX11_few 35 = .ok (.invokestatic 300, 3) := by decide +kernel
theorem dX11_few_38 : decode cX11_few 38 = .ok (.iload_n 2, 1) := by decide +kernel
theorem dX11_few_39 : decode cX11_few 39 = .ok (.if_icmp .ne 17, 3) := by decide +kernel
theorem dX11_few_42 : decode cX11_few 42 = .ok (.aload_n 0, 1) := by decide +kernel
theorem dX11_few_43 : decode cX11_few 43 = .ok (.getfield 47, 3) := by decide +kernel
theorem dX11_few_46 : decode cX11_few 46 = .ok (.iload_n 1, 1) := by decide +kernel
theorem dX11_few_47 : decode cX11_few 47 = .ok (.iload_n 3, 1) := by decide +kernel
theorem dX11_few_48 : decode cX11_few 48 = .ok (.invokevirtual 338, 3) := by decide +kernel
theorem dX11_few_51 : decode cX11_few 51 = .ok (.ifCond .eq 5, 3) := by decide +kernel
theorem dX11_few_54 : decode cX11_few 54 = .ok (.iload_n 3, 1) := by decide +kernel
theorem dX11_few_55 : decode cX11_few 55 = .ok (.ireturn, 1) := by decide +kernel
theorem dX11_few_56 : decode cX11_few 56 = .ok (.iinc 3 1, 3) := by decide +kernel
theorem dX11_few_59 : decode cX11_few 59 = .ok (.goto (-36), 3) := by decide +kernel
theorem dX11_few_62 : decode cX11_few 62 = .ok (.iinc 2 1, 3) := by decide +kernel
theorem dX11_few_65 : decode cX11_few 65 = .ok (.goto (-55), 3) := by decide +kernel
theorem dX11_few_68 : decode cX11_few 68 = .ok (.iconst (-1), 1) := by decide +kernel
theorem dX11_few_69 : decode cX11_few 69 = .ok (.ireturn, 1) := by decide +kernel
theorem dX11_seated_0 : decode cX11_seated 0 = .ok (.iload_n 1, 1) := by decide +kernel
theorem dX11_seated_1 : decode cX11_seated 1 = .ok (.iconst (-1), 1) := by decide +kernel
theorem dX11_seated_2 : decode cX11_seated 2 = .ok (.if_icmp .eq 8, 3) := by decide +kernel
theorem dX11_seated_5 : decode cX11_seated 5 = .ok (.aload_n 0, 1) := by decide +kernel
theorem dX11_seated_6 : decode cX11_seated 6 = .ok (.iload_n 1, 1) := by decide +kernel
theorem dX11_seated_7 : decode cX11_seated 7 = .ok (.invokevirtual 144, 3) := by decide +kernel
theorem dX11_seated_10 : decode cX11_seated 10 = .ok (.aload_n 0, 1) := by decide +kernel
theorem dX11_seated_11 : decode cX11_seated 11 = .ok (.getfield 88, 3) := by decide +kernel
theorem dX11_seated_14 : decode cX11_seated 14 = .ok (.aload_n 0, 1) := by decide +kernel
theorem dX11_seated_15 : decode cX11_seated 15 = .ok (.getfield 47, 3) := by decide +kernel
theorem dX11_seated_18 : decode cX11_seated 18 = .ok (.invokevirtual 342, 3) := by decide +kernel
theorem dX11_seated_21 : decode cX11_seated 21 = .ok (.iload_n 1, 1) := by decide +kernel
theorem dX11_seated_22 : decode cX11_seated 22 = .ok (.iconst (-1), 1) := by decide +kernel
theorem dX11_seated_23 : decode cX11_seated 23 = .ok (.if_icmp .ne 13, 3) := by decide +kernel
theorem dX11_seated_26 : decode cX11_seated 26 = .ok (.aload_n 0, 1) := by decide +kernel
theorem dX11_seated_27 : decode cX11_seated 27 = .ok (.getfield 88, 3) := by decide +kernel
theorem dX11_seated_30 : decode cX11_seated 30 = .ok (.getfield 345, 3) := by decide +kernel
theorem dX11_seated_33 : decode cX11_seated 33 = .ok (.goto 12, 3) := by decide +kernel
theorem dX11_seated_36 : decode cX11_seated 36 = .ok (.aload_n 0, 1) := by decide +kernel
theorem dX11_seated_37 : decode cX11_seated 37 = .ok (.getfield 88, 3) := by decide +kernel
theorem dX11_seated_40 : decode cX11_seated 40 = .ok (.getfield 348, 3) := by decide +kernel
theorem dX11_seated_43 : decode cX11_seated 43 = .ok (.iload_n 1, 1) := by decide +kernel
theorem dX11_seated_44 : decode cX11_seated 44 = .ok (.iaload, 1) := by decide +kernel
theorem dX11_seated_45 : decode cX11_seated 45 = .ok (.ireturn, 1) := by decide +kernel
theorem dX11_swaps_0 : decode cX11_swaps 0 = .ok (.aload_n 0, 1) := by decide +kernel
theorem dX11_swaps_1 : decode cX11_swaps 1 = .ok (.getfield 88, 3) := by decide +kernel
theorem dX11_swaps_4 : decode cX11_swaps 4 = .ok (.aload_n 0, 1) := by decide +kernel
theorem dX11_swaps_5 : decode cX11_swaps 5 = .ok (.getfield 47, 3) := by decide +kernel
theorem dX11_swaps_8 : decode cX11_swaps 8 = .ok (.invokevirtual 342, 3) := by decide +kernel
theorem dX11_swaps_11 : decode cX11_swaps 11 = .ok (.aload_n 0, 1) := by decide +kernel
theorem dX11_swaps_12 : decode cX11_swaps 12 = .ok (.getfield 88, 3) := by decide +kernel
theorem dX11_swaps_15 : decode cX11_swaps 15 = .ok (.aload_n 0, 1) := by decide +kernel
theorem dX11_swaps_16 : decode cX11_swaps 16 = .ok (.getfield 47, 3) := by decide +kernel
theorem dX11_swaps_19 : decode cX11_swaps 19 = .ok (.invokevirtual 351, 3) := by decide +kernel
theorem dX11_swaps_22 : decode cX11_swaps 22 = .ok (.ireturn, 1) := by decide +kernel
theorem dX11_chase_0 : decode cX11_chase 0 = .ok (.iload_n 1, 1) := by decide +kernel
theorem dX11_chase_1 : decode cX11_chase 1 = .ok (.iconst 1, 1) := by decide +kernel
theorem dX11_chase_2 : decode cX11_chase 2 = .ok (.bipush 40, 2) := by decide +kernel
theorem dX11_chase_4 : decode cX11_chase 4 = .ok (.invokestatic 254, 3) := by decide +kernel
theorem dX11_chase_7 : decode cX11_chase 7 = .ok (.iload_n 2, 1) := by decide +kernel
theorem dX11_chase_8 : decode cX11_chase 8 = .ok (.iconst 0, 1) := by decide +kernel
theorem dX11_chase_9 : decode cX11_chase 9 = .ok (.bipush 20, 2) := by decide +kernel
theorem dX11_chase_11 : decode cX11_chase 11 = .ok (.invokestatic 254, 3) := by decide +kernel
theorem dX11_chase_14 : decode cX11_chase 14 = .ok (.iload_n 1, 1) := by decide +kernel
theorem dX11_chase_15 : decode cX11_chase 15 = .ok (.iconst 1, 1) := by decide +kernel
theorem dX11_chase_16 : decode cX11_chase 16 = .ok (.if_icmp .ne 12, 3) := by decide +kernel
theorem dX11_chase_19 : decode cX11_chase 19 = .ok (.iload_n 2, 1) := by decide +kernel
theorem dX11_chase_20 : decode cX11_chase 20 = .ok (.iconst 1, 1) := by decide +kernel
theorem dX11_chase_21 : decode cX11_chase 21 = .ok (.if_icmp .lt 7, 3) := by decide +kernel
theorem dX11_chase_24 : decode cX11_chase 24 = .ok (.iconst 1, 1) := by decide +kernel
theorem dX11_chase_25 : decode cX11_chase 25 = .ok (.goto 4, 3) := by decide +kernel
theorem dX11_chase_28 : decode cX11_chase 28 = .ok (.iconst (-1), 1) := by decide +kernel
theorem dX11_chase_29 : decode cX11_chase 29 = .ok (.ireturn, 1) := by decide +kernel
theorem dX11_couples_0 : decode cX11_couples 0 = .ok (.iload_n 1, 1) := by decide +kernel
theorem dX11_couples_1 : decode cX11_couples 1 = .ok (.iconst (-1), 1) := by decide +kernel
theorem dX11_couples_2 : decode cX11_couples 2 = .ok (.if_icmp .eq 8, 3) := by decide +kernel
theorem dX11_couples_5 : decode cX11_couples 5 = .ok (.aload_n 0, 1) := by decide +kernel
theorem dX11_couples_6 : decode cX11_couples 6 = .ok (.iload_n 1, 1) := by decide +kernel
theorem dX11_couples_7 : decode cX11_couples 7 = .ok (.invokevirtual 144, 3) := by decide +kernel
theorem dX11_couples_10 : decode cX11_couples 10 = .ok (.aload_n 0, 1) := by decide +kernel
theorem dX11_couples_11 : decode cX11_couples 11 = .ok (.getfield 95, 3) := by decide +kernel
theorem dX11_couples_14 : decode cX11_couples 14 = .ok (.aload_n 0, 1) := by decide +kernel
theorem dX11_couples_15 : decode cX11_couples 15 = .ok (.getfield 47, 3) := by decide +kernel
theorem dX11_couples_18 : decode cX11_couples 18 = .ok (.invokevirtual 355, 3) := by decide +kernel
theorem dX11_couples_21 : decode cX11_couples 21 = .ok (.iload_n 1, 1) := by decide +kernel
theorem dX11_couples_22 : decode cX11_couples 22 = .ok (.iconst (-1), 1) := by decide +kernel
theorem dX11_couples_23 : decode cX11_couples 23 = .ok (.if_icmp .ne 13, 3) := by decide +kernel
theorem dX11_couples_26 : decode cX11_couples 26 = .ok (.aload_n 0, 1) := by decide +kernel
theorem dX11_couples_27 : decode cX11_couples 27 = .ok (.getfield 95, 3) := by decide +kernel
theorem dX11_couples_30 : decode cX11_couples 30 = .ok (.getfield 358, 3) := by decide +kernel
theorem dX11_couples_33 : decode cX11_couples 33 = .ok (.goto 12, 3) := by decide +kernel
theorem dX11_couples_36 : decode cX11_couples 36 = .ok (.aload_n 0, 1) := by decide +kernel
theorem dX11_couples_37 : decode cX11_couples 37 = .ok (.getfield 95, 3) := by decide +kernel
theorem dX11_couples_40 : decode cX11_couples 40 = .ok (.getfield 361, 3) := by decide +kernel
theorem dX11_couples_43 : decode cX11_couples 43 = .ok (.iload_n 1, 1) := by decide +kernel
theorem dX11_couples_44 : decode cX11_couples 44 = .ok (.iaload, 1) := by decide +kernel
theorem dX11_couples_45 : decode cX11_couples 45 = .ok (.ireturn, 1) := by decide +kernel
theorem dX11_rests_0 : decode cX11_rests 0 = .ok (.aload_n 0, 1) := by decide +kernel
theorem dX11_rests_1 : decode cX11_rests 1 = .ok (.iload_n 1, 1) := by decide +kernel
theorem dX11_rests_2 : decode cX11_rests 2 = .ok (.iload_n 2, 1) := by decide +kernel
theorem dX11_rests_3 : decode cX11_rests 3 = .ok (.invokevirtual 277, 3) := by decide +kernel
theorem dX11_rests_6 : decode cX11_rests 6 = .ok (.iconst 0, 1) := by decide +kernel
theorem dX11_rests_7 : decode cX11_rests 7 = .ok (.istore_n 3, 1) := by decide +kernel
theorem dX11_rests_8 : decode cX11_rests 8 = .ok (.iconst 0, 1) := by decide +kernel
theorem dX11_rests_9 : decode cX11_rests 9 = .ok (.istore 4, 2) := by decide +kernel
theorem dX11_rests_11 : decode cX11_rests 11 = .ok (.iload 4, 2) := by decide +kernel
theorem dX11_rests_13 : decode cX11_rests 13 = .ok (.iconst 2, 1) := by decide +kernel
theorem dX11_rests_14 : decode cX11_rests 14 = .ok (.if_icmp .ge 118, 3) := by decide +kernel
theorem dX11_rests_17 : decode cX11_rests 17 = .ok (.iconst 0, 1) := by decide +kernel
theorem dX11_rests_18 : decode cX11_rests 18 = .ok (.istore 5, 2) := by decide +kernel
theorem dX11_rests_20 : decode cX11_rests 20 = .ok (.iload 5, 2) := by decide +kernel
theorem dX11_rests_22 : decode cX11_rests 22 = .ok (.iconst 2, 1) := by decide +kernel
theorem dX11_rests_23 : decode cX11_rests 23 = .ok (.if_icmp .ge 103, 3) := by decide +kernel
theorem dX11_rests_26 : decode cX11_rests 26 = .ok (.aload_n 0, 1) := by decide +kernel
theorem dX11_rests_27 : decode cX11_rests 27 = .ok (.getfield 47, 3) := by decide +kernel
theorem dX11_rests_30 : decode cX11_rests 30 = .ok (.iload_n 1, 1) := by decide +kernel
theorem dX11_rests_31 : decode cX11_rests 31 = .ok (.iload 4, 2) := by decide +kernel
theorem dX11_rests_33 : decode cX11_rests 33 = .ok (.iload 5, 2) := by decide +kernel
theorem dX11_rests_35 : decode cX11_rests 35 = .ok (.invokevirtual 364, 3) := by decide +kernel
theorem dX11_rests_38 : decode cX11_rests 38 = .ok (.aload_n 0, 1) := by decide +kernel
theorem dX11_rests_39 : decode cX11_rests 39 = .ok (.getfield 47, 3) := by decide +kernel
theorem dX11_rests_42 : decode cX11_rests 42 = .ok (.iload_n 1, 1) := by decide +kernel
theorem dX11_rests_43 : decode cX11_rests 43 = .ok (.iconst 1, 1) := by decide +kernel
theorem dX11_rests_44 : decode cX11_rests 44 = .ok (.iload 4, 2) := by decide +kernel
theorem dX11_rests_46 : decode cX11_rests 46 = .ok (.isub, 1) := by decide +kernel
theorem dX11_rests_47 : decode cX11_rests 47 = .ok (.iload 5, 2) := by decide +kernel
theorem dX11_rests_49 : decode cX11_rests 49 = .ok (.invokevirtual 364, 3) := by decide +kernel
theorem dX11_rests_52 : decode cX11_rests 52 = .ok (.if_icmp .lt 7, 3) := by decide +kernel
theorem dX11_rests_55 : decode cX11_rests 55 = .ok (.iconst 1, 1) := by decide +kernel
theorem dX11_rests_56 : decode cX11_rests 56 = .ok (.goto 4, 3) := by decide +kernel
theorem dX11_rests_59 : decode cX11_rests 59 = .ok (.iconst 0, 1) := by decide +kernel
theorem dX11_rests_60 : decode cX11_rests 60 = .ok (.istore 6, 2) := by decide +kernel
theorem dX11_rests_62 : decode cX11_rests 62 = .ok (.aload_n 0, 1) := by decide +kernel
theorem dX11_rests_63 : decode cX11_rests 63 = .ok (.getfield 47, 3) := by decide +kernel
theorem dX11_rests_66 : decode cX11_rests 66 = .ok (.iload_n 2, 1) := by decide +kernel
theorem dX11_rests_67 : decode cX11_rests 67 = .ok (.iload 5, 2) := by decide +kernel
theorem dX11_rests_69 : decode cX11_rests 69 = .ok (.iload 4, 2) := by decide +kernel
theorem dX11_rests_71 : decode cX11_rests 71 = .ok (.invokevirtual 364, 3) := by decide +kernel
theorem dX11_rests_74 : decode cX11_rests 74 = .ok (.aload_n 0, 1) := by decide +kernel
theorem dX11_rests_75 : decode cX11_rests 75 = .ok (.getfield 47, 3) := by decide +kernel
theorem dX11_rests_78 : decode cX11_rests 78 = .ok (.iload_n 2, 1) := by decide +kernel
theorem dX11_rests_79 : decode cX11_rests 79 = .ok (.iconst 1, 1) := by decide +kernel
theorem dX11_rests_80 : decode cX11_rests 80 = .ok (.iload 5, 2) := by decide +kernel
theorem dX11_rests_82 : decode cX11_rests 82 = .ok (.isub, 1) := by decide +kernel
theorem dX11_rests_83 : decode cX11_rests 83 = .ok (.iload 4, 2) := by decide +kernel
theorem dX11_rests_85 : decode cX11_rests 85 = .ok (.invokevirtual 364, 3) := by decide +kernel
theorem dX11_rests_88 : decode cX11_rests 88 = .ok (.if_icmp .lt 7, 3) := by decide +kernel
theorem dX11_rests_91 : decode cX11_rests 91 = .ok (.iconst 1, 1) := by decide +kernel
theorem dX11_rests_92 : decode cX11_rests 92 = .ok (.goto 4, 3) := by decide +kernel
theorem dX11_rests_95 : decode cX11_rests 95 = .ok (.iconst 0, 1) := by decide +kernel
theorem dX11_rests_96 : decode cX11_rests 96 = .ok (.istore 7, 2) := by decide +kernel
theorem dX11_rests_98 : decode cX11_rests 98 = .ok (.iload 6, 2) := by decide +kernel
theorem dX11_rests_100 : decode cX11_rests 100 = .ok (.ifCond .eq 20, 3) := by decide +kernel
theorem dX11_rests_103 : decode cX11_rests 103 = .ok (.iload 7, 2) := by decide +kernel
theorem dX11_rests_105 : decode cX11_rests 105 = .ok (.ifCond .eq 15, 3) := by decide +kernel
theorem dX11_rests_108 : decode cX11_rests 108 = .ok (.iload_n 3, 1) := by decide +kernel
theorem dX11_rests_109 : decode cX11_rests 109 = .ok (.iconst 1, 1) := by decide +kernel
theorem dX11_rests_110 : decode cX11_rests 110 = .ok (.iconst 2, 1) := by decide +kernel
theorem dX11_rests_111 : decode cX11_rests 111 = .ok (.iload 4, 2) := by decide +kernel
theorem dX11_rests_113 : decode cX11_rests 113 = .ok (.imul, 1) := by decide +kernel
theorem dX11_rests_114 : decode cX11_rests 114 = .ok (.iload 5, 2) := by decide +kernel
theorem dX11_rests_116 : decode cX11_rests 116 = .ok (.iadd, 1) := by decide +kernel
theorem dX11_rests_117 : decode cX11_rests 117 = .ok (.ishl, 1) := by decide +kernel
theorem dX11_rests_118 : decode cX11_rests 118 = .ok (.ior, 1) := by decide +kernel
theorem dX11_rests_119 : decode cX11_rests 119 = .ok (.istore_n 3, 1) := by decide +kernel
theorem dX11_rests_120 : decode cX11_rests 120 = .ok (.iinc 5 1, 3) := by decide +kernel
theorem dX11_rests_123 : decode cX11_rests 123 = .ok (.goto (-103), 3) := by decide +kernel
theorem dX11_rests_126 : decode cX11_rests 126 = .ok (.iinc 4 1, 3) := by decide +kernel
theorem dX11_rests_129 : decode cX11_rests 129 = .ok (.goto (-118), 3) := by decide +kernel
theorem dX11_rests_132 : decode cX11_rests 132 = .ok (.iload_n 3, 1) := by decide +kernel
theorem dX11_rests_133 : decode cX11_rests 133 = .ok (.ireturn, 1) := by decide +kernel
theorem dX11_odds_0 : decode cX11_odds 0 = .ok (.iload_n 1, 1) := by decide +kernel
theorem dX11_odds_1 : decode cX11_odds 1 = .ok (.iconst 0, 1) := by decide +kernel
theorem dX11_odds_2 : decode cX11_odds 2 = .ok (.iconst 5, 1) := by decide +kernel
theorem dX11_odds_3 : decode cX11_odds 3 = .ok (.invokestatic 254, 3) := by decide +kernel
theorem dX11_odds_6 : decode cX11_odds 6 = .ok (.iload_n 2, 1) := by decide +kernel
theorem dX11_odds_7 : decode cX11_odds 7 = .ok (.iconst 0, 1) := by decide +kernel
theorem dX11_odds_8 : decode cX11_odds 8 = .ok (.iconst 5, 1) := by decide +kernel
theorem dX11_odds_9 : decode cX11_odds 9 = .ok (.invokestatic 254, 3) := by decide +kernel
theorem dX11_odds_12 : decode cX11_odds 12 = .ok (.lconst 1, 1) := by decide +kernel
theorem dX11_odds_13 : decode cX11_odds 13 = .ok (.lstore_n 3, 1) := by decide +kernel
theorem dX11_odds_14 : decode cX11_odds 14 = .ok (.lconst 0, 1) := by decide +kernel
theorem dX11_odds_15 : decode cX11_odds 15 = .ok (.lstore 5, 2) := by decide +kernel
theorem dX11_odds_17 : decode cX11_odds 17 = .ok (.iconst 0, 1) := by decide +kernel
theorem dX11_odds_18 : decode cX11_odds 18 = .ok (.istore 7, 2) := by decide +kernel
theorem dX11_odds_20 : decode cX11_odds 20 = .ok (.iload 7, 2) := by decide +kernel
theorem dX11_odds_22 : decode cX11_odds 22 = .ok (.iload_n 1, 1) := by decide +kernel
theorem dX11_odds_23 : decode cX11_odds 23 = .ok (.if_icmp .gt 66, 3) := by decide +kernel
theorem dX11_odds_26 : decode cX11_odds 26 = .ok (.iload 7, 2) := by decide +kernel
theorem dX11_odds_28 : decode cX11_odds 28 = .ok (.iload_n 2, 1) := by decide +kernel
theorem dX11_odds_29 : decode cX11_odds 29 = .ok (.if_icmp .lt 40, 3) := by decide +kernel
theorem dX11_odds_32 : decode cX11_odds 32 = .ok (.lload 5, 2) := by decide +kernel
theorem dX11_odds_34 : decode cX11_odds 34 = .ok (.lload_n 3, 1) := by decide +kernel
theorem dX11_odds_35 : decode cX11_odds 35 = .ok (.aload_n 0, 1) := by decide +kernel
theorem dX11_odds_36 : decode cX11_odds 36 = .ok (.getfield 47, 3) := by decide +kernel
theorem dX11_odds_39 : decode cX11_odds 39 = .ok (.getfield 367, 3) := by decide +kernel
theorem dX11_odds_42 : decode cX11_odds 42 = .ok (.iload 7, 2) := by decide +kernel
theorem dX11_odds_44 : decode cX11_odds 44 = .ok (.invokestatic 370, 3) := by decide +kernel
theorem dX11_odds_47 : decode cX11_odds 47 = .ok (.lmul, 1) := by decide +kernel
theorem dX11_odds_48 : decode cX11_odds 48 = .ok (.bipush 100, 2) := by decide +kernel
theorem dX11_odds_50 : decode cX11_odds 50 = .ok (.aload_n 0, 1) := by decide +kernel
theorem dX11_odds_51 : decode cX11_odds 51 = .ok (.getfield 47, 3) := by decide +kernel
theorem dX11_odds_54 : decode cX11_odds 54 = .ok (.getfield 367, 3) := by decide +kernel
theorem dX11_odds_57 : decode cX11_odds 57 = .ok (.isub, 1) := by decide +kernel
theorem dX11_odds_58 : decode cX11_odds 58 = .ok (.iload_n 1, 1) := by decide +kernel
theorem dX11_odds_59 : decode cX11_odds 59 = .ok (.iload 7, 2) := by decide +kernel
theorem dX11_odds_61 : decode cX11_odds 61 = .ok (.isub, 1) := by decide +kernel
theorem dX11_odds_62 : decode cX11_odds 62 = .ok (.invokestatic 370, 3) := by decide +kernel
theorem dX11_odds_65 : decode cX11_odds 65 = .ok (.lmul, 1) := by decide +kernel
theorem dX11_odds_66 : decode cX11_odds 66 = .ok (.ladd, 1) := by decide +kernel
theorem dX11_odds_67 : decode cX11_odds 67 = .ok (.lstore 5, 2) := by decide +kernel
theorem dX11_odds_69 : decode cX11_odds 69 = .ok (.lload_n 3, 1) := by decide +kernel
theorem dX11_odds_70 : decode cX11_odds 70 = .ok (.iload_n 1, 1) := by decide +kernel
theorem dX11_odds_71 : decode cX11_odds 71 = .ok (.iload 7, 2) := by decide +kernel
theorem dX11_odds_73 : decode cX11_odds 73 = .ok (.isub, 1) := by decide +kernel
theorem dX11_odds_74 : decode cX11_odds 74 = .ok (.i2l, 1) := by decide +kernel
theorem dX11_odds_75 : decode cX11_odds 75 = .ok (.lmul, 1) := by decide +kernel
theorem dX11_odds_76 : decode cX11_odds 76 = .ok (.iload 7, 2) := by decide +kernel
theorem dX11_odds_78 : decode cX11_odds 78 = .ok (.iconst 1, 1) := by decide +kernel
theorem dX11_odds_79 : decode cX11_odds 79 = .ok (.iadd, 1) := by decide +kernel
theorem dX11_odds_80 : decode cX11_odds 80 = .ok (.i2l, 1) := by decide +kernel
theorem dX11_odds_81 : decode cX11_odds 81 = .ok (.ldiv, 1) := by decide +kernel
theorem dX11_odds_82 : decode cX11_odds 82 = .ok (.lstore_n 3, 1) := by decide +kernel
theorem dX11_odds_83 : decode cX11_odds 83 = .ok (.iinc 7 1, 3) := by decide +kernel
theorem dX11_odds_86 : decode cX11_odds 86 = .ok (.goto (-66), 3) := by decide +kernel
theorem dX11_odds_89 : decode cX11_odds 89 = .ok (.lload 5, 2) := by decide +kernel
theorem dX11_odds_91 : decode cX11_odds 91 = .ok (.ldc2_w 374, 3) := by decide +kernel
theorem dX11_odds_94 : decode cX11_odds 94 = .ok (.lmul, 1) := by decide +kernel
theorem dX11_odds_95 : decode cX11_odds 95 = .ok (.lconst 1, 1) := by decide +kernel
theorem dX11_odds_96 : decode cX11_odds 96 = .ok (.bipush 100, 2) := by decide +kernel
theorem dX11_odds_98 : decode cX11_odds 98 = .ok (.iload_n 1, 1) := by decide +kernel
theorem dX11_odds_99 : decode cX11_odds 99 = .ok (.invokestatic 370, 3) := by decide +kernel
theorem dX11_odds_102 : decode cX11_odds 102 = .ok (.invokestatic 376, 3) := by decide +kernel
theorem dX11_odds_105 : decode cX11_odds 105 = .ok (.ldiv, 1) := by decide +kernel
theorem dX11_odds_106 : decode cX11_odds 106 = .ok (.l2i, 1) := by decide +kernel
theorem dX11_odds_107 : decode cX11_odds 107 = .ok (.ireturn, 1) := by decide +kernel
theorem dX11_black_0 : decode cX11_black 0 = .ok (.aload_n 0, 1) := by decide +kernel
theorem dX11_black_1 : decode cX11_black 1 = .ok (.getfield 47, 3) := by decide +kernel
theorem dX11_black_4 : decode cX11_black 4 = .ok (.getfield 156, 3) := by decide +kernel
theorem dX11_black_7 : decode cX11_black 7 = .ok (.ireturn, 1) := by decide +kernel
theorem dX11_stretch_0 : decode cX11_stretch 0 = .ok (.iconst (-1), 1) := by decide +kernel
theorem dX11_stretch_1 : decode cX11_stretch 1 = .ok (.istore_n 1, 1) := by decide +kernel
theorem dX11_stretch_2 : decode cX11_stretch 2 = .ok (.iconst 0, 1) := by decide +kernel
theorem dX11_stretch_3 : decode cX11_stretch 3 = .ok (.istore_n 2, 1) := by decide +kernel
theorem dX11_stretch_4 : decode cX11_stretch 4 = .ok (.iload_n 2, 1) := by decide +kernel
theorem dX11_stretch_5 : decode cX11_stretch 5 = .ok (.aload_n 0, 1) := by decide +kernel
theorem dX11_stretch_6 : decode cX11_stretch 6 = .ok (.getfield 47, 3) := by decide +kernel
theorem dX11_stretch_9 : decode cX11_stretch 9 = .ok (.getfield 176, 3) := by decide +kernel
theorem dX11_stretch_12 : decode cX11_stretch 12 = .ok (.if_icmp .ge 45, 3) := by decide +kernel
theorem dX11_stretch_15 : decode cX11_stretch 15 = .ok (.aload_n 0, 1) := by decide +kernel
theorem dX11_stretch_16 : decode cX11_stretch 16 = .ok (.getfield 47, 3) := by decide +kernel
theorem dX11_stretch_19 : decode cX11_stretch 19 = .ok (.iload_n 2, 1) := by decide +kernel
theorem dX11_stretch_20 : decode cX11_stretch 20 = .ok (.invokevirtual 379, 3) := by decide +kernel
theorem dX11_stretch_23 : decode cX11_stretch 23 = .ok (.istore_n 3, 1) := by decide +kernel
theorem dX11_stretch_24 : decode cX11_stretch 24 = .ok (.aload_n 0, 1) := by decide +kernel
theorem dX11_stretch_25 : decode cX11_stretch 25 = .ok (.getfield 47, 3) := by decide +kernel
theorem dX11_stretch_28 : decode cX11_stretch 28 = .ok (.getfield 156, 3) := by decide +kernel
theorem dX11_stretch_31 : decode cX11_stretch 31 = .ok (.iload_n 2, 1) := by decide +kernel
theorem dX11_stretch_32 : decode cX11_stretch 32 = .ok (.ishr, 1) := by decide +kernel
theorem dX11_stretch_33 : decode cX11_stretch 33 = .ok (.iconst 1, 1) := by decide +kernel
theorem dX11_stretch_34 : decode cX11_stretch 34 = .ok (.iand, 1) := by decide +kernel
theorem dX11_stretch_35 : decode cX11_stretch 35 = .ok (.iconst 1, 1) := by decide +kernel
theorem dX11_stretch_36 : decode cX11_stretch 36 = .ok (.if_icmp .ne 15, 3) := by decide +kernel
theorem dX11_stretch_39 : decode cX11_stretch 39 = .ok (.iload_n 1, 1) := by decide +kernel
theorem dX11_stretch_40 : decode cX11_stretch 40 = .ok (.iconst (-1), 1) := by decide +kernel
theorem dX11_stretch_41 : decode cX11_stretch 41 = .ok (.if_icmp .eq 8, 3) := by decide +kernel
theorem dX11_stretch_44 : decode cX11_stretch 44 = .ok (.iload_n 3, 1) := by decide +kernel
theorem dX11_stretch_45 : decode cX11_stretch 45 = .ok (.iload_n 1, 1) := by decide +kernel
theorem dX11_stretch_46 : decode cX11_stretch 46 = .ok (.if_icmp .ge 5, 3) := by decide +kernel
theorem dX11_stretch_49 : decode cX11_stretch 49 = .ok (.iload_n 3, 1) := by decide +kernel
theorem dX11_stretch_50 : decode cX11_stretch 50 = .ok (.istore_n 1, 1) := by decide +kernel
theorem dX11_stretch_51 : decode cX11_stretch 51 = .ok (.iinc 2 1, 3) := by decide +kernel
theorem dX11_stretch_54 : decode cX11_stretch 54 = .ok (.goto (-50), 3) := by decide +kernel
theorem dX11_stretch_57 : decode cX11_stretch 57 = .ok (.iconst 0, 1) := by decide +kernel
theorem dX11_stretch_58 : decode cX11_stretch 58 = .ok (.iload_n 1, 1) := by decide +kernel
theorem dX11_stretch_59 : decode cX11_stretch 59 = .ok (.invokestatic 335, 3) := by decide +kernel
theorem dX11_stretch_62 : decode cX11_stretch 62 = .ok (.ireturn, 1) := by decide +kernel
theorem dX11_fastest_0 : decode cX11_fastest 0 = .ok (.iconst (-1), 1) := by decide +kernel
theorem dX11_fastest_1 : decode cX11_fastest 1 = .ok (.istore_n 2, 1) := by decide +kernel
theorem dX11_fastest_2 : decode cX11_fastest 2 = .ok (.iconst 0, 1) := by decide +kernel
theorem dX11_fastest_3 : decode cX11_fastest 3 = .ok (.istore_n 3, 1) := by decide +kernel
theorem dX11_fastest_4 : decode cX11_fastest 4 = .ok (.iconst 0, 1) := by decide +kernel
theorem dX11_fastest_5 : decode cX11_fastest 5 = .ok (.istore 4, 2) := by decide +kernel
theorem dX11_fastest_7 : decode cX11_fastest 7 = .ok (.iload 4, 2) := by decide +kernel
theorem dX11_fastest_9 : decode cX11_fastest 9 = .ok (.aload_n 0, 1) := by decide +kernel
theorem dX11_fastest_10 : decode cX11_fastest 10 = .ok (.getfield 47, 3) := by decide +kernel
theorem dX11_fastest_13 : decode cX11_fastest 13 = .ok (.getfield 176, 3) := by decide +kernel
theorem dX11_fastest_16 : decode cX11_fastest 16 = .ok (.if_icmp .ge 54, 3) := by decide +kernel
theorem dX11_fastest_19 : decode cX11_fastest 19 = .ok (.aload_n 0, 1) := by decide +kernel
theorem dX11_fastest_20 : decode cX11_fastest 20 = .ok (.getfield 37, 3) := by decide +kernel
theorem dX11_fastest_23 : decode cX11_fastest 23 = .ok (.aload_n 0, 1) := by decide +kernel
theorem dX11_fastest_24 : decode cX11_fastest 24 = .ok (.getfield 47, 3) := by decide +kernel
theorem dX11_fastest_27 : decode cX11_fastest 27 = .ok (.iload 4, 2) := by decide +kernel
theorem dX11_fastest_29 : decode cX11_fastest 29 = .ok (.invokevirtual 168, 3) := by decide +kernel
theorem dX11_fastest_32 : decode cX11_fastest 32 = .ok (.istore 5, 2) := by decide +kernel
theorem dX11_fastest_34 : decode cX11_fastest 34 = .ok (.iload_n 2, 1) := by decide +kernel
theorem dX11_fastest_35 : decode cX11_fastest 35 = .ok (.iconst (-1), 1) := by decide +kernel
theorem dX11_fastest_36 : decode cX11_fastest 36 = .ok (.if_icmp .eq 22, 3) := by decide +kernel
theorem dX11_fastest_39 : decode cX11_fastest 39 = .ok (.iload_n 1, 1) := by decide +kernel
theorem dX11_fastest_40 : decode cX11_fastest 40 = .ok (.ifCond .eq 12, 3) := by decide +kernel
theorem dX11_fastest_43 : decode cX11_fastest 43 = .ok (.iload 5, 2) := by decide +kernel
theorem dX11_fastest_45 : decode cX11_fastest 45 = .ok (.iload_n 3, 1) := by decide +kernel
theorem dX11_fastest_46 : decode cX11_fastest 46 = .ok (.if_icmp .le 18, 3) := by decide +kernel
theorem dX11_fastest_49 : decode cX11_fastest 49 = .ok (.goto 9, 3) := by decide +kernel
theorem dX11_fastest_52 : decode cX11_fastest 52 = .ok (.iload 5, 2) := by decide +kernel
theorem dX11_fastest_54 : decode cX11_fastest 54 = .ok (.iload_n 3, 1) := by decide +kernel
theorem dX11_fastest_55 : decode cX11_fastest 55 = .ok (.if_icmp .ge 9, 3) := by decide +kernel
theorem dX11_fastest_58 : decode cX11_fastest 58 = .ok (.iload 5, 2) := by decide +kernel
theorem dX11_fastest_60 : decode cX11_fastest 60 = .ok (.istore_n 3, 1) := by decide +kernel
theorem dX11_fastest_61 : decode cX11_fastest 61 = .ok (.iload 4, 2) := by decide +kernel
theorem dX11_fastest_63 : decode cX11_fastest 63 = .ok (.istore_n 2, 1) := by decide +kernel
theorem dX11_fastest_64 : decode cX11_fastest 64 = .ok (.iinc 4 1, 3) := by decide +kernel
theorem dX11_fastest_67 : decode cX11_fastest 67 = .ok (.goto (-60), 3) := by decide +kernel
theorem dX11_fastest_70 : decode cX11_fastest 70 = .ok (.iload_n 2, 1) := by decide +kernel
theorem dX11_fastest_71 : decode cX11_fastest 71 = .ok (.ireturn, 1) := by decide +kernel
theorem dX11_popular_0 : decode cX11_popular 0 = .ok (.iconst (-1), 1) := by decide +kernel
theorem dX11_popular_1 : decode cX11_popular 1 = .ok (.istore_n 1, 1) := by decide +kernel
theorem dX11_popular_2 : decode cX11_popular 2 = .ok (.iconst (-1), 1) := by decide +kernel
theorem dX11_popular_3 : decode cX11_popular 3 = .ok (.istore_n 2, 1) := by decide +kernel
theorem dX11_popular_4 : decode cX11_popular 4 = .ok (.iconst 0, 1) := by decide +kernel
theorem dX11_popular_5 : decode cX11_popular 5 = .ok (.istore_n 3, 1) := by decide +kernel
theorem dX11_popular_6 : decode cX11_popular 6 = .ok (.iload_n 3, 1) := by decide +kernel
theorem dX11_popular_7 : decode cX11_popular 7 = .ok (.aload_n 0, 1) := by decide +kernel
theorem dX11_popular_8 : decode cX11_popular 8 = .ok (.getfield 47, 3) := by decide +kernel
theorem dX11_popular_11 : decode cX11_popular 11 = .ok (.getfield 176, 3) := by decide +kernel
theorem dX11_popular_14 : decode cX11_popular 14 = .ok (.if_icmp .ge 34, 3) := by decide +kernel
theorem dX11_popular_17 : decode cX11_popular 17 = .ok (.aload_n 0, 1) := by decide +kernel
theorem dX11_popular_18 : decode cX11_popular 18 = .ok (.getfield 47, 3) := by decide +kernel
theorem dX11_popular_21 : decode cX11_popular 21 = .ok (.getfield 165, 3) := by decide +kernel
theorem dX11_popular_24 : decode cX11_popular 24 = .ok (.iload_n 3, 1) := by decide +kernel
theorem dX11_popular_25 : decode cX11_popular 25 = .ok (.iaload, 1) := by decide +kernel
theorem dX11_popular_26 : decode cX11_popular 26 = .ok (.invokestatic 300, 3) := by decide +kernel
theorem dX11_popular_29 : decode cX11_popular 29 = .ok (.istore 4, 2) := by decide +kernel
theorem dX11_popular_31 : decode cX11_popular 31 = .ok (.iload 4, 2) := by decide +kernel
theorem dX11_popular_33 : decode cX11_popular 33 = .ok (.iload_n 2, 1) := by decide +kernel
theorem dX11_popular_34 : decode cX11_popular 34 = .ok (.if_icmp .le 8, 3) := by decide +kernel
theorem dX11_popular_37 : decode cX11_popular 37 = .ok (.iload 4, 2) := by decide +kernel
theorem dX11_popular_39 : decode cX11_popular 39 = .ok (.istore_n 2, 1) := by decide +kernel
theorem dX11_popular_40 : decode cX11_popular 40 = .ok (.iload_n 3, 1) := by decide +kernel
theorem dX11_popular_41 : decode cX11_popular 41 = .ok (.istore_n 1, 1) := by decide +kernel
theorem dX11_popular_42 : decode cX11_popular 42 = .ok (.iinc 3 1, 3) := by decide +kernel
theorem dX11_popular_45 : decode cX11_popular 45 = .ok (.goto (-39), 3) := by decide +kernel
theorem dX11_popular_48 : decode cX11_popular 48 = .ok (.iload_n 1, 1) := by decide +kernel
theorem dX11_popular_49 : decode cX11_popular 49 = .ok (.ireturn, 1) := by decide +kernel
theorem dX11_twins_0 : decode cX11_twins 0 = .ok (.iconst 0, 1) := by decide +kernel
theorem dX11_twins_1 : decode cX11_twins 1 = .ok (.istore_n 1, 1) := by decide +kernel
theorem dX11_twins_2 : decode cX11_twins 2 = .ok (.iconst 0, 1) := by decide +kernel
theorem dX11_twins_3 : decode cX11_twins 3 = .ok (.istore_n 2, 1) := by decide +kernel
theorem dX11_twins_4 : decode cX11_twins 4 = .ok (.iload_n 2, 1) := by decide +kernel
theorem dX11_twins_5 : decode cX11_twins 5 = .ok (.aload_n 0, 1) := by decide +kernel
theorem dX11_twins_6 : decode cX11_twins 6 = .ok (.getfield 47, 3) := by decide +kernel
theorem dX11_twins_9 : decode cX11_twins 9 = .ok (.getfield 176, 3) := by decide +kernel
theorem dX11_twins_12 : decode cX11_twins 12 = .ok (.if_icmp .ge 75, 3) := by decide +kernel
theorem dX11_twins_15 : decode cX11_twins 15 = .ok (.iload_n 2, 1) := by decide +kernel
theorem dX11_twins_16 : decode cX11_twins 16 = .ok (.iconst 1, 1) := by decide +kernel
theorem dX11_twins_17 : decode cX11_twins 17 = .ok (.iadd, 1) := by decide +kernel
theorem dX11_twins_18 : decode cX11_twins 18 = .ok (.istore_n 3, 1) := by decide +kernel
theorem dX11_twins_19 : decode cX11_twins 19 = .ok (.iload_n 3, 1) := by decide +kernel
theorem dX11_twins_20 : decode cX11_twins 20 = .ok (.aload_n 0, 1) := by decide +kernel
theorem dX11_twins_21 : decode cX11_twins 21 = .ok (.getfield 47, 3) := by decide +kernel
theorem dX11_twins_24 : decode cX11_twins 24 = .ok (.getfield 176, 3) := by decide +kernel
theorem dX11_twins_27 : decode cX11_twins 27 = .ok (.if_icmp .ge 54, 3) := by decide +kernel
theorem dX11_twins_30 : decode cX11_twins 30 = .ok (.aload_n 0, 1) := by decide +kernel
theorem dX11_twins_31 : decode cX11_twins 31 = .ok (.getfield 47, 3) := by decide +kernel
theorem dX11_twins_34 : decode cX11_twins 34 = .ok (.getfield 150, 3) := by decide +kernel
theorem dX11_twins_37 : decode cX11_twins 37 = .ok (.iload_n 2, 1) := by decide +kernel
theorem dX11_twins_38 : decode cX11_twins 38 = .ok (.iaload, 1) := by decide +kernel
theorem dX11_twins_39 : decode cX11_twins 39 = .ok (.aload_n 0, 1) := by decide +kernel
theorem dX11_twins_40 : decode cX11_twins 40 = .ok (.getfield 47, 3) := by decide +kernel
theorem dX11_twins_43 : decode cX11_twins 43 = .ok (.getfield 150, 3) := by decide +kernel
theorem dX11_twins_46 : decode cX11_twins 46 = .ok (.iload_n 3, 1) := by decide +kernel
theorem dX11_twins_47 : decode cX11_twins 47 = .ok (.iaload, 1) := by decide +kernel
theorem dX11_twins_48 : decode cX11_twins 48 = .ok (.if_icmp .ne 27, 3) := by decide +kernel
theorem dX11_twins_51 : decode cX11_twins 51 = .ok (.aload_n 0, 1) := by decide +kernel
theorem dX11_twins_52 : decode cX11_twins 52 = .ok (.getfield 47, 3) := by decide +kernel
theorem dX11_twins_55 : decode cX11_twins 55 = .ok (.getfield 147, 3) := by decide +kernel
theorem dX11_twins_58 : decode cX11_twins 58 = .ok (.iload_n 2, 1) := by decide +kernel
theorem dX11_twins_59 : decode cX11_twins 59 = .ok (.iaload, 1) := by decide +kernel
theorem dX11_twins_60 : decode cX11_twins 60 = .ok (.aload_n 0, 1) := by decide +kernel
theorem dX11_twins_61 : decode cX11_twins 61 = .ok (.getfield 47, 3) := by decide +kernel
theorem dX11_twins_64 : decode cX11_twins 64 = .ok (.getfield 147, 3) := by decide +kernel
theorem dX11_twins_67 : decode cX11_twins 67 = .ok (.iload_n 3, 1) := by decide +kernel
theorem dX11_twins_68 : decode cX11_twins 68 = .ok (.iaload, 1) := by decide +kernel
theorem dX11_twins_69 : decode cX11_twins 69 = .ok (.if_icmp .ne 6, 3) := by decide +kernel
theorem dX11_twins_72 : decode cX11_twins 72 = .ok (.iinc 1 1, 3) := by decide +kernel
theorem dX11_twins_75 : decode cX11_twins 75 = .ok (.iinc 3 1, 3) := by decide +kernel
theorem dX11_twins_78 : decode cX11_twins 78 = .ok (.goto (-59), 3) := by decide +kernel
theorem dX11_twins_81 : decode cX11_twins 81 = .ok (.iinc 2 1, 3) := by decide +kernel
theorem dX11_twins_84 : decode cX11_twins 84 = .ok (.goto (-80), 3) := by decide +kernel
theorem dX11_twins_87 : decode cX11_twins 87 = .ok (.iload_n 1, 1) := by decide +kernel
theorem dX11_twins_88 : decode cX11_twins 88 = .ok (.ireturn, 1) := by decide +kernel
theorem dX11_bunch_0 : decode cX11_bunch 0 = .ok (.iload_n 1, 1) := by decide +kernel
theorem dX11_bunch_1 : decode cX11_bunch 1 = .ok (.iconst 0, 1) := by decide +kernel
theorem dX11_bunch_2 : decode cX11_bunch 2 = .ok (.sipush 199, 3) := by decide +kernel
theorem dX11_bunch_5 : decode cX11_bunch 5 = .ok (.invokestatic 254, 3) := by decide +kernel
theorem dX11_bunch_8 : decode cX11_bunch 8 = .ok (.iconst 0, 1) := by decide +kernel
theorem dX11_bunch_9 : decode cX11_bunch 9 = .ok (.istore_n 2, 1) := by decide +kernel
theorem dX11_bunch_10 : decode cX11_bunch 10 = .ok (.iconst 0, 1) := by decide +kernel
theorem dX11_bunch_11 : decode cX11_bunch 11 = .ok (.istore_n 3, 1) := by decide +kernel
theorem dX11_bunch_12 : decode cX11_bunch 12 = .ok (.iload_n 3, 1) := by decide +kernel
theorem dX11_bunch_13 : decode cX11_bunch 13 = .ok (.aload_n 0, 1) := by decide +kernel
theorem dX11_bunch_14 : decode cX11_bunch 14 = .ok (.getfield 47, 3) := by decide +kernel
theorem dX11_bunch_17 : decode cX11_bunch 17 = .ok (.getfield 176, 3) := by decide +kernel
theorem dX11_bunch_20 : decode cX11_bunch 20 = .ok (.if_icmp .ge 28, 3) := by decide +kernel
theorem dX11_bunch_23 : decode cX11_bunch 23 = .ok (.iload_n 2, 1) := by decide +kernel
theorem dX11_bunch_24 : decode cX11_bunch 24 = .ok (.aload_n 0, 1) := by decide +kernel
theorem dX11_bunch_25 : decode cX11_bunch 25 = .ok (.getfield 47, 3) := by decide +kernel
theorem dX11_bunch_28 : decode cX11_bunch 28 = .ok (.iconst 1, 1) := by decide +kernel
theorem dX11_bunch_29 : decode cX11_bunch 29 = .ok (.iload_n 3, 1) := by decide +kernel
theorem dX11_bunch_30 : decode cX11_bunch 30 = .ok (.ishl, 1) := by decide +kernel
theorem dX11_bunch_31 : decode cX11_bunch 31 = .ok (.iload_n 1, 1) := by decide +kernel
theorem dX11_bunch_32 : decode cX11_bunch 32 = .ok (.invokevirtual 329, 3) := by decide +kernel
theorem dX11_bunch_35 : decode cX11_bunch 35 = .ok (.invokestatic 300, 3) := by decide +kernel
theorem dX11_bunch_38 : decode cX11_bunch 38 = .ok (.invokestatic 335, 3) := by decide +kernel
theorem dX11_bunch_41 : decode cX11_bunch 41 = .ok (.istore_n 2, 1) := by decide +kernel
theorem dX11_bunch_42 : decode cX11_bunch 42 = .ok (.iinc 3 1, 3) := by decide +kernel
theorem dX11_bunch_45 : decode cX11_bunch 45 = .ok (.goto (-33), 3) := by decide +kernel
theorem dX11_bunch_48 : decode cX11_bunch 48 = .ok (.iload_n 2, 1) := by decide +kernel
theorem dX11_bunch_49 : decode cX11_bunch 49 = .ok (.ireturn, 1) := by decide +kernel
theorem dX11_trial_0 : decode cX11_trial 0 = .ok (.iload_n 1, 1) := by decide +kernel
theorem dX11_trial_1 : decode cX11_trial 1 = .ok (.iconst 0, 1) := by decide +kernel
theorem dX11_trial_2 : decode cX11_trial 2 = .ok (.sipush 200, 3) := by decide +kernel
theorem dX11_trial_5 : decode cX11_trial 5 = .ok (.invokestatic 254, 3) := by decide +kernel
theorem dX11_trial_8 : decode cX11_trial 8 = .ok (.aload_n 0, 1) := by decide +kernel
theorem dX11_trial_9 : decode cX11_trial 9 = .ok (.iload_n 1, 1) := by decide +kernel
theorem dX11_trial_10 : decode cX11_trial 10 = .ok (.aload_n 0, 1) := by decide +kernel
theorem dX11_trial_11 : decode cX11_trial 11 = .ok (.getfield 47, 3) := by decide +kernel
theorem dX11_trial_14 : decode cX11_trial 14 = .ok (.getfield 285, 3) := by decide +kernel
theorem dX11_trial_17 : decode cX11_trial 17 = .ok (.invokevirtual 382, 3) := by decide +kernel
theorem dX11_trial_20 : decode cX11_trial 20 = .ok (.istore_n 3, 1) := by decide +kernel
theorem dX11_trial_21 : decode cX11_trial 21 = .ok (.iload_n 2, 1) := by decide +kernel
theorem dX11_trial_22 : decode cX11_trial 22 = .ok (.ifCond .eq 7, 3) := by decide +kernel
theorem dX11_trial_25 : decode cX11_trial 25 = .ok (.iload_n 3, 1) := by decide +kernel
theorem dX11_trial_26 : decode cX11_trial 26 = .ok (.goto 10, 3) := by decide +kernel
theorem dX11_trial_29 : decode cX11_trial 29 = .ok (.aload_n 0, 1) := by decide +kernel
theorem dX11_trial_30 : decode cX11_trial 30 = .ok (.getfield 65, 3) := by decide +kernel
theorem dX11_trial_33 : decode cX11_trial 33 = .ok (.invokevirtual 242, 3) := by decide +kernel
theorem dX11_trial_36 : decode cX11_trial 36 = .ok (.ireturn, 1) := by decide +kernel
theorem dX11_span_0 : decode cX11_span 0 = .ok (.iload_n 1, 1) := by decide +kernel
theorem dX11_span_1 : decode cX11_span 1 = .ok (.iconst 0, 1) := by decide +kernel
theorem dX11_span_2 : decode cX11_span 2 = .ok (.sipush 200, 3) := by decide +kernel
theorem dX11_span_5 : decode cX11_span 5 = .ok (.invokestatic 254, 3) := by decide +kernel
theorem dX11_span_8 : decode cX11_span 8 = .ok (.iconst (-1), 1) := by decide +kernel
theorem dX11_span_9 : decode cX11_span 9 = .ok (.istore_n 3, 1) := by decide +kernel
theorem dX11_span_10 : decode cX11_span 10 = .ok (.iconst 1, 1) := by decide +kernel
theorem dX11_span_11 : decode cX11_span 11 = .ok (.istore 4, 2) := by decide +kernel
theorem dX11_span_13 : decode cX11_span 13 = .ok (.iload 4, 2) := by decide +kernel
theorem dX11_span_15 : decode cX11_span 15 = .ok (.bipush 6, 2) := by decide +kernel
theorem dX11_span_17 : decode cX11_span 17 = .ok (.if_icmp .gt 53, 3) := by decide +kernel
theorem dX11_span_20 : decode cX11_span 20 = .ok (.aload_n 0, 1) := by decide +kernel
theorem dX11_span_21 : decode cX11_span 21 = .ok (.iload_n 1, 1) := by decide +kernel
theorem dX11_span_22 : decode cX11_span 22 = .ok (.iload 4, 2) := by decide +kernel
theorem dX11_span_24 : decode cX11_span 24 = .ok (.invokevirtual 382, 3) := by decide +kernel
theorem dX11_span_27 : decode cX11_span 27 = .ok (.pop, 1) := by decide +kernel
theorem dX11_span_28 : decode cX11_span 28 = .ok (.aload_n 0, 1) := by decide +kernel
theorem dX11_span_29 : decode cX11_span 29 = .ok (.getfield 65, 3) := by decide +kernel
theorem dX11_span_32 : decode cX11_span 32 = .ok (.invokevirtual 242, 3) := by decide +kernel
theorem dX11_span_35 : decode cX11_span 35 = .ok (.istore 5, 2) := by decide +kernel
theorem dX11_span_37 : decode cX11_span 37 = .ok (.iload_n 3, 1) := by decide +kernel
theorem dX11_span_38 : decode cX11_span 38 = .ok (.iconst (-1), 1) := by decide +kernel
theorem dX11_span_39 : decode cX11_span 39 = .ok (.if_icmp .eq 22, 3) := by decide +kernel
theorem dX11_span_42 : decode cX11_span 42 = .ok (.iload_n 2, 1) := by decide +kernel
theorem dX11_span_43 : decode cX11_span 43 = .ok (.ifCond .eq 12, 3) := by decide +kernel
theorem dX11_span_46 : decode cX11_span 46 = .ok (.iload 5, 2) := by decide +kernel
theorem dX11_span_48 : decode cX11_span 48 = .ok (.iload_n 3, 1) := by decide +kernel
theorem dX11_span_49 : decode cX11_span 49 = .ok (.if_icmp .le 15, 3) := by decide +kernel
theorem dX11_span_52 : decode cX11_span 52 = .ok (.goto 9, 3) := by decide +kernel
theorem dX11_span_55 : decode cX11_span 55 = .ok (.iload 5, 2) := by decide +kernel
theorem dX11_span_57 : decode cX11_span 57 = .ok (.iload_n 3, 1) := by decide +kernel
theorem dX11_span_58 : decode cX11_span 58 = .ok (.if_icmp .ge 6, 3) := by decide +kernel
theorem dX11_span_61 : decode cX11_span 61 = .ok (.iload 5, 2) := by decide +kernel
theorem dX11_span_63 : decode cX11_span 63 = .ok (.istore_n 3, 1) := by decide +kernel
theorem dX11_span_64 : decode cX11_span 64 = .ok (.iinc 4 1, 3) := by decide +kernel
theorem dX11_span_67 : decode cX11_span 67 = .ok (.goto (-54), 3) := by decide +kernel
theorem dX11_span_70 : decode cX11_span 70 = .ok (.iload_n 3, 1) := by decide +kernel
theorem dX11_span_71 : decode cX11_span 71 = .ok (.ireturn, 1) := by decide +kernel
theorem dX11_led_0 : decode cX11_led 0 = .ok (.aload_n 0, 1) := by decide +kernel
theorem dX11_led_1 : decode cX11_led 1 = .ok (.iload_n 1, 1) := by decide +kernel
theorem dX11_led_2 : decode cX11_led 2 = .ok (.invokevirtual 144, 3) := by decide +kernel
theorem dX11_led_5 : decode cX11_led 5 = .ok (.iconst 0, 1) := by decide +kernel
theorem dX11_led_6 : decode cX11_led 6 = .ok (.istore_n 3, 1) := by decide +kernel
theorem dX11_led_7 : decode cX11_led 7 = .ok (.iconst 0, 1) := by decide +kernel
theorem dX11_led_8 : decode cX11_led 8 = .ok (.istore 4, 2) := by decide +kernel
theorem dX11_led_10 : decode cX11_led 10 = .ok (.iload 4, 2) := by decide +kernel
theorem dX11_led_12 : decode cX11_led 12 = .ok (.aload_n 0, 1) := by decide +kernel
theorem dX11_led_13 : decode cX11_led 13 = .ok (.getfield 47, 3) := by decide +kernel
theorem dX11_led_16 : decode cX11_led 16 = .ok (.getfield 245, 3) := by decide +kernel
theorem dX11_led_19 : decode cX11_led 19 = .ok (.getfield 249, 3) := by decide +kernel
theorem dX11_led_22 : decode cX11_led 22 = .ok (.if_icmp .ge 47, 3) := by decide +kernel
theorem dX11_led_25 : decode cX11_led 25 = .ok (.aload_n 0, 1) := by decide +kernel
theorem dX11_led_26 : decode cX11_led 26 = .ok (.getfield 47, 3) := by decide +kernel
theorem dX11_led_29 : decode cX11_led 29 = .ok (.getfield 245, 3) := by decide +kernel
theorem dX11_led_32 : decode cX11_led 32 = .ok (.iload 4, 2) := by decide +kernel
theorem dX11_led_34 : decode cX11_led 34 = .ok (.iconst 1, 1) := by decide +kernel
theorem dX11_led_35 : decode cX11_led 35 = .ok (.invokevirtual 385, 3) := by decide +kernel
theorem dX11_led_38 : decode cX11_led 38 = .ok (.iload_n 1, 1) := by decide +kernel
theorem dX11_led_39 : decode cX11_led 39 = .ok (.if_icmp .ne 24, 3) := by decide +kernel
theorem dX11_led_42 : decode cX11_led 42 = .ok (.iload_n 2, 1) := by decide +kernel
theorem dX11_led_43 : decode cX11_led 43 = .ok (.ifCond .eq 17, 3) := by decide +kernel
theorem dX11_led_46 : decode cX11_led 46 = .ok (.aload_n 0, 1) := by decide +kernel
theorem dX11_led_47 : decode cX11_led 47 = .ok (.getfield 47, 3) := by decide +kernel
theorem dX11_led_50 : decode cX11_led 50 = .ok (.getfield 245, 3) := by decide +kernel
theorem dX11_led_53 : decode cX11_led 53 = .ok (.iload 4, 2) := by decide +kernel
theorem dX11_led_55 : decode cX11_led 55 = .ok (.iconst 0, 1) := by decide +kernel
theorem dX11_led_56 : decode cX11_led 56 = .ok (.invokevirtual 385, 3) := by decide +kernel
theorem dX11_led_59 : decode cX11_led 59 = .ok (.ireturn, 1) := by decide +kernel
theorem dX11_led_60 : decode cX11_led 60 = .ok (.iinc 3 1, 3) := by decide +kernel
theorem dX11_led_63 : decode cX11_led 63 = .ok (.iinc 4 1, 3) := by decide +kernel
theorem dX11_led_66 : decode cX11_led 66 = .ok (.goto (-56), 3) := by decide +kernel
theorem dX11_led_69 : decode cX11_led 69 = .ok (.iload_n 2, 1) := by decide +kernel
theorem dX11_led_70 : decode cX11_led 70 = .ok (.ifCond .eq 7, 3) := by decide +kernel
theorem dX11_led_73 : decode cX11_led 73 = .ok (.iconst (-1), 1) := by decide +kernel
theorem dX11_led_74 : decode cX11_led 74 = .ok (.goto 4, 3) := by decide +kernel
theorem dX11_led_77 : decode cX11_led 77 = .ok (.iload_n 3, 1) := by decide +kernel
theorem dX11_led_78 : decode cX11_led 78 = .ok (.ireturn, 1) := by decide +kernel
theorem dX11_log_0 : decode cX11_log 0 = .ok (.iload_n 2, 1) := by decide +kernel
theorem dX11_log_1 : decode cX11_log 1 = .ok (.ifCond .lt 8, 3) := by decide +kernel
theorem dX11_log_4 : decode cX11_log 4 = .ok (.iload_n 2, 1) := by decide +kernel
theorem dX11_log_5 : decode cX11_log 5 = .ok (.iconst 3, 1) := by decide +kernel
theorem dX11_log_6 : decode cX11_log 6 = .ok (.if_icmp .le 14, 3) := by decide +kernel
theorem dX11_log_9 : decode cX11_log 9 = .ok (.new 202, 3) := by decide +kernel
theorem dX11_log_12 : decode cX11_log 12 = .ok (.dup, 1) := by decide +kernel
theorem dX11_log_13 : decode cX11_log 13 = .ok (.ldc_w 388, 3) := by decide +kernel
theorem dX11_log_16 : decode cX11_log 16 = .ok (.invokespecial 206, 3) := by decide +kernel
theorem dX11_log_19 : decode cX11_log 19 = .ok (.athrow, 1) := by decide +kernel
theorem dX11_log_20 : decode cX11_log 20 = .ok (.aload_n 0, 1) := by decide +kernel
theorem dX11_log_21 : decode cX11_log 21 = .ok (.getfield 47, 3) := by decide +kernel
theorem dX11_log_24 : decode cX11_log 24 = .ok (.getfield 245, 3) := by decide +kernel
theorem dX11_log_27 : decode cX11_log 27 = .ok (.iload_n 1, 1) := by decide +kernel
theorem dX11_log_28 : decode cX11_log 28 = .ok (.iload_n 2, 1) := by decide +kernel
theorem dX11_log_29 : decode cX11_log 29 = .ok (.invokevirtual 385, 3) := by decide +kernel
theorem dX11_log_32 : decode cX11_log 32 = .ok (.ireturn, 1) := by decide +kernel
theorem dX11_needWalker_0 : decode cX11_needWalker 0 = .ok (.iload_n 1, 1) := by decide +kernel
theorem dX11_needWalker_1 : decode cX11_needWalker 1 = .ok (.ifCond .lt 14, 3) := by decide +kernel
theorem dX11_needWalker_4 : decode cX11_needWalker 4 = .ok (.iload_n 1, 1) := by decide +kernel
theorem dX11_needWalker_5 : decode cX11_needWalker 5 = .ok (.aload_n 0, 1) := by decide +kernel
theorem dX11_needWalker_6 : decode cX11_needWalker 6 = .ok (.getfield 47, 3) := by decide +kernel
theorem dX11_needWalker_9 : decode cX11_needWalker 9 = .ok (.getfield 176, 3) := by decide +kernel
theorem dX11_needWalker_12 : decode cX11_needWalker 12 = .ok (.if_icmp .lt 14, 3) := by decide +kernel
theorem dX11_needWalker_15 : decode cX11_needWalker 15 = .ok (.new 390, 3) := by decide +kernel
theorem dX11_needWalker_18 : decode cX11_needWalker 18 = .ok (.dup, 1) := by decide +kernel
theorem dX11_needWalker_19 : decode cX11_needWalker 19 = .ok (.ldc_w 392, 3) := by decide +kernel
theorem dX11_needWalker_22 : decode cX11_needWalker 22 = .ok (.invokespecial 394, 3) := by decide +kernel
theorem dX11_needWalker_25 : decode cX11_needWalker 25 = .ok (.athrow, 1) := by decide +kernel
theorem dX11_needWalker_26 : decode cX11_needWalker 26 = .ok (.return_, 1) := by decide +kernel
theorem dX11_needTwo_0 : decode cX11_needTwo 0 = .ok (.aload_n 0, 1) := by decide +kernel
theorem dX11_needTwo_1 : decode cX11_needTwo 1 = .ok (.iload_n 1, 1) := by decide +kernel
theorem dX11_needTwo_2 : decode cX11_needTwo 2 = .ok (.invokevirtual 144, 3) := by decide +kernel
theorem dX11_needTwo_5 : decode cX11_needTwo 5 = .ok (.aload_n 0, 1) := by decide +kernel
theorem dX11_needTwo_6 : decode cX11_needTwo 6 = .ok (.iload_n 2, 1) := by decide +kernel
theorem dX11_needTwo_7 : decode cX11_needTwo 7 = .ok (.invokevirtual 144, 3) := by decide +kernel
theorem dX11_needTwo_10 : decode cX11_needTwo 10 = .ok (.iload_n 1, 1) := by decide +kernel
theorem dX11_needTwo_11 : decode cX11_needTwo 11 = .ok (.iload_n 2, 1) := by decide +kernel
theorem dX11_needTwo_12 : decode cX11_needTwo 12 = .ok (.if_icmp .ne 14, 3) := by decide +kernel
theorem dX11_needTwo_15 : decode cX11_needTwo 15 = .ok (.new 118, 3) := by decide +kernel
theorem dX11_needTwo_18 : decode cX11_needTwo 18 = .ok (.dup, 1) := by decide +kernel
theorem dX11_needTwo_19 : decode cX11_needTwo 19 = .ok (.ldc_w 395, 3) := by decide +kernel
theorem dX11_needTwo_22 : decode cX11_needTwo 22 = .ok (.invokespecial 122, 3) := by decide +kernel
theorem dX11_needTwo_25 : decode cX11_needTwo 25 = .ok (.athrow, 1) := by decide +kernel
theorem dX11_needTwo_26 : decode cX11_needTwo 26 = .ok (.return_, 1) := by decide +kernel
theorem dX11_needShelter_0 : decode cX11_needShelter 0 = .ok (.iload_n 1, 1) := by decide +kernel
theorem dX11_needShelter_1 : decode cX11_needShelter 1 = .ok (.ifCond .lt 14, 3) := by decide +kernel
theorem dX11_needShelter_4 : decode cX11_needShelter 4 = .ok (.iload_n 1, 1) := by decide +kernel
theorem dX11_needShelter_5 : decode cX11_needShelter 5 = .ok (.aload_n 0, 1) := by decide +kernel
theorem dX11_needShelter_6 : decode cX11_needShelter 6 = .ok (.getfield 47, 3) := by decide +kernel
theorem dX11_needShelter_9 : decode cX11_needShelter 9 = .ok (.getfield 227, 3) := by decide +kernel
theorem dX11_needShelter_12 : decode cX11_needShelter 12 = .ok (.if_icmp .lt 14, 3) := by decide +kernel
theorem dX11_needShelter_15 : decode cX11_needShelter 15 = .ok (.new 390, 3) := by decide +kernel
theorem dX11_needShelter_18 : decode cX11_needShelter 18 = .ok (.dup, 1) := by decide +kernel
theorem dX11_needShelter_19 : decode cX11_needShelter 19 = .ok (.ldc_w 397, 3) := by decide +kernel
theorem dX11_needShelter_22 : decode cX11_needShelter 22 = .ok (.invokespecial 394, 3) := by decide +kernel
theorem dX11_needShelter_25 : decode cX11_needShelter 25 = .ok (.athrow, 1) := by decide +kernel
theorem dX11_needShelter_26 : decode cX11_needShelter 26 = .ok (.return_, 1) := by decide +kernel
theorem dX11_needPlace_0 : decode cX11_needPlace 0 = .ok (.iload_n 1, 1) := by decide +kernel
theorem dX11_needPlace_1 : decode cX11_needPlace 1 = .ok (.ifCond .lt 14, 3) := by decide +kernel
