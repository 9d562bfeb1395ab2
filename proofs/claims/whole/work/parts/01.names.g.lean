theorem dX12_readLawLine_39 : decode cX12_readLawLine 39 = .ok (.aload_n 0, 1) := by decide +kernel
theorem dX12_readLawLine_40 : decode cX12_readLawLine 40 = .ok (.ldc_w 256, 3) := by decide +kernel
theorem dX12_readLawLine_43 : decode cX12_readLawLine 43 = .ok (.invokevirtual 136, 3) := by decide +kernel
theorem dX12_readLawLine_46 : decode cX12_readLawLine 46 = .ok (.ifCond .eq 7, 3) := by decide +kernel
theorem dX12_readLawLine_49 : decode cX12_readLawLine 49 = .ok (.iconst 2, 1) := by decide +kernel
theorem dX12_readLawLine_50 : decode cX12_readLawLine 50 = .ok (.goto 4, 3) := by decide +kernel
theorem dX12_readLawLine_53 : decode cX12_readLawLine 53 = .ok (.iconst (-1), 1) := by decide +kernel
theorem dX12_readLawLine_54 : decode cX12_readLawLine 54 = .ok (.iastore, 1) := by decide +kernel
theorem dX12_readLawLine_55 : decode cX12_readLawLine 55 = .ok (.aload_n 0, 1) := by decide +kernel
theorem dX12_readLawLine_56 : decode cX12_readLawLine 56 = .ok (.getfield 13, 3) := by decide +kernel
theorem dX12_readLawLine_59 : decode cX12_readLawLine 59 = .ok (.iload_n 2, 1) := by decide +kernel
theorem dX12_readLawLine_60 : decode cX12_readLawLine 60 = .ok (.iaload, 1) := by decide +kernel
theorem dX12_readLawLine_61 : decode cX12_readLawLine 61 = .ok (.ifCond .ge 5, 3) := by decide +kernel
theorem dX12_readLawLine_64 : decode cX12_readLawLine 64 = .ok (.iconst 0, 1) := by decide +kernel
theorem dX12_readLawLine_65 : decode cX12_readLawLine 65 = .ok (.ireturn, 1) := by decide +kernel
theorem dX12_readLawLine_66 : decode cX12_readLawLine 66 = .ok (.aload_n 0, 1) := by decide +kernel
theorem dX12_readLawLine_67 : decode cX12_readLawLine 67 = .ok (.getfield 13, 3) := by decide +kernel
theorem dX12_readLawLine_70 : decode cX12_readLawLine 70 = .ok (.iload_n 2, 1) := by decide +kernel
theorem dX12_readLawLine_71 : decode cX12_readLawLine 71 = .ok (.iconst 1, 1) := by decide +kernel
theorem dX12_readLawLine_72 : decode cX12_readLawLine 72 = .ok (.iadd, 1) := by decide +kernel
theorem dX12_readLawLine_73 : decode cX12_readLawLine 73 = .ok (.aload_n 0, 1) := by decide +kernel
theorem dX12_readLawLine_74 : decode cX12_readLawLine 74 = .ok (.getfield 13, 3) := by decide +kernel
theorem dX12_readLawLine_77 : decode cX12_readLawLine 77 = .ok (.iload_n 2, 1) := by decide +kernel
theorem dX12_readLawLine_78 : decode cX12_readLawLine 78 = .ok (.iaload, 1) := by decide +kernel
theorem dX12_readLawLine_79 : decode cX12_readLawLine 79 = .ok (.iconst 2, 1) := by decide +kernel
theorem dX12_readLawLine_80 : decode cX12_readLawLine 80 = .ok (.if_icmp .ne 7, 3) := by decide +kernel
theorem dX12_readLawLine_83 : decode cX12_readLawLine 83 = .ok (.iconst 0, 1) := by decide +kernel
theorem dX12_readLawLine_84 : decode cX12_readLawLine 84 = .ok (.goto 10, 3) := by decide +kernel
theorem dX12_readLawLine_87 : decode cX12_readLawLine 87 = .ok (.aload_n 0, 1) := by decide +kernel
theorem dX12_readLawLine_88 : decode cX12_readLawLine 88 = .ok (.iconst 0, 1) := by decide +kernel
theorem dX12_readLawLine_89 : decode cX12_readLawLine 89 = .ok (.bipush 99, 2) := by decide +kernel
theorem dX12_readLawLine_91 : decode cX12_readLawLine 91 = .ok (.invokevirtual 140, 3) := by decide +kernel
theorem dX12_readLawLine_94 : decode cX12_readLawLine 94 = .ok (.iastore, 1) := by decide +kernel
theorem dX12_readLawLine_95 : decode cX12_readLawLine 95 = .ok (.aload_n 0, 1) := by decide +kernel
theorem dX12_readLawLine_96 : decode cX12_readLawLine 96 = .ok (.getfield 13, 3) := by decide +kernel
theorem dX12_readLawLine_99 : decode cX12_readLawLine 99 = .ok (.iload_n 2, 1) := by decide +kernel
theorem dX12_readLawLine_100 : decode cX12_readLawLine 100 = .ok (.iconst 1, 1) := by decide +kernel
theorem dX12_readLawLine_101 : decode cX12_readLawLine 101 = .ok (.iadd, 1) := by decide +kernel
theorem dX12_readLawLine_102 : decode cX12_readLawLine 102 = .ok (.iaload, 1) := by decide +kernel
theorem dX12_readLawLine_103 : decode cX12_readLawLine 103 = .ok (.ifCond .ge 5, 3) := by decide +kernel
theorem dX12_readLawLine_106 : decode cX12_readLawLine 106 = .ok (.iconst 0, 1) := by decide +kernel
theorem dX12_readLawLine_107 : decode cX12_readLawLine 107 = .ok (.ireturn, 1) := by decide +kernel
theorem dX12_readLawLine_108 : decode cX12_readLawLine 108 = .ok (.aload_n 0, 1) := by decide +kernel
theorem dX12_readLawLine_109 : decode cX12_readLawLine 109 = .ok (.getfield 13, 3) := by decide +kernel
theorem dX12_readLawLine_112 : decode cX12_readLawLine 112 = .ok (.iload_n 2, 1) := by decide +kernel
theorem dX12_readLawLine_113 : decode cX12_readLawLine 113 = .ok (.iconst 2, 1) := by decide +kernel
theorem dX12_readLawLine_114 : decode cX12_readLawLine 114 = .ok (.iadd, 1) := by decide +kernel
theorem dX12_readLawLine_115 : decode cX12_readLawLine 115 = .ok (.aload_n 0, 1) := by decide +kernel
theorem dX12_readLawLine_116 : decode cX12_readLawLine 116 = .ok (.getfield 201, 3) := by decide +kernel
theorem dX12_readLawLine_119 : decode cX12_readLawLine 119 = .ok (.iastore, 1) := by decide +kernel
theorem dX12_readLawLine_120 : decode cX12_readLawLine 120 = .ok (.aload_n 0, 1) := by decide +kernel
theorem dX12_readLawLine_121 : decode cX12_readLawLine 121 = .ok (.iconst 0, 1) := by decide +kernel
theorem dX12_readLawLine_122 : decode cX12_readLawLine 122 = .ok (.putfield 228, 3) := by decide +kernel
theorem dX12_readLawLine_125 : decode cX12_readLawLine 125 = .ok (.aload_n 0, 1) := by decide +kernel
theorem dX12_readLawLine_126 : decode cX12_readLawLine 126 = .ok (.ldc_w 258, 3) := by decide +kernel
theorem dX12_readLawLine_129 : decode cX12_readLawLine 129 = .ok (.invokevirtual 164, 3) := by decide +kernel
theorem dX12_readLawLine_132 : decode cX12_readLawLine 132 = .ok (.ifCond .eq 12, 3) := by decide +kernel
theorem dX12_readLawLine_135 : decode cX12_readLawLine 135 = .ok (.aload_n 0, 1) := by decide +kernel
theorem dX12_readLawLine_136 : decode cX12_readLawLine 136 = .ok (.invokevirtual 231, 3) := by decide +kernel
theorem dX12_readLawLine_139 : decode cX12_readLawLine 139 = .ok (.ifCond .ne 5, 3) := by decide +kernel
theorem dX12_readLawLine_142 : decode cX12_readLawLine 142 = .ok (.iconst 0, 1) := by decide +kernel
theorem dX12_readLawLine_143 : decode cX12_readLawLine 143 = .ok (.ireturn, 1) := by decide +kernel
theorem dX12_readLawLine_144 : decode cX12_readLawLine 144 = .ok (.aload_n 0, 1) := by decide +kernel
theorem dX12_readLawLine_145 : decode cX12_readLawLine 145 = .ok (.getfield 13, 3) := by decide +kernel
theorem dX12_readLawLine_148 : decode cX12_readLawLine 148 = .ok (.iload_n 2, 1) := by decide +kernel
theorem dX12_readLawLine_149 : decode cX12_readLawLine 149 = .ok (.iconst 3, 1) := by decide +kernel
theorem dX12_readLawLine_150 : decode cX12_readLawLine 150 = .ok (.iadd, 1) := by decide +kernel
theorem dX12_readLawLine_151 : decode cX12_readLawLine 151 = .ok (.aload_n 0, 1) := by decide +kernel
theorem dX12_readLawLine_152 : decode cX12_readLawLine 152 = .ok (.getfield 201, 3) := by decide +kernel
theorem dX12_readLawLine_155 : decode cX12_readLawLine 155 = .ok (.iastore, 1) := by decide +kernel
theorem dX12_readLawLine_156 : decode cX12_readLawLine 156 = .ok (.iconst 1, 1) := by decide +kernel
theorem dX12_readLawLine_157 : decode cX12_readLawLine 157 = .ok (.ireturn, 1) := by decide +kernel
theorem dX12_readLine_0 : decode cX12_readLine 0 = .ok (.aload_n 0, 1) := by decide +kernel
theorem dX12_readLine_1 : decode cX12_readLine 1 = .ok (.invokevirtual 133, 3) := by decide +kernel
theorem dX12_readLine_4 : decode cX12_readLine 4 = .ok (.iload_n 2, 1) := by decide +kernel
theorem dX12_readLine_5 : decode cX12_readLine 5 = .ok (.iload_n 1, 1) := by decide +kernel
theorem dX12_readLine_6 : decode cX12_readLine 6 = .ok (.ifCond .eq 8, 3) := by decide +kernel
theorem dX12_readLine_9 : decode cX12_readLine 9 = .ok (.bipush 14, 2) := by decide +kernel
theorem dX12_readLine_11 : decode cX12_readLine 11 = .ok (.goto 5, 3) := by decide +kernel
theorem dX12_readLine_14 : decode cX12_readLine 14 = .ok (.bipush 12, 2) := by decide +kernel
theorem dX12_readLine_16 : decode cX12_readLine 16 = .ok (.if_icmp .ge 29, 3) := by decide +kernel
theorem dX12_readLine_19 : decode cX12_readLine 19 = .ok (.iload_n 1, 1) := by decide +kernel
theorem dX12_readLine_20 : decode cX12_readLine 20 = .ok (.ifCond .eq 13, 3) := by decide +kernel
theorem dX12_readLine_23 : decode cX12_readLine 23 = .ok (.aload_n 0, 1) := by decide +kernel
theorem dX12_readLine_24 : decode cX12_readLine 24 = .ok (.invokevirtual 260, 3) := by decide +kernel
theorem dX12_readLine_27 : decode cX12_readLine 27 = .ok (.ifCond .eq 18, 3) := by decide +kernel
theorem dX12_readLine_30 : decode cX12_readLine 30 = .ok (.goto 11, 3) := by decide +kernel
theorem dX12_readLine_33 : decode cX12_readLine 33 = .ok (.aload_n 0, 1) := by decide +kernel
theorem dX12_readLine_34 : decode cX12_readLine 34 = .ok (.iload_n 2, 1) := by decide +kernel
theorem dX12_readLine_35 : decode cX12_readLine 35 = .ok (.invokevirtual 263, 3) := by decide +kernel
theorem dX12_readLine_38 : decode cX12_readLine 38 = .ok (.ifCond .eq 7, 3) := by decide +kernel
theorem dX12_readLine_41 : decode cX12_readLine 41 = .ok (.iconst 1, 1) := by decide +kernel
theorem dX12_readLine_42 : decode cX12_readLine 42 = .ok (.goto 4, 3) := by decide +kernel
theorem dX12_readLine_45 : decode cX12_readLine 45 = .ok (.iconst 0, 1) := by decide +kernel
theorem dX12_readLine_46 : decode cX12_readLine 46 = .ok (.ireturn, 1) := by decide +kernel
theorem dX12_readAll_0 : decode cX12_readAll 0 = .ok (.aload_n 0, 1) := by decide +kernel
theorem dX12_readAll_1 : decode cX12_readAll 1 = .ok (.invokevirtual 266, 3) := by decide +kernel
theorem dX12_readAll_4 : decode cX12_readAll 4 = .ok (.aload_n 0, 1) := by decide +kernel
theorem dX12_readAll_5 : decode cX12_readAll 5 = .ok (.iconst 0, 1) := by decide +kernel
theorem dX12_readAll_6 : decode cX12_readAll 6 = .ok (.putfield 201, 3) := by decide +kernel
theorem dX12_readAll_9 : decode cX12_readAll 9 = .ok (.aload_n 0, 1) := by decide +kernel
theorem dX12_readAll_10 : decode cX12_readAll 10 = .ok (.invokevirtual 121, 3) := by decide +kernel
theorem dX12_readAll_13 : decode cX12_readAll 13 = .ok (.aload_n 0, 1) := by decide +kernel
theorem dX12_readAll_14 : decode cX12_readAll 14 = .ok (.getfield 108, 3) := by decide +kernel
theorem dX12_readAll_17 : decode cX12_readAll 17 = .ok (.aload_n 0, 1) := by decide +kernel
theorem dX12_readAll_18 : decode cX12_readAll 18 = .ok (.getfield 111, 3) := by decide +kernel
theorem dX12_readAll_21 : decode cX12_readAll 21 = .ok (.if_icmp .ne 5, 3) := by decide +kernel
theorem dX12_readAll_24 : decode cX12_readAll 24 = .ok (.iconst 0, 1) := by decide +kernel
theorem dX12_readAll_25 : decode cX12_readAll 25 = .ok (.ireturn, 1) := by decide +kernel
theorem dX12_readAll_26 : decode cX12_readAll 26 = .ok (.iconst 0, 1) := by decide +kernel
theorem dX12_readAll_27 : decode cX12_readAll 27 = .ok (.istore_n 2, 1) := by decide +kernel
theorem dX12_readAll_28 : decode cX12_readAll 28 = .ok (.aload_n 0, 1) := by decide +kernel
theorem dX12_readAll_29 : decode cX12_readAll 29 = .ok (.iload_n 1, 1) := by decide +kernel
theorem dX12_readAll_30 : decode cX12_readAll 30 = .ok (.iload_n 2, 1) := by decide +kernel
theorem dX12_readAll_31 : decode cX12_readAll 31 = .ok (.invokevirtual 269, 3) := by decide +kernel
theorem dX12_readAll_34 : decode cX12_readAll 34 = .ok (.ifCond .ne 5, 3) := by decide +kernel
theorem dX12_readAll_37 : decode cX12_readAll 37 = .ok (.iconst (-1), 1) := by decide +kernel
theorem dX12_readAll_38 : decode cX12_readAll 38 = .ok (.ireturn, 1) := by decide +kernel
theorem dX12_readAll_39 : decode cX12_readAll 39 = .ok (.aload_n 0, 1) := by decide +kernel
theorem dX12_readAll_40 : decode cX12_readAll 40 = .ok (.invokevirtual 121, 3) := by decide +kernel
theorem dX12_readAll_43 : decode cX12_readAll 43 = .ok (.aload_n 0, 1) := by decide +kernel
theorem dX12_readAll_44 : decode cX12_readAll 44 = .ok (.getfield 108, 3) := by decide +kernel
theorem dX12_readAll_47 : decode cX12_readAll 47 = .ok (.aload_n 0, 1) := by decide +kernel
theorem dX12_readAll_48 : decode cX12_readAll 48 = .ok (.getfield 111, 3) := by decide +kernel
theorem dX12_readAll_51 : decode cX12_readAll 51 = .ok (.if_icmp .ne 7, 3) := by decide +kernel
theorem dX12_readAll_54 : decode cX12_readAll 54 = .ok (.iload_n 2, 1) := by decide +kernel
theorem dX12_readAll_55 : decode cX12_readAll 55 = .ok (.iconst 1, 1) := by decide +kernel
theorem dX12_readAll_56 : decode cX12_readAll 56 = .ok (.iadd, 1) := by decide +kernel
theorem dX12_readAll_57 : decode cX12_readAll 57 = .ok (.ireturn, 1) := by decide +kernel
theorem dX12_readAll_58 : decode cX12_readAll 58 = .ok (.aload_n 0, 1) := by decide +kernel
theorem dX12_readAll_59 : decode cX12_readAll 59 = .ok (.bipush 59, 2) := by decide +kernel
theorem dX12_readAll_61 : decode cX12_readAll 61 = .ok (.bipush 59, 2) := by decide +kernel
theorem dX12_readAll_63 : decode cX12_readAll 63 = .ok (.invokevirtual 114, 3) := by decide +kernel
theorem dX12_readAll_66 : decode cX12_readAll 66 = .ok (.ifCond .ne 5, 3) := by decide +kernel
theorem dX12_readAll_69 : decode cX12_readAll 69 = .ok (.iconst (-1), 1) := by decide +kernel
theorem dX12_readAll_70 : decode cX12_readAll 70 = .ok (.ireturn, 1) := by decide +kernel
theorem dX12_readAll_71 : decode cX12_readAll 71 = .ok (.aload_n 0, 1) := by decide +kernel
theorem dX12_readAll_72 : decode cX12_readAll 72 = .ok (.dup, 1) := by decide +kernel
theorem dX12_readAll_73 : decode cX12_readAll 73 = .ok (.getfield 108, 3) := by decide +kernel
theorem dX12_readAll_76 : decode cX12_readAll 76 = .ok (.iconst 1, 1) := by decide +kernel
theorem dX12_readAll_77 : decode cX12_readAll 77 = .ok (.iadd, 1) := by decide +kernel
theorem dX12_readAll_78 : decode cX12_readAll 78 = .ok (.putfield 108, 3) := by decide +kernel
theorem dX12_readAll_81 : decode cX12_readAll 81 = .ok (.iinc 2 1, 3) := by decide +kernel
theorem dX12_readAll_84 : decode cX12_readAll 84 = .ok (.goto (-56), 3) := by decide +kernel
theorem dX12_promenade_0 : decode cX12_promenade 0 = .ok (.iconst 0, 1) := by decide +kernel
theorem dX12_promenade_1 : decode cX12_promenade 1 = .ok (.istore_n 1, 1) := by decide +kernel
theorem dX12_promenade_2 : decode cX12_promenade 2 = .ok (.iload_n 1, 1) := by decide +kernel
theorem dX12_promenade_3 : decode cX12_promenade 3 = .ok (.sipush 1157, 3) := by decide +kernel
theorem dX12_promenade_6 : decode cX12_promenade 6 = .ok (.if_icmp .ge 21, 3) := by decide +kernel
theorem dX12_promenade_9 : decode cX12_promenade 9 = .ok (.aload_n 0, 1) := by decide +kernel
theorem dX12_promenade_10 : decode cX12_promenade 10 = .ok (.getfield 20, 3) := by decide +kernel
theorem dX12_promenade_13 : decode cX12_promenade 13 = .ok (.iload_n 1, 1) := by decide +kernel
theorem dX12_promenade_14 : decode cX12_promenade 14 = .ok (.aload_n 0, 1) := by decide +kernel
theorem dX12_promenade_15 : decode cX12_promenade 15 = .ok (.getfield 13, 3) := by decide +kernel
theorem dX12_promenade_18 : decode cX12_promenade 18 = .ok (.iload_n 1, 1) := by decide +kernel
theorem dX12_promenade_19 : decode cX12_promenade 19 = .ok (.iaload, 1) := by decide +kernel
theorem dX12_promenade_20 : decode cX12_promenade 20 = .ok (.iastore, 1) := by decide +kernel
theorem dX12_promenade_21 : decode cX12_promenade 21 = .ok (.iinc 1 1, 3) := by decide +kernel
theorem dX12_promenade_24 : decode cX12_promenade 24 = .ok (.goto (-22), 3) := by decide +kernel
theorem dX12_promenade_27 : decode cX12_promenade 27 = .ok (.aload_n 0, 1) := by decide +kernel
theorem dX12_promenade_28 : decode cX12_promenade 28 = .ok (.iconst 1, 1) := by decide +kernel
theorem dX12_promenade_29 : decode cX12_promenade 29 = .ok (.invokevirtual 273, 3) := by decide +kernel
theorem dX12_promenade_32 : decode cX12_promenade 32 = .ok (.istore_n 1, 1) := by decide +kernel
theorem dX12_promenade_33 : decode cX12_promenade 33 = .ok (.aload_n 0, 1) := by decide +kernel
theorem dX12_promenade_34 : decode cX12_promenade 34 = .ok (.iload_n 1, 1) := by decide +kernel
theorem dX12_promenade_35 : decode cX12_promenade 35 = .ok (.ifCond .ge 10, 3) := by decide +kernel
theorem dX12_promenade_38 : decode cX12_promenade 38 = .ok (.aload_n 0, 1) := by decide +kernel
theorem dX12_promenade_39 : decode cX12_promenade 39 = .ok (.getfield 118, 3) := by decide +kernel
theorem dX12_promenade_42 : decode cX12_promenade 42 = .ok (.goto 4, 3) := by decide +kernel
theorem dX12_promenade_45 : decode cX12_promenade 45 = .ok (.iconst (-1), 1) := by decide +kernel
theorem dX12_promenade_46 : decode cX12_promenade 46 = .ok (.putfield 33, 3) := by decide +kernel
theorem dX12_promenade_49 : decode cX12_promenade 49 = .ok (.aload_n 0, 1) := by decide +kernel
theorem dX12_promenade_50 : decode cX12_promenade 50 = .ok (.iload_n 1, 1) := by decide +kernel
theorem dX12_promenade_51 : decode cX12_promenade 51 = .ok (.ifCond .ge 7, 3) := by decide +kernel
theorem dX12_promenade_54 : decode cX12_promenade 54 = .ok (.iconst 1, 1) := by decide +kernel
theorem dX12_promenade_55 : decode cX12_promenade 55 = .ok (.goto 4, 3) := by decide +kernel
theorem dX12_promenade_58 : decode cX12_promenade 58 = .ok (.iconst 0, 1) := by decide +kernel
theorem dX12_promenade_59 : decode cX12_promenade 59 = .ok (.iconst 1, 1) := by decide +kernel
theorem dX12_promenade_60 : decode cX12_promenade 60 = .ok (.invokevirtual 277, 3) := by decide +kernel
theorem dX12_promenade_63 : decode cX12_promenade 63 = .ok (.ifCond .ne 27, 3) := by decide +kernel
theorem dX12_promenade_66 : decode cX12_promenade 66 = .ok (.aload_n 0, 1) := by decide +kernel
theorem dX12_promenade_67 : decode cX12_promenade 67 = .ok (.aload_n 0, 1) := by decide +kernel
theorem dX12_promenade_68 : decode cX12_promenade 68 = .ok (.getfield 13, 3) := by decide +kernel
theorem dX12_promenade_71 : decode cX12_promenade 71 = .ok (.iconst 2, 1) := by decide +kernel
theorem dX12_promenade_72 : decode cX12_promenade 72 = .ok (.iaload, 1) := by decide +kernel
theorem dX12_promenade_73 : decode cX12_promenade 73 = .ok (.bipush 12, 2) := by decide +kernel
theorem dX12_promenade_75 : decode cX12_promenade 75 = .ok (.if_icmp .ne 7, 3) := by decide +kernel
theorem dX12_promenade_78 : decode cX12_promenade 78 = .ok (.iconst 1, 1) := by decide +kernel
theorem dX12_promenade_79 : decode cX12_promenade 79 = .ok (.goto 4, 3) := by decide +kernel
theorem dX12_promenade_82 : decode cX12_promenade 82 = .ok (.iconst 0, 1) := by decide +kernel
theorem dX12_promenade_83 : decode cX12_promenade 83 = .ok (.iconst 2, 1) := by decide +kernel
theorem dX12_promenade_84 : decode cX12_promenade 84 = .ok (.invokevirtual 277, 3) := by decide +kernel
theorem dX12_promenade_87 : decode cX12_promenade 87 = .ok (.ifCond .eq 32, 3) := by decide +kernel
theorem dX12_promenade_90 : decode cX12_promenade 90 = .ok (.iconst 0, 1) := by decide +kernel
theorem dX12_promenade_91 : decode cX12_promenade 91 = .ok (.istore_n 2, 1) := by decide +kernel
theorem dX12_promenade_92 : decode cX12_promenade 92 = .ok (.iload_n 2, 1) := by decide +kernel
theorem dX12_promenade_93 : decode cX12_promenade 93 = .ok (.sipush 1157, 3) := by decide +kernel
theorem dX12_promenade_96 : decode cX12_promenade 96 = .ok (.if_icmp .ge 21, 3) := by decide +kernel
theorem dX12_promenade_99 : decode cX12_promenade 99 = .ok (.aload_n 0, 1) := by decide +kernel
theorem dX12_promenade_100 : decode cX12_promenade 100 = .ok (.getfield 13, 3) := by decide +kernel
theorem dX12_promenade_103 : decode cX12_promenade 103 = .ok (.iload_n 2, 1) := by decide +kernel
theorem dX12_promenade_104 : decode cX12_promenade 104 = .ok (.aload_n 0, 1) := by decide +kernel
theorem dX12_promenade_105 : decode cX12_promenade 105 = .ok (.getfield 20, 3) := by decide +kernel
theorem dX12_promenade_108 : decode cX12_promenade 108 = .ok (.iload_n 2, 1) := by decide +kernel
theorem dX12_promenade_109 : decode cX12_promenade 109 = .ok (.iaload, 1) := by decide +kernel
theorem dX12_promenade_110 : decode cX12_promenade 110 = .ok (.iastore, 1) := by decide +kernel
theorem dX12_promenade_111 : decode cX12_promenade 111 = .ok (.iinc 2 1, 3) := by decide +kernel
theorem dX12_promenade_114 : decode cX12_promenade 114 = .ok (.goto (-22), 3) := by decide +kernel
theorem dX12_promenade_117 : decode cX12_promenade 117 = .ok (.iconst 0, 1) := by decide +kernel
theorem dX12_promenade_118 : decode cX12_promenade 118 = .ok (.ireturn, 1) := by decide +kernel
theorem dX12_promenade_119 : decode cX12_promenade 119 = .ok (.aload_n 0, 1) := by decide +kernel
theorem dX12_promenade_120 : decode cX12_promenade 120 = .ok (.getfield 13, 3) := by decide +kernel
theorem dX12_promenade_123 : decode cX12_promenade 123 = .ok (.iconst 2, 1) := by decide +kernel
theorem dX12_promenade_124 : decode cX12_promenade 124 = .ok (.dup2, 1) := by decide +kernel
theorem dX12_promenade_125 : decode cX12_promenade 125 = .ok (.iaload, 1) := by decide +kernel
theorem dX12_promenade_126 : decode cX12_promenade 126 = .ok (.iconst 1, 1) := by decide +kernel
theorem dX12_promenade_127 : decode cX12_promenade 127 = .ok (.iadd, 1) := by decide +kernel
theorem dX12_promenade_128 : decode cX12_promenade 128 = .ok (.iastore, 1) := by decide +kernel
theorem dX12_promenade_129 : decode cX12_promenade 129 = .ok (.aload_n 0, 1) := by decide +kernel
theorem dX12_promenade_130 : decode cX12_promenade 130 = .ok (.iconst 0, 1) := by decide +kernel
theorem dX12_promenade_131 : decode cX12_promenade 131 = .ok (.putfield 74, 3) := by decide +kernel
theorem dX12_promenade_134 : decode cX12_promenade 134 = .ok (.aload_n 0, 1) := by decide +kernel
theorem dX12_promenade_135 : decode cX12_promenade 135 = .ok (.getfield 13, 3) := by decide +kernel
theorem dX12_promenade_138 : decode cX12_promenade 138 = .ok (.iconst 2, 1) := by decide +kernel
theorem dX12_promenade_139 : decode cX12_promenade 139 = .ok (.iaload, 1) := by decide +kernel
theorem dX12_promenade_140 : decode cX12_promenade 140 = .ok (.ireturn, 1) := by decide +kernel
theorem dX12_law_0 : decode cX12_law 0 = .ok (.aload_n 0, 1) := by decide +kernel
theorem dX12_law_1 : decode cX12_law 1 = .ok (.iconst 0, 1) := by decide +kernel
theorem dX12_law_2 : decode cX12_law 2 = .ok (.invokevirtual 273, 3) := by decide +kernel
theorem dX12_law_5 : decode cX12_law 5 = .ok (.istore_n 1, 1) := by decide +kernel
theorem dX12_law_6 : decode cX12_law 6 = .ok (.aload_n 0, 1) := by decide +kernel
theorem dX12_law_7 : decode cX12_law 7 = .ok (.iload_n 1, 1) := by decide +kernel
theorem dX12_law_8 : decode cX12_law 8 = .ok (.ifCond .ge 10, 3) := by decide +kernel
theorem dX12_law_11 : decode cX12_law 11 = .ok (.aload_n 0, 1) := by decide +kernel
theorem dX12_law_12 : decode cX12_law 12 = .ok (.getfield 118, 3) := by decide +kernel
theorem dX12_law_15 : decode cX12_law 15 = .ok (.goto 4, 3) := by decide +kernel
theorem dX12_law_18 : decode cX12_law 18 = .ok (.iconst (-1), 1) := by decide +kernel
theorem dX12_law_19 : decode cX12_law 19 = .ok (.putfield 33, 3) := by decide +kernel
theorem dX12_law_22 : decode cX12_law 22 = .ok (.aload_n 0, 1) := by decide +kernel
theorem dX12_law_23 : decode cX12_law 23 = .ok (.iload_n 1, 1) := by decide +kernel
theorem dX12_law_24 : decode cX12_law 24 = .ok (.ifCond .ge 7, 3) := by decide +kernel
theorem dX12_law_27 : decode cX12_law 27 = .ok (.iconst 1, 1) := by decide +kernel
theorem dX12_law_28 : decode cX12_law 28 = .ok (.goto 4, 3) := by decide +kernel
theorem dX12_law_31 : decode cX12_law 31 = .ok (.iconst 0, 1) := by decide +kernel
theorem dX12_law_32 : decode cX12_law 32 = .ok (.iconst 1, 1) := by decide +kernel
theorem dX12_law_33 : decode cX12_law 33 = .ok (.invokevirtual 277, 3) := by decide +kernel
theorem dX12_law_36 : decode cX12_law 36 = .ok (.ifCond .eq 5, 3) := by decide +kernel
theorem dX12_law_39 : decode cX12_law 39 = .ok (.iconst 0, 1) := by decide +kernel
theorem dX12_law_40 : decode cX12_law 40 = .ok (.ireturn, 1) := by decide +kernel
theorem dX12_law_41 : decode cX12_law 41 = .ok (.aload_n 0, 1) := by decide +kernel
theorem dX12_law_42 : decode cX12_law 42 = .ok (.getfield 13, 3) := by decide +kernel
theorem dX12_law_45 : decode cX12_law 45 = .ok (.sipush 1157, 3) := by decide +kernel
theorem dX12_law_48 : decode cX12_law 48 = .ok (.iload_n 1, 1) := by decide +kernel
theorem dX12_law_49 : decode cX12_law 49 = .ok (.iastore, 1) := by decide +kernel
theorem dX12_law_50 : decode cX12_law 50 = .ok (.iconst 0, 1) := by decide +kernel
theorem dX12_law_51 : decode cX12_law 51 = .ok (.istore_n 2, 1) := by decide +kernel
theorem dX12_law_52 : decode cX12_law 52 = .ok (.iload_n 2, 1) := by decide +kernel
theorem dX12_law_53 : decode cX12_law 53 = .ok (.sipush 849, 3) := by decide +kernel
theorem dX12_law_56 : decode cX12_law 56 = .ok (.if_icmp .ge 29, 3) := by decide +kernel
theorem dX12_law_59 : decode cX12_law 59 = .ok (.aload_n 0, 1) := by decide +kernel
theorem dX12_law_60 : decode cX12_law 60 = .ok (.getfield 13, 3) := by decide +kernel
theorem dX12_law_63 : decode cX12_law 63 = .ok (.sipush 308, 3) := by decide +kernel
theorem dX12_law_66 : decode cX12_law 66 = .ok (.iload_n 2, 1) := by decide +kernel
theorem dX12_law_67 : decode cX12_law 67 = .ok (.iadd, 1) := by decide +kernel
theorem dX12_law_68 : decode cX12_law 68 = .ok (.aload_n 0, 1) := by decide +kernel
theorem dX12_law_69 : decode cX12_law 69 = .ok (.getfield 13, 3) := by decide +kernel
theorem dX12_law_72 : decode cX12_law 72 = .ok (.sipush 1157, 3) := by decide +kernel
theorem dX12_law_75 : decode cX12_law 75 = .ok (.iload_n 2, 1) := by decide +kernel
theorem dX12_law_76 : decode cX12_law 76 = .ok (.iadd, 1) := by decide +kernel
theorem dX12_law_77 : decode cX12_law 77 = .ok (.iaload, 1) := by decide +kernel
theorem dX12_law_78 : decode cX12_law 78 = .ok (.iastore, 1) := by decide +kernel
theorem dX12_law_79 : decode cX12_law 79 = .ok (.iinc 2 1, 3) := by decide +kernel
theorem dX12_law_82 : decode cX12_law 82 = .ok (.goto (-30), 3) := by decide +kernel
theorem dX12_law_85 : decode cX12_law 85 = .ok (.aload_n 0, 1) := by decide +kernel
theorem dX12_law_86 : decode cX12_law 86 = .ok (.getfield 13, 3) := by decide +kernel
theorem dX12_law_89 : decode cX12_law 89 = .ok (.iconst 3, 1) := by decide +kernel
theorem dX12_law_90 : decode cX12_law 90 = .ok (.iconst 1, 1) := by decide +kernel
theorem dX12_law_91 : decode cX12_law 91 = .ok (.iastore, 1) := by decide +kernel
theorem dX12_law_92 : decode cX12_law 92 = .ok (.aload_n 0, 1) := by decide +kernel
theorem dX12_law_93 : decode cX12_law 93 = .ok (.iconst 0, 1) := by decide +kernel
theorem dX12_law_94 : decode cX12_law 94 = .ok (.putfield 74, 3) := by decide +kernel
theorem dX12_law_97 : decode cX12_law 97 = .ok (.iload_n 1, 1) := by decide +kernel
theorem dX12_law_98 : decode cX12_law 98 = .ok (.ireturn, 1) := by decide +kernel
theorem dX12_aheadOf_0 : decode cX12_aheadOf 0 = .ok (.iconst (-1), 1) := by decide +kernel
theorem dX12_aheadOf_1 : decode cX12_aheadOf 1 = .ok (.istore_n 2, 1) := by decide +kernel
theorem dX12_aheadOf_2 : decode cX12_aheadOf 2 = .ok (.iconst 0, 1) := by decide +kernel
theorem dX12_aheadOf_3 : decode cX12_aheadOf 3 = .ok (.istore_n 3, 1) := by decide +kernel
theorem dX12_aheadOf_4 : decode cX12_aheadOf 4 = .ok (.iload_n 3, 1) := by decide +kernel
theorem dX12_aheadOf_5 : decode cX12_aheadOf 5 = .ok (.aload_n 0, 1) := by decide +kernel
theorem dX12_aheadOf_6 : decode cX12_aheadOf 6 = .ok (.invokevirtual 94, 3) := by decide +kernel
theorem dX12_aheadOf_9 : decode cX12_aheadOf 9 = .ok (.if_icmp .ge 36, 3) := by decide +kernel
theorem dX12_aheadOf_12 : decode cX12_aheadOf 12 = .ok (.iload_n 3, 1) := by decide +kernel
theorem dX12_aheadOf_13 : decode cX12_aheadOf 13 = .ok (.iload_n 1, 1) := by decide +kernel
theorem dX12_aheadOf_14 : decode cX12_aheadOf 14 = .ok (.if_icmp .eq 25, 3) := by decide +kernel
theorem dX12_aheadOf_17 : decode cX12_aheadOf 17 = .ok (.iload_n 2, 1) := by decide +kernel
theorem dX12_aheadOf_18 : decode cX12_aheadOf 18 = .ok (.iconst (-1), 1) := by decide +kernel
theorem dX12_aheadOf_19 : decode cX12_aheadOf 19 = .ok (.if_icmp .eq 18, 3) := by decide +kernel
theorem dX12_aheadOf_22 : decode cX12_aheadOf 22 = .ok (.aload_n 0, 1) := by decide +kernel
theorem dX12_aheadOf_23 : decode cX12_aheadOf 23 = .ok (.iload_n 1, 1) := by decide +kernel
theorem dX12_aheadOf_24 : decode cX12_aheadOf 24 = .ok (.iload_n 3, 1) := by decide +kernel
theorem dX12_aheadOf_25 : decode cX12_aheadOf 25 = .ok (.invokevirtual 280, 3) := by decide +kernel
theorem dX12_aheadOf_28 : decode cX12_aheadOf 28 = .ok (.aload_n 0, 1) := by decide +kernel
theorem dX12_aheadOf_29 : decode cX12_aheadOf 29 = .ok (.iload_n 1, 1) := by decide +kernel
theorem dX12_aheadOf_30 : decode cX12_aheadOf 30 = .ok (.iload_n 2, 1) := by decide +kernel
theorem dX12_aheadOf_31 : decode cX12_aheadOf 31 = .ok (.invokevirtual 280, 3) := by decide +kernel
theorem dX12_aheadOf_34 : decode cX12_aheadOf 34 = .ok (.if_icmp .ge 5, 3) := by decide +kernel
theorem dX12_aheadOf_37 : decode cX12_aheadOf 37 = .ok (.iload_n 3, 1) := by decide +kernel
theorem dX12_aheadOf_38 : decode cX12_aheadOf 38 = .ok (.istore_n 2, 1) := by decide +kernel
theorem dX12_aheadOf_39 : decode cX12_aheadOf 39 = .ok (.iinc 3 1, 3) := by decide +kernel
theorem dX12_aheadOf_42 : decode cX12_aheadOf 42 = .ok (.goto (-38), 3) := by decide +kernel
theorem dX12_aheadOf_45 : decode cX12_aheadOf 45 = .ok (.iload_n 2, 1) := by decide +kernel
theorem dX12_aheadOf_46 : decode cX12_aheadOf 46 = .ok (.ireturn, 1) := by decide +kernel
theorem dX12_factOf_0 : decode cX12_factOf 0 = .ok (.iload_n 1, 1) := by decide +kernel
theorem dX12_factOf_1 : decode cX12_factOf 1 = .ok (.tableswitch 165 0 9 #[55, 57, 64, 71, 98, 109, 116, 123, 130, 138], 55) := by decide +kernel
theorem dX12_factOf_56 : decode cX12_factOf 56 = .ok (.iload_n 3, 1) := by decide +kernel
theorem dX12_factOf_57 : decode cX12_factOf 57 = .ok (.ireturn, 1) := by decide +kernel
theorem dX12_factOf_58 : decode cX12_factOf 58 = .ok (.aload_n 0, 1) := by decide +kernel
theorem dX12_factOf_59 : decode cX12_factOf 59 = .ok (.iload_n 3, 1) := by decide +kernel
theorem dX12_factOf_60 : decode cX12_factOf 60 = .ok (.iconst 0, 1) := by decide +kernel
theorem dX12_factOf_61 : decode cX12_factOf 61 = .ok (.invokevirtual 88, 3) := by decide +kernel
theorem dX12_factOf_64 : decode cX12_factOf 64 = .ok (.ireturn, 1) := by decide +kernel
theorem dX12_factOf_65 : decode cX12_factOf 65 = .ok (.aload_n 0, 1) := by decide +kernel
theorem dX12_factOf_66 : decode cX12_factOf 66 = .ok (.iload_n 3, 1) := by decide +kernel
theorem dX12_factOf_67 : decode cX12_factOf 67 = .ok (.iconst 1, 1) := by decide +kernel
theorem dX12_factOf_68 : decode cX12_factOf 68 = .ok (.invokevirtual 88, 3) := by decide +kernel
theorem dX12_factOf_71 : decode cX12_factOf 71 = .ok (.ireturn, 1) := by decide +kernel
theorem dX12_factOf_72 : decode cX12_factOf 72 = .ok (.aload_n 0, 1) := by decide +kernel
theorem dX12_factOf_73 : decode cX12_factOf 73 = .ok (.iload_n 3, 1) := by decide +kernel
theorem dX12_factOf_74 : decode cX12_factOf 74 = .ok (.invokevirtual 283, 3) := by decide +kernel
theorem dX12_factOf_77 : decode cX12_factOf 77 = .ok (.iconst (-1), 1) := by decide +kernel
theorem dX12_factOf_78 : decode cX12_factOf 78 = .ok (.if_icmp .ne 10, 3) := by decide +kernel
theorem dX12_factOf_81 : decode cX12_factOf 81 = .ok (.aload_n 0, 1) := by decide +kernel
theorem dX12_factOf_82 : decode cX12_factOf 82 = .ok (.invokevirtual 84, 3) := by decide +kernel
theorem dX12_factOf_85 : decode cX12_factOf 85 = .ok (.goto 13, 3) := by decide +kernel
theorem dX12_factOf_88 : decode cX12_factOf 88 = .ok (.aload_n 0, 1) := by decide +kernel
theorem dX12_factOf_89 : decode cX12_factOf 89 = .ok (.iload_n 3, 1) := by decide +kernel
theorem dX12_factOf_90 : decode cX12_factOf 90 = .ok (.aload_n 0, 1) := by decide +kernel
theorem dX12_factOf_91 : decode cX12_factOf 91 = .ok (.iload_n 3, 1) := by decide +kernel
theorem dX12_factOf_92 : decode cX12_factOf 92 = .ok (.invokevirtual 283, 3) := by decide +kernel
theorem dX12_factOf_95 : decode cX12_factOf 95 = .ok (.invokevirtual 280, 3) := by decide +kernel
theorem dX12_factOf_98 : decode cX12_factOf 98 = .ok (.ireturn, 1) := by decide +kernel
theorem dX12_factOf_99 : decode cX12_factOf 99 = .ok (.aload_n 0, 1) := by decide +kernel
theorem dX12_factOf_100 : decode cX12_factOf 100 = .ok (.iload_n 3, 1) := by decide +kernel
theorem dX12_factOf_101 : decode cX12_factOf 101 = .ok (.bipush 6, 2) := by decide +kernel
theorem dX12_factOf_103 : decode cX12_factOf 103 = .ok (.invokevirtual 88, 3) := by decide +kernel
theorem dX12_factOf_106 : decode cX12_factOf 106 = .ok (.invokestatic 287, 3) := by decide +kernel
theorem dX12_factOf_109 : decode cX12_factOf 109 = .ok (.ireturn, 1) := by decide +kernel
theorem dX12_factOf_110 : decode cX12_factOf 110 = .ok (.aload_n 0, 1) := by decide +kernel
theorem dX12_factOf_111 : decode cX12_factOf 111 = .ok (.iload_n 3, 1) := by decide +kernel
theorem dX12_factOf_112 : decode cX12_factOf 112 = .ok (.iconst 5, 1) := by decide +kernel
theorem dX12_factOf_113 : decode cX12_factOf 113 = .ok (.invokevirtual 88, 3) := by decide +kernel
theorem dX12_factOf_116 : decode cX12_factOf 116 = .ok (.ireturn, 1) := by decide +kernel
theorem dX12_factOf_117 : decode cX12_factOf 117 = .ok (.aload_n 0, 1) := by decide +kernel
theorem dX12_factOf_118 : decode cX12_factOf 118 = .ok (.iload_n 3, 1) := by decide +kernel
theorem dX12_factOf_119 : decode cX12_factOf 119 = .ok (.iconst 4, 1) := by decide +kernel
theorem dX12_factOf_120 : decode cX12_factOf 120 = .ok (.invokevirtual 88, 3) := by decide +kernel
theorem dX12_factOf_123 : decode cX12_factOf 123 = .ok (.ireturn, 1) := by decide +kernel
theorem dX12_factOf_124 : decode cX12_factOf 124 = .ok (.aload_n 0, 1) := by decide +kernel
theorem dX12_factOf_125 : decode cX12_factOf 125 = .ok (.iload_n 3, 1) := by decide +kernel
theorem dX12_factOf_126 : decode cX12_factOf 126 = .ok (.iconst 3, 1) := by decide +kernel
theorem dX12_factOf_127 : decode cX12_factOf 127 = .ok (.invokevirtual 88, 3) := by decide +kernel
theorem dX12_factOf_130 : decode cX12_factOf 130 = .ok (.ireturn, 1) := by decide +kernel
theorem dX12_factOf_131 : decode cX12_factOf 131 = .ok (.aload_n 0, 1) := by decide +kernel
theorem dX12_factOf_132 : decode cX12_factOf 132 = .ok (.getfield 13, 3) := by decide +kernel
theorem dX12_factOf_135 : decode cX12_factOf 135 = .ok (.bipush 7, 2) := by decide +kernel
theorem dX12_factOf_137 : decode cX12_factOf 137 = .ok (.iaload, 1) := by decide +kernel
theorem dX12_factOf_138 : decode cX12_factOf 138 = .ok (.ireturn, 1) := by decide +kernel
theorem dX12_factOf_139 : decode cX12_factOf 139 = .ok (.aload_n 0, 1) := by decide +kernel
theorem dX12_factOf_140 : decode cX12_factOf 140 = .ok (.aload_n 0, 1) := by decide +kernel
theorem dX12_factOf_141 : decode cX12_factOf 141 = .ok (.iload_n 3, 1) := by decide +kernel
theorem dX12_factOf_142 : decode cX12_factOf 142 = .ok (.iconst 0, 1) := by decide +kernel
theorem dX12_factOf_143 : decode cX12_factOf 143 = .ok (.invokevirtual 88, 3) := by decide +kernel
theorem dX12_factOf_146 : decode cX12_factOf 146 = .ok (.aload_n 0, 1) := by decide +kernel
theorem dX12_factOf_147 : decode cX12_factOf 147 = .ok (.getfield 13, 3) := by decide +kernel
theorem dX12_factOf_150 : decode cX12_factOf 150 = .ok (.iconst 5, 1) := by decide +kernel
theorem dX12_factOf_151 : decode cX12_factOf 151 = .ok (.iaload, 1) := by decide +kernel
theorem dX12_factOf_152 : decode cX12_factOf 152 = .ok (.invokevirtual 91, 3) := by decide +kernel
theorem dX12_factOf_155 : decode cX12_factOf 155 = .ok (.bipush 10, 2) := by decide +kernel
theorem dX12_factOf_157 : decode cX12_factOf 157 = .ok (.if_icmp .ge 7, 3) := by decide +kernel
theorem dX12_factOf_160 : decode cX12_factOf 160 = .ok (.iconst 1, 1) := by decide +kernel
theorem dX12_factOf_161 : decode cX12_factOf 161 = .ok (.goto 4, 3) := by decide +kernel
theorem dX12_factOf_164 : decode cX12_factOf 164 = .ok (.iconst 0, 1) := by decide +kernel
theorem dX12_factOf_165 : decode cX12_factOf 165 = .ok (.ireturn, 1) := by decide +kernel
theorem dX12_factOf_166 : decode cX12_factOf 166 = .ok (.iload_n 2, 1) := by decide +kernel
theorem dX12_factOf_167 : decode cX12_factOf 167 = .ok (.ireturn, 1) := by decide +kernel
theorem dX12_holdsLine_0 : decode cX12_holdsLine 0 = .ok (.iconst 0, 1) := by decide +kernel
theorem dX12_holdsLine_1 : decode cX12_holdsLine 1 = .ok (.istore_n 3, 1) := by decide +kernel
theorem dX12_holdsLine_2 : decode cX12_holdsLine 2 = .ok (.sipush 309, 3) := by decide +kernel
theorem dX12_holdsLine_5 : decode cX12_holdsLine 5 = .ok (.iconst 4, 1) := by decide +kernel
theorem dX12_holdsLine_6 : decode cX12_holdsLine 6 = .ok (.iload_n 1, 1) := by decide +kernel
theorem dX12_holdsLine_7 : decode cX12_holdsLine 7 = .ok (.imul, 1) := by decide +kernel
theorem dX12_holdsLine_8 : decode cX12_holdsLine 8 = .ok (.iadd, 1) := by decide +kernel
theorem dX12_holdsLine_9 : decode cX12_holdsLine 9 = .ok (.istore 4, 2) := by decide +kernel
theorem dX12_holdsLine_11 : decode cX12_holdsLine 11 = .ok (.aload_n 0, 1) := by decide +kernel
theorem dX12_holdsLine_12 : decode cX12_holdsLine 12 = .ok (.getfield 13, 3) := by decide +kernel
theorem dX12_holdsLine_15 : decode cX12_holdsLine 15 = .ok (.iload 4, 2) := by decide +kernel
theorem dX12_holdsLine_17 : decode cX12_holdsLine 17 = .ok (.iconst 2, 1) := by decide +kernel
theorem dX12_holdsLine_18 : decode cX12_holdsLine 18 = .ok (.iadd, 1) := by decide +kernel
theorem dX12_holdsLine_19 : decode cX12_holdsLine 19 = .ok (.iaload, 1) := by decide +kernel
theorem dX12_holdsLine_20 : decode cX12_holdsLine 20 = .ok (.istore 5, 2) := by decide +kernel
theorem dX12_holdsLine_22 : decode cX12_holdsLine 22 = .ok (.iload 5, 2) := by decide +kernel
theorem dX12_holdsLine_24 : decode cX12_holdsLine 24 = .ok (.aload_n 0, 1) := by decide +kernel
theorem dX12_holdsLine_25 : decode cX12_holdsLine 25 = .ok (.getfield 13, 3) := by decide +kernel
theorem dX12_holdsLine_28 : decode cX12_holdsLine 28 = .ok (.iload 4, 2) := by decide +kernel
theorem dX12_holdsLine_30 : decode cX12_holdsLine 30 = .ok (.iconst 3, 1) := by decide +kernel
theorem dX12_holdsLine_31 : decode cX12_holdsLine 31 = .ok (.iadd, 1) := by decide +kernel
theorem dX12_holdsLine_32 : decode cX12_holdsLine 32 = .ok (.iaload, 1) := by decide +kernel
theorem dX12_holdsLine_33 : decode cX12_holdsLine 33 = .ok (.if_icmp .ge 230, 3) := by decide +kernel
theorem dX12_holdsLine_36 : decode cX12_holdsLine 36 = .ok (.aload_n 0, 1) := by decide +kernel
theorem dX12_holdsLine_37 : decode cX12_holdsLine 37 = .ok (.getfield 13, 3) := by decide +kernel
theorem dX12_holdsLine_40 : decode cX12_holdsLine 40 = .ok (.sipush 357, 3) := by decide +kernel
theorem dX12_holdsLine_43 : decode cX12_holdsLine 43 = .ok (.iconst 2, 1) := by decide +kernel
theorem dX12_holdsLine_44 : decode cX12_holdsLine 44 = .ok (.iload 5, 2) := by decide +kernel
theorem dX12_holdsLine_46 : decode cX12_holdsLine 46 = .ok (.imul, 1) := by decide +kernel
theorem dX12_holdsLine_47 : decode cX12_holdsLine 47 = .ok (.iadd, 1) := by decide +kernel
theorem dX12_holdsLine_48 : decode cX12_holdsLine 48 = .ok (.iaload, 1) := by decide +kernel
theorem dX12_holdsLine_49 : decode cX12_holdsLine 49 = .ok (.istore 6, 2) := by decide +kernel
theorem dX12_holdsLine_51 : decode cX12_holdsLine 51 = .ok (.iload 6, 2) := by decide +kernel
theorem dX12_holdsLine_53 : decode cX12_holdsLine 53 = .ok (.bipush 10, 2) := by decide +kernel
theorem dX12_holdsLine_55 : decode cX12_holdsLine 55 = .ok (.if_icmp .gt 37, 3) := by decide +kernel
theorem dX12_holdsLine_58 : decode cX12_holdsLine 58 = .ok (.aload_n 0, 1) := by decide +kernel
theorem dX12_holdsLine_59 : decode cX12_holdsLine 59 = .ok (.getfield 39, 3) := by decide +kernel
theorem dX12_holdsLine_62 : decode cX12_holdsLine 62 = .ok (.iload_n 3, 1) := by decide +kernel
theorem dX12_holdsLine_63 : decode cX12_holdsLine 63 = .ok (.aload_n 0, 1) := by decide +kernel
theorem dX12_holdsLine_64 : decode cX12_holdsLine 64 = .ok (.iload 6, 2) := by decide +kernel
theorem dX12_holdsLine_66 : decode cX12_holdsLine 66 = .ok (.aload_n 0, 1) := by decide +kernel
theorem dX12_holdsLine_67 : decode cX12_holdsLine 67 = .ok (.getfield 13, 3) := by decide +kernel
theorem dX12_holdsLine_70 : decode cX12_holdsLine 70 = .ok (.sipush 357, 3) := by decide +kernel
theorem dX12_holdsLine_73 : decode cX12_holdsLine 73 = .ok (.iconst 2, 1) := by decide +kernel
theorem dX12_holdsLine_74 : decode cX12_holdsLine 74 = .ok (.iload 5, 2) := by decide +kernel
theorem dX12_holdsLine_76 : decode cX12_holdsLine 76 = .ok (.imul, 1) := by decide +kernel
theorem dX12_holdsLine_77 : decode cX12_holdsLine 77 = .ok (.iadd, 1) := by decide +kernel
theorem dX12_holdsLine_78 : decode cX12_holdsLine 78 = .ok (.iconst 1, 1) := by decide +kernel
theorem dX12_holdsLine_79 : decode cX12_holdsLine 79 = .ok (.iadd, 1) := by decide +kernel
theorem dX12_holdsLine_80 : decode cX12_holdsLine 80 = .ok (.iaload, 1) := by decide +kernel
theorem dX12_holdsLine_81 : decode cX12_holdsLine 81 = .ok (.iload_n 2, 1) := by decide +kernel
theorem dX12_holdsLine_82 : decode cX12_holdsLine 82 = .ok (.invokevirtual 292, 3) := by decide +kernel
theorem dX12_holdsLine_85 : decode cX12_holdsLine 85 = .ok (.iastore, 1) := by decide +kernel
theorem dX12_holdsLine_86 : decode cX12_holdsLine 86 = .ok (.iinc 3 1, 3) := by decide +kernel
theorem dX12_holdsLine_89 : decode cX12_holdsLine 89 = .ok (.goto 168, 3) := by decide +kernel
theorem dX12_holdsLine_92 : decode cX12_holdsLine 92 = .ok (.iload 6, 2) := by decide +kernel
theorem dX12_holdsLine_94 : decode cX12_holdsLine 94 = .ok (.bipush 14, 2) := by decide +kernel
theorem dX12_holdsLine_96 : decode cX12_holdsLine 96 = .ok (.if_icmp .ne 24, 3) := by decide +kernel
theorem dX12_holdsLine_99 : decode cX12_holdsLine 99 = .ok (.aload_n 0, 1) := by decide +kernel
theorem dX12_holdsLine_100 : decode cX12_holdsLine 100 = .ok (.getfield 39, 3) := by decide +kernel
theorem dX12_holdsLine_103 : decode cX12_holdsLine 103 = .ok (.iload_n 3, 1) := by decide +kernel
theorem dX12_holdsLine_104 : decode cX12_holdsLine 104 = .ok (.iconst 1, 1) := by decide +kernel
theorem dX12_holdsLine_105 : decode cX12_holdsLine 105 = .ok (.isub, 1) := by decide +kernel
theorem dX12_holdsLine_106 : decode cX12_holdsLine 106 = .ok (.iconst 1, 1) := by decide +kernel
theorem dX12_holdsLine_107 : decode cX12_holdsLine 107 = .ok (.aload_n 0, 1) := by decide +kernel
theorem dX12_holdsLine_108 : decode cX12_holdsLine 108 = .ok (.getfield 39, 3) := by decide +kernel
theorem dX12_holdsLine_111 : decode cX12_holdsLine 111 = .ok (.iload_n 3, 1) := by decide +kernel
theorem dX12_holdsLine_112 : decode cX12_holdsLine 112 = .ok (.iconst 1, 1) := by decide +kernel
theorem dX12_holdsLine_113 : decode cX12_holdsLine 113 = .ok (.isub, 1) := by decide +kernel
theorem dX12_holdsLine_114 : decode cX12_holdsLine 114 = .ok (.iaload, 1) := by decide +kernel
theorem dX12_holdsLine_115 : decode cX12_holdsLine 115 = .ok (.isub, 1) := by decide +kernel
theorem dX12_holdsLine_116 : decode cX12_holdsLine 116 = .ok (.iastore, 1) := by decide +kernel
theorem dX12_holdsLine_117 : decode cX12_holdsLine 117 = .ok (.goto 140, 3) := by decide +kernel
theorem dX12_holdsLine_120 : decode cX12_holdsLine 120 = .ok (.iinc 3 (-1), 3) := by decide +kernel
theorem dX12_holdsLine_123 : decode cX12_holdsLine 123 = .ok (.aload_n 0, 1) := by decide +kernel
theorem dX12_holdsLine_124 : decode cX12_holdsLine 124 = .ok (.getfield 39, 3) := by decide +kernel
theorem dX12_holdsLine_127 : decode cX12_holdsLine 127 = .ok (.iload_n 3, 1) := by decide +kernel
theorem dX12_holdsLine_128 : decode cX12_holdsLine 128 = .ok (.iconst 1, 1) := by decide +kernel
theorem dX12_holdsLine_129 : decode cX12_holdsLine 129 = .ok (.isub, 1) := by decide +kernel
theorem dX12_holdsLine_130 : decode cX12_holdsLine 130 = .ok (.iaload, 1) := by decide +kernel
theorem dX12_holdsLine_131 : decode cX12_holdsLine 131 = .ok (.istore 7, 2) := by decide +kernel
theorem dX12_holdsLine_133 : decode cX12_holdsLine 133 = .ok (.aload_n 0, 1) := by decide +kernel
theorem dX12_holdsLine_134 : decode cX12_holdsLine 134 = .ok (.getfield 39, 3) := by decide +kernel
theorem dX12_holdsLine_137 : decode cX12_holdsLine 137 = .ok (.iload_n 3, 1) := by decide +kernel
theorem dX12_holdsLine_138 : decode cX12_holdsLine 138 = .ok (.iaload, 1) := by decide +kernel
theorem dX12_holdsLine_139 : decode cX12_holdsLine 139 = .ok (.istore 8, 2) := by decide +kernel
theorem dX12_holdsLine_141 : decode cX12_holdsLine 141 = .ok (.iload 6, 2) := by decide +kernel
theorem dX12_holdsLine_143 : decode cX12_holdsLine 143 = .ok (.bipush 12, 2) := by decide +kernel
theorem dX12_holdsLine_145 : decode cX12_holdsLine 145 = .ok (.if_icmp .ne 18, 3) := by decide +kernel
theorem dX12_holdsLine_148 : decode cX12_holdsLine 148 = .ok (.iload 7, 2) := by decide +kernel
theorem dX12_holdsLine_150 : decode cX12_holdsLine 150 = .ok (.iload 8, 2) := by decide +kernel
theorem dX12_holdsLine_152 : decode cX12_holdsLine 152 = .ok (.if_icmp .ge 7, 3) := by decide +kernel
theorem dX12_holdsLine_155 : decode cX12_holdsLine 155 = .ok (.iconst 1, 1) := by decide +kernel
theorem dX12_holdsLine_156 : decode cX12_holdsLine 156 = .ok (.goto 66, 3) := by decide +kernel
theorem dX12_holdsLine_159 : decode cX12_holdsLine 159 = .ok (.iconst 0, 1) := by decide +kernel
theorem dX12_holdsLine_160 : decode cX12_holdsLine 160 = .ok (.goto 62, 3) := by decide +kernel
theorem dX12_holdsLine_163 : decode cX12_holdsLine 163 = .ok (.iload 6, 2) := by decide +kernel
theorem dX12_holdsLine_165 : decode cX12_holdsLine 165 = .ok (.bipush 13, 2) := by decide +kernel
theorem dX12_holdsLine_167 : decode cX12_holdsLine 167 = .ok (.if_icmp .ne 18, 3) := by decide +kernel
theorem dX12_holdsLine_170 : decode cX12_holdsLine 170 = .ok (.iload 7, 2) := by decide +kernel
theorem dX12_holdsLine_172 : decode cX12_holdsLine 172 = .ok (.iload 8, 2) := by decide +kernel
theorem dX12_holdsLine_174 : decode cX12_holdsLine 174 = .ok (.if_icmp .le 7, 3) := by decide +kernel
theorem dX12_holdsLine_177 : decode cX12_holdsLine 177 = .ok (.iconst 1, 1) := by decide +kernel
theorem dX12_holdsLine_178 : decode cX12_holdsLine 178 = .ok (.goto 44, 3) := by decide +kernel
theorem dX12_holdsLine_181 : decode cX12_holdsLine 181 = .ok (.iconst 0, 1) := by decide +kernel
theorem dX12_holdsLine_182 : decode cX12_holdsLine 182 = .ok (.goto 40, 3) := by decide +kernel
theorem dX12_holdsLine_185 : decode cX12_holdsLine 185 = .ok (.iload 6, 2) := by decide +kernel
theorem dX12_holdsLine_187 : decode cX12_holdsLine 187 = .ok (.bipush 15, 2) := by decide +kernel
theorem dX12_holdsLine_189 : decode cX12_holdsLine 189 = .ok (.if_icmp .ne 20, 3) := by decide +kernel
theorem dX12_holdsLine_192 : decode cX12_holdsLine 192 = .ok (.iload 7, 2) := by decide +kernel
theorem dX12_holdsLine_194 : decode cX12_holdsLine 194 = .ok (.iload 8, 2) := by decide +kernel
theorem dX12_holdsLine_196 : decode cX12_holdsLine 196 = .ok (.iadd, 1) := by decide +kernel
theorem dX12_holdsLine_197 : decode cX12_holdsLine 197 = .ok (.iconst 2, 1) := by decide +kernel
theorem dX12_holdsLine_198 : decode cX12_holdsLine 198 = .ok (.if_icmp .ne 7, 3) := by decide +kernel
theorem dX12_holdsLine_201 : decode cX12_holdsLine 201 = .ok (.iconst 1, 1) := by decide +kernel
theorem dX12_holdsLine_202 : decode cX12_holdsLine 202 = .ok (.goto 20, 3) := by decide +kernel
theorem dX12_holdsLine_205 : decode cX12_holdsLine 205 = .ok (.iconst 0, 1) := by decide +kernel
theorem dX12_holdsLine_206 : decode cX12_holdsLine 206 = .ok (.goto 16, 3) := by decide +kernel
theorem dX12_holdsLine_209 : decode cX12_holdsLine 209 = .ok (.iload 7, 2) := by decide +kernel
theorem dX12_holdsLine_211 : decode cX12_holdsLine 211 = .ok (.iload 8, 2) := by decide +kernel
theorem dX12_holdsLine_213 : decode cX12_holdsLine 213 = .ok (.iadd, 1) := by decide +kernel
theorem dX12_holdsLine_214 : decode cX12_holdsLine 214 = .ok (.ifCond .le 7, 3) := by decide +kernel
theorem dX12_holdsLine_217 : decode cX12_holdsLine 217 = .ok (.iconst 1, 1) := by decide +kernel
theorem dX12_holdsLine_218 : decode cX12_holdsLine 218 = .ok (.goto 4, 3) := by decide +kernel
theorem dX12_holdsLine_221 : decode cX12_holdsLine 221 = .ok (.iconst 0, 1) := by decide +kernel
theorem dX12_holdsLine_222 : decode cX12_holdsLine 222 = .ok (.istore 9, 2) := by decide +kernel
theorem dX12_holdsLine_224 : decode cX12_holdsLine 224 = .ok (.aload_n 0, 1) := by decide +kernel
theorem dX12_holdsLine_225 : decode cX12_holdsLine 225 = .ok (.getfield 39, 3) := by decide +kernel
theorem dX12_holdsLine_228 : decode cX12_holdsLine 228 = .ok (.iload_n 3, 1) := by decide +kernel
theorem dX12_holdsLine_229 : decode cX12_holdsLine 229 = .ok (.iconst 1, 1) := by decide +kernel
theorem dX12_holdsLine_230 : decode cX12_holdsLine 230 = .ok (.isub, 1) := by decide +kernel
theorem dX12_holdsLine_231 : decode cX12_holdsLine 231 = .ok (.iload 6, 2) := by decide +kernel
theorem dX12_holdsLine_233 : decode cX12_holdsLine 233 = .ok (.bipush 11, 2) := by decide +kernel
theorem dX12_holdsLine_235 : decode cX12_holdsLine 235 = .ok (.if_icmp .ne 11, 3) := by decide +kernel
theorem dX12_holdsLine_238 : decode cX12_holdsLine 238 = .ok (.iload 7, 2) := by decide +kernel
theorem dX12_holdsLine_240 : decode cX12_holdsLine 240 = .ok (.iload 8, 2) := by decide +kernel
theorem dX12_holdsLine_242 : decode cX12_holdsLine 242 = .ok (.iadd, 1) := by decide +kernel
theorem dX12_holdsLine_243 : decode cX12_holdsLine 243 = .ok (.goto 13, 3) := by decide +kernel
theorem dX12_holdsLine_246 : decode cX12_holdsLine 246 = .ok (.iload 9, 2) := by decide +kernel
theorem dX12_holdsLine_248 : decode cX12_holdsLine 248 = .ok (.ifCond .eq 7, 3) := by decide +kernel
theorem dX12_holdsLine_251 : decode cX12_holdsLine 251 = .ok (.iconst 1, 1) := by decide +kernel
theorem dX12_holdsLine_252 : decode cX12_holdsLine 252 = .ok (.goto 4, 3) := by decide +kernel
theorem dX12_holdsLine_255 : decode cX12_holdsLine 255 = .ok (.iconst 0, 1) := by decide +kernel
theorem dX12_holdsLine_256 : decode cX12_holdsLine 256 = .ok (.iastore, 1) := by decide +kernel
theorem dX12_holdsLine_257 : decode cX12_holdsLine 257 = .ok (.iinc 5 1, 3) := by decide +kernel
theorem dX12_holdsLine_260 : decode cX12_holdsLine 260 = .ok (.goto (-238), 3) := by decide +kernel
theorem dX12_holdsLine_263 : decode cX12_holdsLine 263 = .ok (.iload_n 3, 1) := by decide +kernel
theorem dX12_holdsLine_264 : decode cX12_holdsLine 264 = .ok (.ifCond .eq 13, 3) := by decide +kernel
theorem dX12_holdsLine_267 : decode cX12_holdsLine 267 = .ok (.aload_n 0, 1) := by decide +kernel
theorem dX12_holdsLine_268 : decode cX12_holdsLine 268 = .ok (.getfield 39, 3) := by decide +kernel
theorem dX12_holdsLine_271 : decode cX12_holdsLine 271 = .ok (.iconst 0, 1) := by decide +kernel
theorem dX12_holdsLine_272 : decode cX12_holdsLine 272 = .ok (.iaload, 1) := by decide +kernel
theorem dX12_holdsLine_273 : decode cX12_holdsLine 273 = .ok (.iconst 1, 1) := by decide +kernel
theorem dX12_holdsLine_274 : decode cX12_holdsLine 274 = .ok (.if_icmp .ne 7, 3) := by decide +kernel
theorem dX12_holdsLine_277 : decode cX12_holdsLine 277 = .ok (.iconst 1, 1) := by decide +kernel
theorem dX12_holdsLine_278 : decode cX12_holdsLine 278 = .ok (.goto 4, 3) := by decide +kernel
theorem dX12_holdsLine_281 : decode cX12_holdsLine 281 = .ok (.iconst 0, 1) := by decide +kernel
theorem dX12_holdsLine_282 : decode cX12_holdsLine 282 = .ok (.ireturn, 1) := by decide +kernel
theorem dX12_strideOf_0 : decode cX12_strideOf 0 = .ok (.aload_n 0, 1) := by decide +kernel
theorem dX12_strideOf_1 : decode cX12_strideOf 1 = .ok (.iload_n 1, 1) := by decide +kernel
theorem dX12_strideOf_2 : decode cX12_strideOf 2 = .ok (.iconst 1, 1) := by decide +kernel
theorem dX12_strideOf_3 : decode cX12_strideOf 3 = .ok (.invokevirtual 88, 3) := by decide +kernel
theorem dX12_strideOf_6 : decode cX12_strideOf 6 = .ok (.istore_n 2, 1) := by decide +kernel
theorem dX12_strideOf_7 : decode cX12_strideOf 7 = .ok (.iconst 0, 1) := by decide +kernel
theorem dX12_strideOf_8 : decode cX12_strideOf 8 = .ok (.istore_n 3, 1) := by decide +kernel
theorem dX12_strideOf_9 : decode cX12_strideOf 9 = .ok (.iconst 0, 1) := by decide +kernel
theorem dX12_strideOf_10 : decode cX12_strideOf 10 = .ok (.istore 4, 2) := by decide +kernel
theorem dX12_strideOf_12 : decode cX12_strideOf 12 = .ok (.aload_n 0, 1) := by decide +kernel
theorem dX12_strideOf_13 : decode cX12_strideOf 13 = .ok (.getfield 13, 3) := by decide +kernel
theorem dX12_strideOf_16 : decode cX12_strideOf 16 = .ok (.iconst 3, 1) := by decide +kernel
theorem dX12_strideOf_17 : decode cX12_strideOf 17 = .ok (.iaload, 1) := by decide +kernel
theorem dX12_strideOf_18 : decode cX12_strideOf 18 = .ok (.iconst 1, 1) := by decide +kernel
theorem dX12_strideOf_19 : decode cX12_strideOf 19 = .ok (.if_icmp .ne 100, 3) := by decide +kernel
theorem dX12_strideOf_22 : decode cX12_strideOf 22 = .ok (.iload 4, 2) := by decide +kernel
theorem dX12_strideOf_24 : decode cX12_strideOf 24 = .ok (.aload_n 0, 1) := by decide +kernel
theorem dX12_strideOf_25 : decode cX12_strideOf 25 = .ok (.getfield 13, 3) := by decide +kernel
theorem dX12_strideOf_28 : decode cX12_strideOf 28 = .ok (.sipush 308, 3) := by decide +kernel
theorem dX12_strideOf_31 : decode cX12_strideOf 31 = .ok (.iaload, 1) := by decide +kernel
theorem dX12_strideOf_32 : decode cX12_strideOf 32 = .ok (.if_icmp .ge 87, 3) := by decide +kernel
theorem dX12_strideOf_35 : decode cX12_strideOf 35 = .ok (.aload_n 0, 1) := by decide +kernel
theorem dX12_strideOf_36 : decode cX12_strideOf 36 = .ok (.iload 4, 2) := by decide +kernel
theorem dX12_strideOf_38 : decode cX12_strideOf 38 = .ok (.iload_n 1, 1) := by decide +kernel
theorem dX12_strideOf_39 : decode cX12_strideOf 39 = .ok (.invokevirtual 296, 3) := by decide +kernel
theorem dX12_strideOf_42 : decode cX12_strideOf 42 = .ok (.ifCond .ne 6, 3) := by decide +kernel
theorem dX12_strideOf_45 : decode cX12_strideOf 45 = .ok (.goto 68, 3) := by decide +kernel
theorem dX12_strideOf_48 : decode cX12_strideOf 48 = .ok (.aload_n 0, 1) := by decide +kernel
theorem dX12_strideOf_49 : decode cX12_strideOf 49 = .ok (.getfield 13, 3) := by decide +kernel
theorem dX12_strideOf_52 : decode cX12_strideOf 52 = .ok (.sipush 309, 3) := by decide +kernel
theorem dX12_strideOf_55 : decode cX12_strideOf 55 = .ok (.iconst 4, 1) := by decide +kernel
theorem dX12_strideOf_56 : decode cX12_strideOf 56 = .ok (.iload 4, 2) := by decide +kernel
theorem dX12_strideOf_58 : decode cX12_strideOf 58 = .ok (.imul, 1) := by decide +kernel
theorem dX12_strideOf_59 : decode cX12_strideOf 59 = .ok (.iadd, 1) := by decide +kernel
theorem dX12_strideOf_60 : decode cX12_strideOf 60 = .ok (.iaload, 1) := by decide +kernel
theorem dX12_strideOf_61 : decode cX12_strideOf 61 = .ok (.istore 5, 2) := by decide +kernel
theorem dX12_strideOf_63 : decode cX12_strideOf 63 = .ok (.aload_n 0, 1) := by decide +kernel
theorem dX12_strideOf_64 : decode cX12_strideOf 64 = .ok (.getfield 13, 3) := by decide +kernel
theorem dX12_strideOf_67 : decode cX12_strideOf 67 = .ok (.sipush 309, 3) := by decide +kernel
theorem dX12_strideOf_70 : decode cX12_strideOf 70 = .ok (.iconst 4, 1) := by decide +kernel
theorem dX12_strideOf_71 : decode cX12_strideOf 71 = .ok (.iload 4, 2) := by decide +kernel
theorem dX12_strideOf_73 : decode cX12_strideOf 73 = .ok (.imul, 1) := by decide +kernel
theorem dX12_strideOf_74 : decode cX12_strideOf 74 = .ok (.iadd, 1) := by decide +kernel
theorem dX12_strideOf_75 : decode cX12_strideOf 75 = .ok (.iconst 1, 1) := by decide +kernel
theorem dX12_strideOf_76 : decode cX12_strideOf 76 = .ok (.iadd, 1) := by decide +kernel
theorem dX12_strideOf_77 : decode cX12_strideOf 77 = .ok (.iaload, 1) := by decide +kernel
theorem dX12_strideOf_78 : decode cX12_strideOf 78 = .ok (.istore 6, 2) := by decide +kernel
theorem dX12_strideOf_80 : decode cX12_strideOf 80 = .ok (.iload_n 3, 1) := by decide +kernel
theorem dX12_strideOf_81 : decode cX12_strideOf 81 = .ok (.ifCond .ne 9, 3) := by decide +kernel
theorem dX12_strideOf_84 : decode cX12_strideOf 84 = .ok (.iload 5, 2) := by decide +kernel
theorem dX12_strideOf_86 : decode cX12_strideOf 86 = .ok (.iconst 2, 1) := by decide +kernel
theorem dX12_strideOf_87 : decode cX12_strideOf 87 = .ok (.if_icmp .ne 7, 3) := by decide +kernel
theorem dX12_strideOf_90 : decode cX12_strideOf 90 = .ok (.iconst 1, 1) := by decide +kernel
theorem dX12_strideOf_91 : decode cX12_strideOf 91 = .ok (.goto 4, 3) := by decide +kernel
theorem dX12_strideOf_94 : decode cX12_strideOf 94 = .ok (.iconst 0, 1) := by decide +kernel
theorem dX12_strideOf_95 : decode cX12_strideOf 95 = .ok (.istore_n 3, 1) := by decide +kernel
theorem dX12_strideOf_96 : decode cX12_strideOf 96 = .ok (.iload_n 2, 1) := by decide +kernel
theorem dX12_strideOf_97 : decode cX12_strideOf 97 = .ok (.iload 5, 2) := by decide +kernel
theorem dX12_strideOf_99 : decode cX12_strideOf 99 = .ok (.iconst 1, 1) := by decide +kernel
theorem dX12_strideOf_100 : decode cX12_strideOf 100 = .ok (.if_icmp .ne 8, 3) := by decide +kernel
theorem dX12_strideOf_103 : decode cX12_strideOf 103 = .ok (.iload 6, 2) := by decide +kernel
theorem dX12_strideOf_105 : decode cX12_strideOf 105 = .ok (.goto 6, 3) := by decide +kernel
theorem dX12_strideOf_108 : decode cX12_strideOf 108 = .ok (.iload 6, 2) := by decide +kernel
theorem dX12_strideOf_110 : decode cX12_strideOf 110 = .ok (.ineg, 1) := by decide +kernel
theorem dX12_strideOf_111 : decode cX12_strideOf 111 = .ok (.iadd, 1) := by decide +kernel
theorem dX12_strideOf_112 : decode cX12_strideOf 112 = .ok (.istore_n 2, 1) := by decide +kernel
theorem dX12_strideOf_113 : decode cX12_strideOf 113 = .ok (.iinc 4 1, 3) := by decide +kernel
theorem dX12_strideOf_116 : decode cX12_strideOf 116 = .ok (.goto (-104), 3) := by decide +kernel
theorem dX12_strideOf_119 : decode cX12_strideOf 119 = .ok (.iload_n 3, 1) := by decide +kernel
theorem dX12_strideOf_120 : decode cX12_strideOf 120 = .ok (.ifCond .eq 7, 3) := by decide +kernel
theorem dX12_strideOf_123 : decode cX12_strideOf 123 = .ok (.iconst 0, 1) := by decide +kernel
theorem dX12_strideOf_124 : decode cX12_strideOf 124 = .ok (.goto 17, 3) := by decide +kernel
theorem dX12_strideOf_127 : decode cX12_strideOf 127 = .ok (.iconst 0, 1) := by decide +kernel
theorem dX12_strideOf_128 : decode cX12_strideOf 128 = .ok (.aload_n 0, 1) := by decide +kernel
theorem dX12_strideOf_129 : decode cX12_strideOf 129 = .ok (.invokevirtual 84, 3) := by decide +kernel
theorem dX12_strideOf_132 : decode cX12_strideOf 132 = .ok (.iconst 1, 1) := by decide +kernel
theorem dX12_strideOf_133 : decode cX12_strideOf 133 = .ok (.isub, 1) := by decide +kernel
theorem dX12_strideOf_134 : decode cX12_strideOf 134 = .ok (.iload_n 2, 1) := by decide +kernel
theorem dX12_strideOf_135 : decode cX12_strideOf 135 = .ok (.invokestatic 146, 3) := by decide +kernel
theorem dX12_strideOf_138 : decode cX12_strideOf 138 = .ok (.invokestatic 299, 3) := by decide +kernel
theorem dX12_strideOf_141 : decode cX12_strideOf 141 = .ok (.ireturn, 1) := by decide +kernel
theorem dX12_isTold_0 : decode cX12_isTold 0 = .ok (.sipush 239, 3) := by decide +kernel
theorem dX12_isTold_3 : decode cX12_isTold 3 = .ok (.istore_n 3, 1) := by decide +kernel
theorem dX12_isTold_4 : decode cX12_isTold 4 = .ok (.iload_n 3, 1) := by decide +kernel
theorem dX12_isTold_5 : decode cX12_isTold 5 = .ok (.iconst 4, 1) := by decide +kernel
theorem dX12_isTold_6 : decode cX12_isTold 6 = .ok (.if_icmp .lt 29, 3) := by decide +kernel
theorem dX12_isTold_9 : decode cX12_isTold 9 = .ok (.aload_n 0, 1) := by decide +kernel
theorem dX12_isTold_10 : decode cX12_isTold 10 = .ok (.getfield 13, 3) := by decide +kernel
theorem dX12_isTold_13 : decode cX12_isTold 13 = .ok (.bipush 68, 2) := by decide +kernel
theorem dX12_isTold_15 : decode cX12_isTold 15 = .ok (.iload_n 3, 1) := by decide +kernel
theorem dX12_isTold_16 : decode cX12_isTold 16 = .ok (.iadd, 1) := by decide +kernel
theorem dX12_isTold_17 : decode cX12_isTold 17 = .ok (.aload_n 0, 1) := by decide +kernel
theorem dX12_isTold_18 : decode cX12_isTold 18 = .ok (.getfield 13, 3) := by decide +kernel
theorem dX12_isTold_21 : decode cX12_isTold 21 = .ok (.bipush 68, 2) := by decide +kernel
theorem dX12_isTold_23 : decode cX12_isTold 23 = .ok (.iload_n 3, 1) := by decide +kernel
theorem dX12_isTold_24 : decode cX12_isTold 24 = .ok (.iadd, 1) := by decide +kernel
theorem dX12_isTold_25 : decode cX12_isTold 25 = .ok (.iconst 4, 1) := by decide +kernel
theorem dX12_isTold_26 : decode cX12_isTold 26 = .ok (.isub, 1) := by decide +kernel
theorem dX12_isTold_27 : decode cX12_isTold 27 = .ok (.iaload, 1) := by decide +kernel
theorem dX12_isTold_28 : decode cX12_isTold 28 = .ok (.iastore, 1) := by decide +kernel
theorem dX12_isTold_29 : decode cX12_isTold 29 = .ok (.iinc 3 (-1), 3) := by decide +kernel
theorem dX12_isTold_32 : decode cX12_isTold 32 = .ok (.goto (-28), 3) := by decide +kernel
theorem dX12_isTold_35 : decode cX12_isTold 35 = .ok (.aload_n 0, 1) := by decide +kernel
theorem dX12_isTold_36 : decode cX12_isTold 36 = .ok (.getfield 13, 3) := by decide +kernel
theorem dX12_isTold_39 : decode cX12_isTold 39 = .ok (.bipush 68, 2) := by decide +kernel
theorem dX12_isTold_41 : decode cX12_isTold 41 = .ok (.aload_n 0, 1) := by decide +kernel
theorem dX12_isTold_42 : decode cX12_isTold 42 = .ok (.getfield 13, 3) := by decide +kernel
theorem dX12_isTold_45 : decode cX12_isTold 45 = .ok (.bipush 6, 2) := by decide +kernel
theorem dX12_isTold_47 : decode cX12_isTold 47 = .ok (.iaload, 1) := by decide +kernel
theorem dX12_isTold_48 : decode cX12_isTold 48 = .ok (.iastore, 1) := by decide +kernel
theorem dX12_isTold_49 : decode cX12_isTold 49 = .ok (.aload_n 0, 1) := by decide +kernel
theorem dX12_isTold_50 : decode cX12_isTold 50 = .ok (.getfield 13, 3) := by decide +kernel
theorem dX12_isTold_53 : decode cX12_isTold 53 = .ok (.bipush 69, 2) := by decide +kernel
theorem dX12_isTold_55 : decode cX12_isTold 55 = .ok (.iload_n 1, 1) := by decide +kernel
theorem dX12_isTold_56 : decode cX12_isTold 56 = .ok (.iastore, 1) := by decide +kernel
theorem dX12_isTold_57 : decode cX12_isTold 57 = .ok (.aload_n 0, 1) := by decide +kernel
theorem dX12_isTold_58 : decode cX12_isTold 58 = .ok (.getfield 13, 3) := by decide +kernel
theorem dX12_isTold_61 : decode cX12_isTold 61 = .ok (.bipush 70, 2) := by decide +kernel
theorem dX12_isTold_63 : decode cX12_isTold 63 = .ok (.iload_n 2, 1) := by decide +kernel
theorem dX12_isTold_64 : decode cX12_isTold 64 = .ok (.iastore, 1) := by decide +kernel
theorem dX12_isTold_65 : decode cX12_isTold 65 = .ok (.aload_n 0, 1) := by decide +kernel
theorem dX12_isTold_66 : decode cX12_isTold 66 = .ok (.getfield 13, 3) := by decide +kernel
theorem dX12_isTold_69 : decode cX12_isTold 69 = .ok (.bipush 71, 2) := by decide +kernel
theorem dX12_isTold_71 : decode cX12_isTold 71 = .ok (.aload_n 0, 1) := by decide +kernel
theorem dX12_isTold_72 : decode cX12_isTold 72 = .ok (.iload_n 2, 1) := by decide +kernel
theorem dX12_isTold_73 : decode cX12_isTold 73 = .ok (.iconst 0, 1) := by decide +kernel
theorem dX12_isTold_74 : decode cX12_isTold 74 = .ok (.invokevirtual 88, 3) := by decide +kernel
theorem dX12_isTold_77 : decode cX12_isTold 77 = .ok (.iastore, 1) := by decide +kernel
theorem dX12_isTold_78 : decode cX12_isTold 78 = .ok (.aload_n 0, 1) := by decide +kernel
theorem dX12_isTold_79 : decode cX12_isTold 79 = .ok (.getfield 13, 3) := by decide +kernel
theorem dX12_isTold_82 : decode cX12_isTold 82 = .ok (.bipush 9, 2) := by decide +kernel
theorem dX12_isTold_84 : decode cX12_isTold 84 = .ok (.bipush 60, 2) := by decide +kernel
theorem dX12_isTold_86 : decode cX12_isTold 86 = .ok (.aload_n 0, 1) := by decide +kernel
theorem dX12_isTold_87 : decode cX12_isTold 87 = .ok (.getfield 13, 3) := by decide +kernel
theorem dX12_isTold_90 : decode cX12_isTold 90 = .ok (.bipush 9, 2) := by decide +kernel
theorem dX12_isTold_92 : decode cX12_isTold 92 = .ok (.iaload, 1) := by decide +kernel
theorem dX12_isTold_93 : decode cX12_isTold 93 = .ok (.iconst 1, 1) := by decide +kernel
theorem dX12_isTold_94 : decode cX12_isTold 94 = .ok (.iadd, 1) := by decide +kernel
theorem dX12_isTold_95 : decode cX12_isTold 95 = .ok (.invokestatic 146, 3) := by decide +kernel
theorem dX12_isTold_98 : decode cX12_isTold 98 = .ok (.iastore, 1) := by decide +kernel
theorem dX12_isTold_99 : decode cX12_isTold 99 = .ok (.return_, 1) := by decide +kernel
theorem dX12_greets_0 : decode cX12_greets 0 = .ok (.aload_n 0, 1) := by decide +kernel
theorem dX12_greets_1 : decode cX12_greets 1 = .ok (.getfield 13, 3) := by decide +kernel
theorem dX12_greets_4 : decode cX12_greets 4 = .ok (.iload_n 1, 1) := by decide +kernel
theorem dX12_greets_5 : decode cX12_greets 5 = .ok (.bipush 6, 2) := by decide +kernel
theorem dX12_greets_7 : decode cX12_greets 7 = .ok (.invokestatic 77, 3) := by decide +kernel
theorem dX12_greets_10 : decode cX12_greets 10 = .ok (.dup2, 1) := by decide +kernel
theorem dX12_greets_11 : decode cX12_greets 11 = .ok (.iaload, 1) := by decide +kernel
theorem dX12_greets_12 : decode cX12_greets 12 = .ok (.iconst 1, 1) := by decide +kernel
theorem dX12_greets_13 : decode cX12_greets 13 = .ok (.iload_n 2, 1) := by decide +kernel
theorem dX12_greets_14 : decode cX12_greets 14 = .ok (.ishl, 1) := by decide +kernel
theorem dX12_greets_15 : decode cX12_greets 15 = .ok (.ior, 1) := by decide +kernel
theorem dX12_greets_16 : decode cX12_greets 16 = .ok (.iastore, 1) := by decide +kernel
theorem dX12_greets_17 : decode cX12_greets 17 = .ok (.aload_n 0, 1) := by decide +kernel
theorem dX12_greets_18 : decode cX12_greets 18 = .ok (.getfield 13, 3) := by decide +kernel
theorem dX12_greets_21 : decode cX12_greets 21 = .ok (.iload_n 1, 1) := by decide +kernel
theorem dX12_greets_22 : decode cX12_greets 22 = .ok (.iconst 4, 1) := by decide +kernel
theorem dX12_greets_23 : decode cX12_greets 23 = .ok (.invokestatic 77, 3) := by decide +kernel
theorem dX12_greets_26 : decode cX12_greets 26 = .ok (.sipush 999, 3) := by decide +kernel
theorem dX12_greets_29 : decode cX12_greets 29 = .ok (.aload_n 0, 1) := by decide +kernel
theorem dX12_greets_30 : decode cX12_greets 30 = .ok (.iload_n 1, 1) := by decide +kernel
theorem dX12_greets_31 : decode cX12_greets 31 = .ok (.iconst 4, 1) := by decide +kernel
theorem dX12_greets_32 : decode cX12_greets 32 = .ok (.invokevirtual 88, 3) := by decide +kernel
theorem dX12_greets_35 : decode cX12_greets 35 = .ok (.iconst 1, 1) := by decide +kernel
theorem dX12_greets_36 : decode cX12_greets 36 = .ok (.iadd, 1) := by decide +kernel
theorem dX12_greets_37 : decode cX12_greets 37 = .ok (.invokestatic 146, 3) := by decide +kernel
theorem dX12_greets_40 : decode cX12_greets 40 = .ok (.iastore, 1) := by decide +kernel
theorem dX12_greets_41 : decode cX12_greets 41 = .ok (.aload_n 0, 1) := by decide +kernel
theorem dX12_greets_42 : decode cX12_greets 42 = .ok (.getfield 42, 3) := by decide +kernel
theorem dX12_greets_45 : decode cX12_greets 45 = .ok (.iload_n 1, 1) := by decide +kernel
theorem dX12_greets_46 : decode cX12_greets 46 = .ok (.dup2, 1) := by decide +kernel
theorem dX12_greets_47 : decode cX12_greets 47 = .ok (.iaload, 1) := by decide +kernel
theorem dX12_greets_48 : decode cX12_greets 48 = .ok (.iconst 1, 1) := by decide +kernel
theorem dX12_greets_49 : decode cX12_greets 49 = .ok (.iload_n 2, 1) := by decide +kernel
theorem dX12_greets_50 : decode cX12_greets 50 = .ok (.ishl, 1) := by decide +kernel
theorem dX12_greets_51 : decode cX12_greets 51 = .ok (.ior, 1) := by decide +kernel
theorem dX12_greets_52 : decode cX12_greets 52 = .ok (.iastore, 1) := by decide +kernel
theorem dX12_greets_53 : decode cX12_greets 53 = .ok (.return_, 1) := by decide +kernel
theorem dX12_goesBy_0 : decode cX12_goesBy 0 = .ok (.aload_n 0, 1) := by decide +kernel
theorem dX12_goesBy_1 : decode cX12_goesBy 1 = .ok (.getfield 45, 3) := by decide +kernel
theorem dX12_goesBy_4 : decode cX12_goesBy 4 = .ok (.iload_n 1, 1) := by decide +kernel
theorem dX12_goesBy_5 : decode cX12_goesBy 5 = .ok (.if_icmp .ne 7, 3) := by decide +kernel
theorem dX12_goesBy_8 : decode cX12_goesBy 8 = .ok (.iconst 0, 1) := by decide +kernel
theorem dX12_goesBy_9 : decode cX12_goesBy 9 = .ok (.goto 8, 3) := by decide +kernel
theorem dX12_goesBy_12 : decode cX12_goesBy 12 = .ok (.aload_n 0, 1) := by decide +kernel
theorem dX12_goesBy_13 : decode cX12_goesBy 13 = .ok (.iload_n 1, 1) := by decide +kernel
theorem dX12_goesBy_14 : decode cX12_goesBy 14 = .ok (.invokevirtual 302, 3) := by decide +kernel
theorem dX12_goesBy_17 : decode cX12_goesBy 17 = .ok (.istore_n 2, 1) := by decide +kernel
theorem dX12_goesBy_18 : decode cX12_goesBy 18 = .ok (.iconst 0, 1) := by decide +kernel
theorem dX12_goesBy_19 : decode cX12_goesBy 19 = .ok (.istore_n 3, 1) := by decide +kernel
theorem dX12_goesBy_20 : decode cX12_goesBy 20 = .ok (.iload_n 3, 1) := by decide +kernel
theorem dX12_goesBy_21 : decode cX12_goesBy 21 = .ok (.aload_n 0, 1) := by decide +kernel
theorem dX12_goesBy_22 : decode cX12_goesBy 22 = .ok (.invokevirtual 94, 3) := by decide +kernel
theorem dX12_goesBy_25 : decode cX12_goesBy 25 = .ok (.if_icmp .ge 44, 3) := by decide +kernel
theorem dX12_goesBy_28 : decode cX12_goesBy 28 = .ok (.aload_n 0, 1) := by decide +kernel
theorem dX12_goesBy_29 : decode cX12_goesBy 29 = .ok (.iload_n 1, 1) := by decide +kernel
theorem dX12_goesBy_30 : decode cX12_goesBy 30 = .ok (.iconst 2, 1) := by decide +kernel
theorem dX12_goesBy_31 : decode cX12_goesBy 31 = .ok (.invokevirtual 88, 3) := by decide +kernel
theorem dX12_goesBy_34 : decode cX12_goesBy 34 = .ok (.iload_n 3, 1) := by decide +kernel
theorem dX12_goesBy_35 : decode cX12_goesBy 35 = .ok (.invokestatic 305, 3) := by decide +kernel
theorem dX12_goesBy_38 : decode cX12_goesBy 38 = .ok (.ifCond .eq 25, 3) := by decide +kernel
theorem dX12_goesBy_41 : decode cX12_goesBy 41 = .ok (.aload_n 0, 1) := by decide +kernel
theorem dX12_goesBy_42 : decode cX12_goesBy 42 = .ok (.iload_n 1, 1) := by decide +kernel
theorem dX12_goesBy_43 : decode cX12_goesBy 43 = .ok (.iload_n 3, 1) := by decide +kernel
theorem dX12_goesBy_44 : decode cX12_goesBy 44 = .ok (.invokevirtual 280, 3) := by decide +kernel
theorem dX12_goesBy_47 : decode cX12_goesBy 47 = .ok (.ifCond .le 16, 3) := by decide +kernel
theorem dX12_goesBy_50 : decode cX12_goesBy 50 = .ok (.iload_n 2, 1) := by decide +kernel
theorem dX12_goesBy_51 : decode cX12_goesBy 51 = .ok (.aload_n 0, 1) := by decide +kernel
theorem dX12_goesBy_52 : decode cX12_goesBy 52 = .ok (.iload_n 1, 1) := by decide +kernel
theorem dX12_goesBy_53 : decode cX12_goesBy 53 = .ok (.iload_n 3, 1) := by decide +kernel
theorem dX12_goesBy_54 : decode cX12_goesBy 54 = .ok (.invokevirtual 280, 3) := by decide +kernel
theorem dX12_goesBy_57 : decode cX12_goesBy 57 = .ok (.iconst 1, 1) := by decide +kernel
theorem dX12_goesBy_58 : decode cX12_goesBy 58 = .ok (.isub, 1) := by decide +kernel
theorem dX12_goesBy_59 : decode cX12_goesBy 59 = .ok (.invokestatic 146, 3) := by decide +kernel
theorem dX12_goesBy_62 : decode cX12_goesBy 62 = .ok (.istore_n 2, 1) := by decide +kernel
theorem dX12_goesBy_63 : decode cX12_goesBy 63 = .ok (.iinc 3 1, 3) := by decide +kernel
theorem dX12_goesBy_66 : decode cX12_goesBy 66 = .ok (.goto (-46), 3) := by decide +kernel
theorem dX12_goesBy_69 : decode cX12_goesBy 69 = .ok (.iload_n 2, 1) := by decide +kernel
theorem dX12_goesBy_70 : decode cX12_goesBy 70 = .ok (.ireturn, 1) := by decide +kernel
theorem dX12_walks_0 : decode cX12_walks 0 = .ok (.aload_n 0, 1) := by decide +kernel
theorem dX12_walks_1 : decode cX12_walks 1 = .ok (.iload_n 1, 1) := by decide +kernel
theorem dX12_walks_2 : decode cX12_walks 2 = .ok (.invokevirtual 308, 3) := by decide +kernel
theorem dX12_walks_5 : decode cX12_walks 5 = .ok (.istore_n 2, 1) := by decide +kernel
theorem dX12_walks_6 : decode cX12_walks 6 = .ok (.iconst 0, 1) := by decide +kernel
theorem dX12_walks_7 : decode cX12_walks 7 = .ok (.istore_n 3, 1) := by decide +kernel
theorem dX12_walks_8 : decode cX12_walks 8 = .ok (.iconst 0, 1) := by decide +kernel
theorem dX12_walks_9 : decode cX12_walks 9 = .ok (.istore 4, 2) := by decide +kernel
theorem dX12_walks_11 : decode cX12_walks 11 = .ok (.iload 4, 2) := by decide +kernel
theorem dX12_walks_13 : decode cX12_walks 13 = .ok (.aload_n 0, 1) := by decide +kernel
theorem dX12_walks_14 : decode cX12_walks 14 = .ok (.invokevirtual 94, 3) := by decide +kernel
theorem dX12_walks_17 : decode cX12_walks 17 = .ok (.if_icmp .ge 57, 3) := by decide +kernel
theorem dX12_walks_20 : decode cX12_walks 20 = .ok (.iload 4, 2) := by decide +kernel
theorem dX12_walks_22 : decode cX12_walks 22 = .ok (.iload_n 1, 1) := by decide +kernel
theorem dX12_walks_23 : decode cX12_walks 23 = .ok (.if_icmp .eq 45, 3) := by decide +kernel
theorem dX12_walks_26 : decode cX12_walks 26 = .ok (.aload_n 0, 1) := by decide +kernel
theorem dX12_walks_27 : decode cX12_walks 27 = .ok (.iload_n 1, 1) := by decide +kernel
theorem dX12_walks_28 : decode cX12_walks 28 = .ok (.iload 4, 2) := by decide +kernel
theorem dX12_walks_30 : decode cX12_walks 30 = .ok (.invokevirtual 280, 3) := by decide +kernel
theorem dX12_walks_33 : decode cX12_walks 33 = .ok (.iconst 1, 1) := by decide +kernel
theorem dX12_walks_34 : decode cX12_walks 34 = .ok (.iload_n 2, 1) := by decide +kernel
theorem dX12_walks_35 : decode cX12_walks 35 = .ok (.invokestatic 97, 3) := by decide +kernel
theorem dX12_walks_38 : decode cX12_walks 38 = .ok (.ifCond .ne 6, 3) := by decide +kernel
theorem dX12_walks_41 : decode cX12_walks 41 = .ok (.goto 27, 3) := by decide +kernel
theorem dX12_walks_44 : decode cX12_walks 44 = .ok (.aload_n 0, 1) := by decide +kernel
theorem dX12_walks_45 : decode cX12_walks 45 = .ok (.iload_n 1, 1) := by decide +kernel
theorem dX12_walks_46 : decode cX12_walks 46 = .ok (.iload 4, 2) := by decide +kernel
theorem dX12_walks_48 : decode cX12_walks 48 = .ok (.invokevirtual 311, 3) := by decide +kernel
theorem dX12_walks_51 : decode cX12_walks 51 = .ok (.aload_n 0, 1) := by decide +kernel
theorem dX12_walks_52 : decode cX12_walks 52 = .ok (.iload 4, 2) := by decide +kernel
theorem dX12_walks_54 : decode cX12_walks 54 = .ok (.iload_n 1, 1) := by decide +kernel
theorem dX12_walks_55 : decode cX12_walks 55 = .ok (.invokevirtual 311, 3) := by decide +kernel
theorem dX12_walks_58 : decode cX12_walks 58 = .ok (.aload_n 0, 1) := by decide +kernel
theorem dX12_walks_59 : decode cX12_walks 59 = .ok (.iload_n 1, 1) := by decide +kernel
theorem dX12_walks_60 : decode cX12_walks 60 = .ok (.iload 4, 2) := by decide +kernel
theorem dX12_walks_62 : decode cX12_walks 62 = .ok (.invokevirtual 314, 3) := by decide +kernel
theorem dX12_walks_65 : decode cX12_walks 65 = .ok (.iinc 3 1, 3) := by decide +kernel
theorem dX12_walks_68 : decode cX12_walks 68 = .ok (.iinc 4 1, 3) := by decide +kernel
theorem dX12_walks_71 : decode cX12_walks 71 = .ok (.goto (-60), 3) := by decide +kernel
theorem dX12_walks_74 : decode cX12_walks 74 = .ok (.aload_n 0, 1) := by decide +kernel
theorem dX12_walks_75 : decode cX12_walks 75 = .ok (.iload_n 1, 1) := by decide +kernel
theorem dX12_walks_76 : decode cX12_walks 76 = .ok (.iconst 0, 1) := by decide +kernel
theorem dX12_walks_77 : decode cX12_walks 77 = .ok (.invokevirtual 88, 3) := by decide +kernel
theorem dX12_walks_80 : decode cX12_walks 80 = .ok (.iload_n 2, 1) := by decide +kernel
theorem dX12_walks_81 : decode cX12_walks 81 = .ok (.iadd, 1) := by decide +kernel
theorem dX12_walks_82 : decode cX12_walks 82 = .ok (.istore 4, 2) := by decide +kernel
theorem dX12_walks_84 : decode cX12_walks 84 = .ok (.aload_n 0, 1) := by decide +kernel
theorem dX12_walks_85 : decode cX12_walks 85 = .ok (.getfield 13, 3) := by decide +kernel
theorem dX12_walks_88 : decode cX12_walks 88 = .ok (.iload_n 1, 1) := by decide +kernel
theorem dX12_walks_89 : decode cX12_walks 89 = .ok (.iconst 5, 1) := by decide +kernel
theorem dX12_walks_90 : decode cX12_walks 90 = .ok (.invokestatic 77, 3) := by decide +kernel
theorem dX12_walks_93 : decode cX12_walks 93 = .ok (.sipush 999, 3) := by decide +kernel
theorem dX12_walks_96 : decode cX12_walks 96 = .ok (.aload_n 0, 1) := by decide +kernel
theorem dX12_walks_97 : decode cX12_walks 97 = .ok (.iload_n 1, 1) := by decide +kernel
theorem dX12_walks_98 : decode cX12_walks 98 = .ok (.iconst 5, 1) := by decide +kernel
theorem dX12_walks_99 : decode cX12_walks 99 = .ok (.invokevirtual 88, 3) := by decide +kernel
theorem dX12_walks_102 : decode cX12_walks 102 = .ok (.iload 4, 2) := by decide +kernel
theorem dX12_walks_104 : decode cX12_walks 104 = .ok (.aload_n 0, 1) := by decide +kernel
theorem dX12_walks_105 : decode cX12_walks 105 = .ok (.invokevirtual 84, 3) := by decide +kernel
theorem dX12_walks_108 : decode cX12_walks 108 = .ok (.if_icmp .lt 7, 3) := by decide +kernel
theorem dX12_walks_111 : decode cX12_walks 111 = .ok (.iconst 1, 1) := by decide +kernel
theorem dX12_walks_112 : decode cX12_walks 112 = .ok (.goto 4, 3) := by decide +kernel
theorem dX12_walks_115 : decode cX12_walks 115 = .ok (.iconst 0, 1) := by decide +kernel
theorem dX12_walks_116 : decode cX12_walks 116 = .ok (.iadd, 1) := by decide +kernel
theorem dX12_walks_117 : decode cX12_walks 117 = .ok (.invokestatic 146, 3) := by decide +kernel
theorem dX12_walks_120 : decode cX12_walks 120 = .ok (.iastore, 1) := by decide +kernel
theorem dX12_walks_121 : decode cX12_walks 121 = .ok (.aload_n 0, 1) := by decide +kernel
theorem dX12_walks_122 : decode cX12_walks 122 = .ok (.getfield 13, 3) := by decide +kernel
theorem dX12_walks_125 : decode cX12_walks 125 = .ok (.iload_n 1, 1) := by decide +kernel
theorem dX12_walks_126 : decode cX12_walks 126 = .ok (.iconst 0, 1) := by decide +kernel
theorem dX12_walks_127 : decode cX12_walks 127 = .ok (.invokestatic 77, 3) := by decide +kernel
theorem dX12_walks_130 : decode cX12_walks 130 = .ok (.iload 4, 2) := by decide +kernel
theorem dX12_walks_132 : decode cX12_walks 132 = .ok (.aload_n 0, 1) := by decide +kernel
theorem dX12_walks_133 : decode cX12_walks 133 = .ok (.invokevirtual 84, 3) := by decide +kernel
theorem dX12_walks_136 : decode cX12_walks 136 = .ok (.irem, 1) := by decide +kernel
theorem dX12_walks_137 : decode cX12_walks 137 = .ok (.iastore, 1) := by decide +kernel
theorem dX12_walks_138 : decode cX12_walks 138 = .ok (.iload_n 3, 1) := by decide +kernel
theorem dX12_walks_139 : decode cX12_walks 139 = .ok (.ireturn, 1) := by decide +kernel
theorem dX12_oneHour_0 : decode cX12_oneHour 0 = .ok (.iconst 0, 1) := by decide +kernel
theorem dX12_oneHour_1 : decode cX12_oneHour 1 = .ok (.istore_n 2, 1) := by decide +kernel
theorem dX12_oneHour_2 : decode cX12_oneHour 2 = .ok (.iconst 0, 1) := by decide +kernel
theorem dX12_oneHour_3 : decode cX12_oneHour 3 = .ok (.istore_n 3, 1) := by decide +kernel
theorem dX12_oneHour_4 : decode cX12_oneHour 4 = .ok (.iload_n 3, 1) := by decide +kernel
theorem dX12_oneHour_5 : decode cX12_oneHour 5 = .ok (.aload_n 0, 1) := by decide +kernel
theorem dX12_oneHour_6 : decode cX12_oneHour 6 = .ok (.invokevirtual 94, 3) := by decide +kernel
theorem dX12_oneHour_9 : decode cX12_oneHour 9 = .ok (.if_icmp .ge 17, 3) := by decide +kernel
theorem dX12_oneHour_12 : decode cX12_oneHour 12 = .ok (.iload_n 2, 1) := by decide +kernel
theorem dX12_oneHour_13 : decode cX12_oneHour 13 = .ok (.aload_n 0, 1) := by decide +kernel
theorem dX12_oneHour_14 : decode cX12_oneHour 14 = .ok (.iload_n 3, 1) := by decide +kernel
theorem dX12_oneHour_15 : decode cX12_oneHour 15 = .ok (.invokevirtual 317, 3) := by decide +kernel
theorem dX12_oneHour_18 : decode cX12_oneHour 18 = .ok (.iadd, 1) := by decide +kernel
theorem dX12_oneHour_19 : decode cX12_oneHour 19 = .ok (.istore_n 2, 1) := by decide +kernel
theorem dX12_oneHour_20 : decode cX12_oneHour 20 = .ok (.iinc 3 1, 3) := by decide +kernel
theorem dX12_oneHour_23 : decode cX12_oneHour 23 = .ok (.goto (-19), 3) := by decide +kernel
theorem dX12_oneHour_26 : decode cX12_oneHour 26 = .ok (.iload_n 1, 1) := by decide +kernel
theorem dX12_oneHour_27 : decode cX12_oneHour 27 = .ok (.ifCond .ne 31, 3) := by decide +kernel
theorem dX12_oneHour_30 : decode cX12_oneHour 30 = .ok (.aload_n 0, 1) := by decide +kernel
theorem dX12_oneHour_31 : decode cX12_oneHour 31 = .ok (.getfield 13, 3) := by decide +kernel
theorem dX12_oneHour_34 : decode cX12_oneHour 34 = .ok (.bipush 7, 2) := by decide +kernel
theorem dX12_oneHour_36 : decode cX12_oneHour 36 = .ok (.aload_n 0, 1) := by decide +kernel
theorem dX12_oneHour_37 : decode cX12_oneHour 37 = .ok (.bipush 100, 2) := by decide +kernel
theorem dX12_oneHour_39 : decode cX12_oneHour 39 = .ok (.invokevirtual 320, 3) := by decide +kernel
theorem dX12_oneHour_42 : decode cX12_oneHour 42 = .ok (.aload_n 0, 1) := by decide +kernel
theorem dX12_oneHour_43 : decode cX12_oneHour 43 = .ok (.getfield 13, 3) := by decide +kernel
theorem dX12_oneHour_46 : decode cX12_oneHour 46 = .ok (.bipush 8, 2) := by decide +kernel
theorem dX12_oneHour_48 : decode cX12_oneHour 48 = .ok (.iaload, 1) := by decide +kernel
theorem dX12_oneHour_49 : decode cX12_oneHour 49 = .ok (.if_icmp .ge 7, 3) := by decide +kernel
theorem dX12_oneHour_52 : decode cX12_oneHour 52 = .ok (.iconst 1, 1) := by decide +kernel
theorem dX12_oneHour_53 : decode cX12_oneHour 53 = .ok (.goto 4, 3) := by decide +kernel
theorem dX12_oneHour_56 : decode cX12_oneHour 56 = .ok (.iconst 0, 1) := by decide +kernel
theorem dX12_oneHour_57 : decode cX12_oneHour 57 = .ok (.iastore, 1) := by decide +kernel
theorem dX12_oneHour_58 : decode cX12_oneHour 58 = .ok (.aload_n 0, 1) := by decide +kernel
theorem dX12_oneHour_59 : decode cX12_oneHour 59 = .ok (.dup, 1) := by decide +kernel
theorem dX12_oneHour_60 : decode cX12_oneHour 60 = .ok (.getfield 323, 3) := by decide +kernel
theorem dX12_oneHour_63 : decode cX12_oneHour 63 = .ok (.aload_n 0, 1) := by decide +kernel
theorem dX12_oneHour_64 : decode cX12_oneHour 64 = .ok (.getfield 13, 3) := by decide +kernel
theorem dX12_oneHour_67 : decode cX12_oneHour 67 = .ok (.bipush 7, 2) := by decide +kernel
theorem dX12_oneHour_69 : decode cX12_oneHour 69 = .ok (.iaload, 1) := by decide +kernel
theorem dX12_oneHour_70 : decode cX12_oneHour 70 = .ok (.iadd, 1) := by decide +kernel
theorem dX12_oneHour_71 : decode cX12_oneHour 71 = .ok (.putfield 323, 3) := by decide +kernel
theorem dX12_oneHour_74 : decode cX12_oneHour 74 = .ok (.aload_n 0, 1) := by decide +kernel
theorem dX12_oneHour_75 : decode cX12_oneHour 75 = .ok (.getfield 13, 3) := by decide +kernel
theorem dX12_oneHour_78 : decode cX12_oneHour 78 = .ok (.bipush 6, 2) := by decide +kernel
theorem dX12_oneHour_80 : decode cX12_oneHour 80 = .ok (.sipush 9999, 3) := by decide +kernel
theorem dX12_oneHour_83 : decode cX12_oneHour 83 = .ok (.aload_n 0, 1) := by decide +kernel
theorem dX12_oneHour_84 : decode cX12_oneHour 84 = .ok (.getfield 13, 3) := by decide +kernel
theorem dX12_oneHour_87 : decode cX12_oneHour 87 = .ok (.bipush 6, 2) := by decide +kernel
theorem dX12_oneHour_89 : decode cX12_oneHour 89 = .ok (.iaload, 1) := by decide +kernel
theorem dX12_oneHour_90 : decode cX12_oneHour 90 = .ok (.iconst 1, 1) := by decide +kernel
theorem dX12_oneHour_91 : decode cX12_oneHour 91 = .ok (.iadd, 1) := by decide +kernel
theorem dX12_oneHour_92 : decode cX12_oneHour 92 = .ok (.invokestatic 146, 3) := by decide +kernel
theorem dX12_oneHour_95 : decode cX12_oneHour 95 = .ok (.iastore, 1) := by decide +kernel
theorem dX12_oneHour_96 : decode cX12_oneHour 96 = .ok (.iload_n 2, 1) := by decide +kernel
theorem dX12_oneHour_97 : decode cX12_oneHour 97 = .ok (.ireturn, 1) := by decide +kernel
theorem dX12_begins_0 : decode cX12_begins 0 = .ok (.iconst 0, 1) := by decide +kernel
theorem dX12_begins_1 : decode cX12_begins 1 = .ok (.istore_n 1, 1) := by decide +kernel
theorem dX12_begins_2 : decode cX12_begins 2 = .ok (.iload_n 1, 1) := by decide +kernel
theorem dX12_begins_3 : decode cX12_begins 3 = .ok (.bipush 7, 2) := by decide +kernel
theorem dX12_begins_5 : decode cX12_begins 5 = .ok (.if_icmp .ge 16, 3) := by decide +kernel
theorem dX12_begins_8 : decode cX12_begins 8 = .ok (.aload_n 0, 1) := by decide +kernel
theorem dX12_begins_9 : decode cX12_begins 9 = .ok (.getfield 42, 3) := by decide +kernel
theorem dX12_begins_12 : decode cX12_begins 12 = .ok (.iload_n 1, 1) := by decide +kernel
theorem dX12_begins_13 : decode cX12_begins 13 = .ok (.iconst 0, 1) := by decide +kernel
theorem dX12_begins_14 : decode cX12_begins 14 = .ok (.iastore, 1) := by decide +kernel
theorem dX12_begins_15 : decode cX12_begins 15 = .ok (.iinc 1 1, 3) := by decide +kernel
theorem dX12_begins_18 : decode cX12_begins 18 = .ok (.goto (-16), 3) := by decide +kernel
theorem dX12_begins_21 : decode cX12_begins 21 = .ok (.aload_n 0, 1) := by decide +kernel
theorem dX12_begins_22 : decode cX12_begins 22 = .ok (.iconst 0, 1) := by decide +kernel
theorem dX12_begins_23 : decode cX12_begins 23 = .ok (.putfield 323, 3) := by decide +kernel
theorem dX12_begins_26 : decode cX12_begins 26 = .ok (.return_, 1) := by decide +kernel
theorem dX12_goesOn_0 : decode cX12_goesOn 0 = .ok (.aload_n 0, 1) := by decide +kernel
theorem dX12_goesOn_1 : decode cX12_goesOn 1 = .ok (.invokevirtual 326, 3) := by decide +kernel
theorem dX12_goesOn_4 : decode cX12_goesOn 4 = .ok (.iconst 0, 1) := by decide +kernel
theorem dX12_goesOn_5 : decode cX12_goesOn 5 = .ok (.istore_n 3, 1) := by decide +kernel
theorem dX12_goesOn_6 : decode cX12_goesOn 6 = .ok (.iconst 0, 1) := by decide +kernel
theorem dX12_goesOn_7 : decode cX12_goesOn 7 = .ok (.istore 4, 2) := by decide +kernel
theorem dX12_goesOn_9 : decode cX12_goesOn 9 = .ok (.iload 4, 2) := by decide +kernel
theorem dX12_goesOn_11 : decode cX12_goesOn 11 = .ok (.iload_n 1, 1) := by decide +kernel
theorem dX12_goesOn_12 : decode cX12_goesOn 12 = .ok (.if_icmp .ge 17, 3) := by decide +kernel
theorem dX12_goesOn_15 : decode cX12_goesOn 15 = .ok (.iload_n 3, 1) := by decide +kernel
theorem dX12_goesOn_16 : decode cX12_goesOn 16 = .ok (.aload_n 0, 1) := by decide +kernel
theorem dX12_goesOn_17 : decode cX12_goesOn 17 = .ok (.iload_n 2, 1) := by decide +kernel
theorem dX12_goesOn_18 : decode cX12_goesOn 18 = .ok (.invokevirtual 329, 3) := by decide +kernel
theorem dX12_goesOn_21 : decode cX12_goesOn 21 = .ok (.iadd, 1) := by decide +kernel
theorem dX12_goesOn_22 : decode cX12_goesOn 22 = .ok (.istore_n 3, 1) := by decide +kernel
theorem dX12_goesOn_23 : decode cX12_goesOn 23 = .ok (.iinc 4 1, 3) := by decide +kernel
theorem dX12_goesOn_26 : decode cX12_goesOn 26 = .ok (.goto (-17), 3) := by decide +kernel
theorem dX12_goesOn_29 : decode cX12_goesOn 29 = .ok (.iload_n 3, 1) := by decide +kernel
theorem dX12_goesOn_30 : decode cX12_goesOn 30 = .ok (.ireturn, 1) := by decide +kernel
theorem dX12_hours_0 : decode cX12_hours 0 = .ok (.aload_n 0, 1) := by decide +kernel
theorem dX12_hours_1 : decode cX12_hours 1 = .ok (.iconst 0, 1) := by decide +kernel
theorem dX12_hours_2 : decode cX12_hours 2 = .ok (.putfield 3, 3) := by decide +kernel
theorem dX12_hours_5 : decode cX12_hours 5 = .ok (.aload_n 0, 1) := by decide +kernel
theorem dX12_hours_6 : decode cX12_hours 6 = .ok (.iload_n 1, 1) := by decide +kernel
theorem dX12_hours_7 : decode cX12_hours 7 = .ok (.iconst 1, 1) := by decide +kernel
theorem dX12_hours_8 : decode cX12_hours 8 = .ok (.sipush 200, 3) := by decide +kernel
theorem dX12_hours_11 : decode cX12_hours 11 = .ok (.invokestatic 97, 3) := by decide +kernel
theorem dX12_hours_14 : decode cX12_hours 14 = .ok (.ifCond .ne 7, 3) := by decide +kernel
theorem dX12_hours_17 : decode cX12_hours 17 = .ok (.iconst 1, 1) := by decide +kernel
theorem dX12_hours_18 : decode cX12_hours 18 = .ok (.goto 4, 3) := by decide +kernel
theorem dX12_hours_21 : decode cX12_hours 21 = .ok (.iconst 0, 1) := by decide +kernel
theorem dX12_hours_22 : decode cX12_hours 22 = .ok (.iconst 1, 1) := by decide +kernel
theorem dX12_hours_23 : decode cX12_hours 23 = .ok (.invokevirtual 277, 3) := by decide +kernel
theorem dX12_hours_26 : decode cX12_hours 26 = .ok (.ifCond .eq 5, 3) := by decide +kernel
theorem dX12_hours_29 : decode cX12_hours 29 = .ok (.iconst 0, 1) := by decide +kernel
theorem dX12_hours_30 : decode cX12_hours 30 = .ok (.ireturn, 1) := by decide +kernel
theorem dX12_hours_31 : decode cX12_hours 31 = .ok (.aload_n 0, 1) := by decide +kernel
theorem dX12_hours_32 : decode cX12_hours 32 = .ok (.invokevirtual 332, 3) := by decide +kernel
theorem dX12_hours_35 : decode cX12_hours 35 = .ok (.aload_n 0, 1) := by decide +kernel
theorem dX12_hours_36 : decode cX12_hours 36 = .ok (.iload_n 1, 1) := by decide +kernel
theorem dX12_hours_37 : decode cX12_hours 37 = .ok (.iconst 0, 1) := by decide +kernel
theorem dX12_hours_38 : decode cX12_hours 38 = .ok (.invokevirtual 335, 3) := by decide +kernel
theorem dX12_hours_41 : decode cX12_hours 41 = .ok (.ireturn, 1) := by decide +kernel
theorem dX12_noPace_0 : decode cX12_noPace 0 = .ok (.iload_n 0, 1) := by decide +kernel
theorem dX12_noPace_1 : decode cX12_noPace 1 = .ok (.iconst 0, 1) := by decide +kernel
theorem dX12_noPace_2 : decode cX12_noPace 2 = .ok (.bipush 99, 2) := by decide +kernel
theorem dX12_noPace_4 : decode cX12_noPace 4 = .ok (.invokestatic 97, 3) := by decide +kernel
theorem dX12_noPace_7 : decode cX12_noPace 7 = .ok (.ifCond .ne 7, 3) := by decide +kernel
theorem dX12_noPace_10 : decode cX12_noPace 10 = .ok (.iconst 1, 1) := by decide +kernel
theorem dX12_noPace_11 : decode cX12_noPace 11 = .ok (.goto 4, 3) := by decide +kernel
theorem dX12_noPace_14 : decode cX12_noPace 14 = .ok (.iconst 0, 1) := by decide +kernel
theorem dX12_noPace_15 : decode cX12_noPace 15 = .ok (.ireturn, 1) := by decide +kernel
theorem dX12_out_0 : decode cX12_out 0 = .ok (.aload_n 0, 1) := by decide +kernel
theorem dX12_out_1 : decode cX12_out 1 = .ok (.iconst 0, 1) := by decide +kernel
theorem dX12_out_2 : decode cX12_out 2 = .ok (.putfield 3, 3) := by decide +kernel
theorem dX12_out_5 : decode cX12_out 5 = .ok (.aload_n 0, 1) := by decide +kernel
theorem dX12_out_6 : decode cX12_out 6 = .ok (.iload_n 1, 1) := by decide +kernel
theorem dX12_out_7 : decode cX12_out 7 = .ok (.invokestatic 339, 3) := by decide +kernel
theorem dX12_out_10 : decode cX12_out 10 = .ok (.iconst 1, 1) := by decide +kernel
theorem dX12_out_11 : decode cX12_out 11 = .ok (.invokevirtual 277, 3) := by decide +kernel
theorem dX12_out_14 : decode cX12_out 14 = .ok (.ifCond .ne 25, 3) := by decide +kernel
theorem dX12_out_17 : decode cX12_out 17 = .ok (.aload_n 0, 1) := by decide +kernel
theorem dX12_out_18 : decode cX12_out 18 = .ok (.aload_n 0, 1) := by decide +kernel
theorem dX12_out_19 : decode cX12_out 19 = .ok (.invokevirtual 94, 3) := by decide +kernel
theorem dX12_out_22 : decode cX12_out 22 = .ok (.bipush 7, 2) := by decide +kernel
theorem dX12_out_24 : decode cX12_out 24 = .ok (.if_icmp .ne 7, 3) := by decide +kernel
theorem dX12_out_27 : decode cX12_out 27 = .ok (.iconst 1, 1) := by decide +kernel
theorem dX12_out_28 : decode cX12_out 28 = .ok (.goto 4, 3) := by decide +kernel
theorem dX12_out_31 : decode cX12_out 31 = .ok (.iconst 0, 1) := by decide +kernel
theorem dX12_out_32 : decode cX12_out 32 = .ok (.iconst 2, 1) := by decide +kernel
theorem dX12_out_33 : decode cX12_out 33 = .ok (.invokevirtual 277, 3) := by decide +kernel
theorem dX12_out_36 : decode cX12_out 36 = .ok (.ifCond .eq 5, 3) := by decide +kernel
theorem dX12_out_39 : decode cX12_out 39 = .ok (.iconst 0, 1) := by decide +kernel
theorem dX12_out_40 : decode cX12_out 40 = .ok (.ireturn, 1) := by decide +kernel
theorem dX12_out_41 : decode cX12_out 41 = .ok (.aload_n 0, 1) := by decide +kernel
theorem dX12_out_42 : decode cX12_out 42 = .ok (.invokevirtual 332, 3) := by decide +kernel
theorem dX12_out_45 : decode cX12_out 45 = .ok (.aload_n 0, 1) := by decide +kernel
theorem dX12_out_46 : decode cX12_out 46 = .ok (.aload_n 0, 1) := by decide +kernel
theorem dX12_out_47 : decode cX12_out 47 = .ok (.invokevirtual 94, 3) := by decide +kernel
theorem dX12_out_50 : decode cX12_out 50 = .ok (.iconst 0, 1) := by decide +kernel
theorem dX12_out_51 : decode cX12_out 51 = .ok (.iload_n 1, 1) := by decide +kernel
theorem dX12_out_52 : decode cX12_out 52 = .ok (.invokevirtual 158, 3) := by decide +kernel
theorem dX12_out_55 : decode cX12_out 55 = .ok (.aload_n 0, 1) := by decide +kernel
theorem dX12_out_56 : decode cX12_out 56 = .ok (.invokevirtual 94, 3) := by decide +kernel
theorem dX12_out_59 : decode cX12_out 59 = .ok (.iconst 1, 1) := by decide +kernel
theorem dX12_out_60 : decode cX12_out 60 = .ok (.isub, 1) := by decide +kernel
theorem dX12_out_61 : decode cX12_out 61 = .ok (.ireturn, 1) := by decide +kernel
theorem dX12_isNow_0 : decode cX12_isNow 0 = .ok (.aload_n 0, 1) := by decide +kernel
theorem dX12_isNow_1 : decode cX12_isNow 1 = .ok (.invokevirtual 332, 3) := by decide +kernel
theorem dX12_isNow_4 : decode cX12_isNow 4 = .ok (.aload_n 0, 1) := by decide +kernel
theorem dX12_isNow_5 : decode cX12_isNow 5 = .ok (.getfield 13, 3) := by decide +kernel
theorem dX12_isNow_8 : decode cX12_isNow 8 = .ok (.iload_n 1, 1) := by decide +kernel
theorem dX12_isNow_9 : decode cX12_isNow 9 = .ok (.iaload, 1) := by decide +kernel
theorem dX12_isNow_10 : decode cX12_isNow 10 = .ok (.istore_n 3, 1) := by decide +kernel
theorem dX12_isNow_11 : decode cX12_isNow 11 = .ok (.aload_n 0, 1) := by decide +kernel
theorem dX12_isNow_12 : decode cX12_isNow 12 = .ok (.getfield 13, 3) := by decide +kernel
theorem dX12_isNow_15 : decode cX12_isNow 15 = .ok (.iload_n 1, 1) := by decide +kernel
theorem dX12_isNow_16 : decode cX12_isNow 16 = .ok (.iload_n 2, 1) := by decide +kernel
theorem dX12_isNow_17 : decode cX12_isNow 17 = .ok (.iastore, 1) := by decide +kernel
theorem dX12_isNow_18 : decode cX12_isNow 18 = .ok (.iload_n 3, 1) := by decide +kernel
theorem dX12_isNow_19 : decode cX12_isNow 19 = .ok (.ireturn, 1) := by decide +kernel
theorem dX12_pace_0 : decode cX12_pace 0 = .ok (.aload_n 0, 1) := by decide +kernel
theorem dX12_pace_1 : decode cX12_pace 1 = .ok (.iconst 0, 1) := by decide +kernel
theorem dX12_pace_2 : decode cX12_pace 2 = .ok (.putfield 3, 3) := by decide +kernel
theorem dX12_pace_5 : decode cX12_pace 5 = .ok (.aload_n 0, 1) := by decide +kernel
theorem dX12_pace_6 : decode cX12_pace 6 = .ok (.aload_n 0, 1) := by decide +kernel
theorem dX12_pace_7 : decode cX12_pace 7 = .ok (.iload_n 1, 1) := by decide +kernel
theorem dX12_pace_8 : decode cX12_pace 8 = .ok (.invokevirtual 342, 3) := by decide +kernel
theorem dX12_pace_11 : decode cX12_pace 11 = .ok (.iconst 1, 1) := by decide +kernel
theorem dX12_pace_12 : decode cX12_pace 12 = .ok (.invokevirtual 277, 3) := by decide +kernel
theorem dX12_pace_15 : decode cX12_pace 15 = .ok (.ifCond .ne 15, 3) := by decide +kernel
theorem dX12_pace_18 : decode cX12_pace 18 = .ok (.aload_n 0, 1) := by decide +kernel
theorem dX12_pace_19 : decode cX12_pace 19 = .ok (.iload_n 2, 1) := by decide +kernel
theorem dX12_pace_20 : decode cX12_pace 20 = .ok (.invokestatic 339, 3) := by decide +kernel
theorem dX12_pace_23 : decode cX12_pace 23 = .ok (.iconst 2, 1) := by decide +kernel
theorem dX12_pace_24 : decode cX12_pace 24 = .ok (.invokevirtual 277, 3) := by decide +kernel
theorem dX12_pace_27 : decode cX12_pace 27 = .ok (.ifCond .eq 7, 3) := by decide +kernel
theorem dX12_pace_30 : decode cX12_pace 30 = .ok (.iconst 0, 1) := by decide +kernel
theorem dX12_pace_31 : decode cX12_pace 31 = .ok (.goto 13, 3) := by decide +kernel
theorem dX12_pace_34 : decode cX12_pace 34 = .ok (.aload_n 0, 1) := by decide +kernel
theorem dX12_pace_35 : decode cX12_pace 35 = .ok (.iload_n 1, 1) := by decide +kernel
theorem dX12_pace_36 : decode cX12_pace 36 = .ok (.iconst 1, 1) := by decide +kernel
theorem dX12_pace_37 : decode cX12_pace 37 = .ok (.invokestatic 77, 3) := by decide +kernel
theorem dX12_pace_40 : decode cX12_pace 40 = .ok (.iload_n 2, 1) := by decide +kernel
theorem dX12_pace_41 : decode cX12_pace 41 = .ok (.invokevirtual 345, 3) := by decide +kernel
theorem dX12_pace_44 : decode cX12_pace 44 = .ok (.ireturn, 1) := by decide +kernel
theorem dX12_noTwo_0 : decode cX12_noTwo 0 = .ok (.aload_n 0, 1) := by decide +kernel
theorem dX12_noTwo_1 : decode cX12_noTwo 1 = .ok (.iconst 0, 1) := by decide +kernel
theorem dX12_noTwo_2 : decode cX12_noTwo 2 = .ok (.putfield 3, 3) := by decide +kernel
theorem dX12_noTwo_5 : decode cX12_noTwo 5 = .ok (.aload_n 0, 1) := by decide +kernel
theorem dX12_noTwo_6 : decode cX12_noTwo 6 = .ok (.aload_n 0, 1) := by decide +kernel
theorem dX12_noTwo_7 : decode cX12_noTwo 7 = .ok (.iload_n 1, 1) := by decide +kernel
theorem dX12_noTwo_8 : decode cX12_noTwo 8 = .ok (.invokevirtual 342, 3) := by decide +kernel
theorem dX12_noTwo_11 : decode cX12_noTwo 11 = .ok (.ifCond .ne 11, 3) := by decide +kernel
theorem dX12_noTwo_14 : decode cX12_noTwo 14 = .ok (.aload_n 0, 1) := by decide +kernel
theorem dX12_noTwo_15 : decode cX12_noTwo 15 = .ok (.iload_n 2, 1) := by decide +kernel
theorem dX12_noTwo_16 : decode cX12_noTwo 16 = .ok (.invokevirtual 342, 3) := by decide +kernel
theorem dX12_noTwo_19 : decode cX12_noTwo 19 = .ok (.ifCond .eq 7, 3) := by decide +kernel
theorem dX12_noTwo_22 : decode cX12_noTwo 22 = .ok (.iconst 1, 1) := by decide +kernel
theorem dX12_noTwo_23 : decode cX12_noTwo 23 = .ok (.goto 4, 3) := by decide +kernel
theorem dX12_noTwo_26 : decode cX12_noTwo 26 = .ok (.iconst 0, 1) := by decide +kernel
theorem dX12_noTwo_27 : decode cX12_noTwo 27 = .ok (.iconst 1, 1) := by decide +kernel
theorem dX12_noTwo_28 : decode cX12_noTwo 28 = .ok (.invokevirtual 277, 3) := by decide +kernel
theorem dX12_noTwo_31 : decode cX12_noTwo 31 = .ok (.ifCond .ne 21, 3) := by decide +kernel
theorem dX12_noTwo_34 : decode cX12_noTwo 34 = .ok (.aload_n 0, 1) := by decide +kernel
theorem dX12_noTwo_35 : decode cX12_noTwo 35 = .ok (.iload_n 1, 1) := by decide +kernel
theorem dX12_noTwo_36 : decode cX12_noTwo 36 = .ok (.iload_n 2, 1) := by decide +kernel
theorem dX12_noTwo_37 : decode cX12_noTwo 37 = .ok (.if_icmp .ne 7, 3) := by decide +kernel
theorem dX12_noTwo_40 : decode cX12_noTwo 40 = .ok (.iconst 1, 1) := by decide +kernel
theorem dX12_noTwo_41 : decode cX12_noTwo 41 = .ok (.goto 4, 3) := by decide +kernel
theorem dX12_noTwo_44 : decode cX12_noTwo 44 = .ok (.iconst 0, 1) := by decide +kernel
theorem dX12_noTwo_45 : decode cX12_noTwo 45 = .ok (.iconst 2, 1) := by decide +kernel
theorem dX12_noTwo_46 : decode cX12_noTwo 46 = .ok (.invokevirtual 277, 3) := by decide +kernel
theorem dX12_noTwo_49 : decode cX12_noTwo 49 = .ok (.ifCond .eq 7, 3) := by decide +kernel
theorem dX12_noTwo_52 : decode cX12_noTwo 52 = .ok (.iconst 1, 1) := by decide +kernel
theorem dX12_noTwo_53 : decode cX12_noTwo 53 = .ok (.goto 4, 3) := by decide +kernel
theorem dX12_noTwo_56 : decode cX12_noTwo 56 = .ok (.iconst 0, 1) := by decide +kernel
theorem dX12_noTwo_57 : decode cX12_noTwo 57 = .ok (.ireturn, 1) := by decide +kernel
theorem dX12_shun_0 : decode cX12_shun 0 = .ok (.aload_n 0, 1) := by decide +kernel
theorem dX12_shun_1 : decode cX12_shun 1 = .ok (.iload_n 1, 1) := by decide +kernel
theorem dX12_shun_2 : decode cX12_shun 2 = .ok (.iload_n 2, 1) := by decide +kernel
theorem dX12_shun_3 : decode cX12_shun 3 = .ok (.invokevirtual 348, 3) := by decide +kernel
theorem dX12_shun_6 : decode cX12_shun 6 = .ok (.ifCond .eq 5, 3) := by decide +kernel
theorem dX12_shun_9 : decode cX12_shun 9 = .ok (.iconst 0, 1) := by decide +kernel
theorem dX12_shun_10 : decode cX12_shun 10 = .ok (.ireturn, 1) := by decide +kernel
theorem dX12_shun_11 : decode cX12_shun 11 = .ok (.aload_n 0, 1) := by decide +kernel
theorem dX12_shun_12 : decode cX12_shun 12 = .ok (.iload_n 1, 1) := by decide +kernel
theorem dX12_shun_13 : decode cX12_shun 13 = .ok (.iconst 2, 1) := by decide +kernel
theorem dX12_shun_14 : decode cX12_shun 14 = .ok (.invokevirtual 88, 3) := by decide +kernel
theorem dX12_shun_17 : decode cX12_shun 17 = .ok (.iconst 1, 1) := by decide +kernel
theorem dX12_shun_18 : decode cX12_shun 18 = .ok (.iload_n 2, 1) := by decide +kernel
theorem dX12_shun_19 : decode cX12_shun 19 = .ok (.ishl, 1) := by decide +kernel
theorem dX12_shun_20 : decode cX12_shun 20 = .ok (.iconst (-1), 1) := by decide +kernel
theorem dX12_shun_21 : decode cX12_shun 21 = .ok (.ixor, 1) := by decide +kernel
theorem dX12_shun_22 : decode cX12_shun 22 = .ok (.iand, 1) := by decide +kernel
theorem dX12_shun_23 : decode cX12_shun 23 = .ok (.iload_n 3, 1) := by decide +kernel
theorem dX12_shun_24 : decode cX12_shun 24 = .ok (.ifCond .eq 9, 3) := by decide +kernel
theorem dX12_shun_27 : decode cX12_shun 27 = .ok (.iconst 1, 1) := by decide +kernel
theorem dX12_shun_28 : decode cX12_shun 28 = .ok (.iload_n 2, 1) := by decide +kernel
theorem dX12_shun_29 : decode cX12_shun 29 = .ok (.ishl, 1) := by decide +kernel
theorem dX12_shun_30 : decode cX12_shun 30 = .ok (.goto 4, 3) := by decide +kernel
theorem dX12_shun_33 : decode cX12_shun 33 = .ok (.iconst 0, 1) := by decide +kernel
theorem dX12_shun_34 : decode cX12_shun 34 = .ok (.ior, 1) := by decide +kernel
theorem dX12_shun_35 : decode cX12_shun 35 = .ok (.istore 4, 2) := by decide +kernel
theorem dX12_shun_37 : decode cX12_shun 37 = .ok (.aload_n 0, 1) := by decide +kernel
theorem dX12_shun_38 : decode cX12_shun 38 = .ok (.iload_n 1, 1) := by decide +kernel
theorem dX12_shun_39 : decode cX12_shun 39 = .ok (.iconst 2, 1) := by decide +kernel
theorem dX12_shun_40 : decode cX12_shun 40 = .ok (.invokestatic 77, 3) := by decide +kernel
theorem dX12_shun_43 : decode cX12_shun 43 = .ok (.iload 4, 2) := by decide +kernel
theorem dX12_shun_45 : decode cX12_shun 45 = .ok (.invokevirtual 345, 3) := by decide +kernel
theorem dX12_shun_48 : decode cX12_shun 48 = .ok (.iload 4, 2) := by decide +kernel
theorem dX12_shun_50 : decode cX12_shun 50 = .ok (.if_icmp .eq 7, 3) := by decide +kernel
theorem dX12_shun_53 : decode cX12_shun 53 = .ok (.iconst 1, 1) := by decide +kernel
theorem dX12_shun_54 : decode cX12_shun 54 = .ok (.goto 4, 3) := by decide +kernel
theorem dX12_shun_57 : decode cX12_shun 57 = .ok (.iconst 0, 1) := by decide +kernel
theorem dX12_shun_58 : decode cX12_shun 58 = .ok (.ireturn, 1) := by decide +kernel
theorem dX12_mourn_0 : decode cX12_mourn 0 = .ok (.aload_n 0, 1) := by decide +kernel
theorem dX12_mourn_1 : decode cX12_mourn 1 = .ok (.iconst 0, 1) := by decide +kernel
theorem dX12_mourn_2 : decode cX12_mourn 2 = .ok (.putfield 3, 3) := by decide +kernel
theorem dX12_mourn_5 : decode cX12_mourn 5 = .ok (.aload_n 0, 1) := by decide +kernel
theorem dX12_mourn_6 : decode cX12_mourn 6 = .ok (.aload_n 0, 1) := by decide +kernel
theorem dX12_mourn_7 : decode cX12_mourn 7 = .ok (.iload_n 1, 1) := by decide +kernel
theorem dX12_mourn_8 : decode cX12_mourn 8 = .ok (.invokevirtual 342, 3) := by decide +kernel
theorem dX12_mourn_11 : decode cX12_mourn 11 = .ok (.iconst 1, 1) := by decide +kernel
theorem dX12_mourn_12 : decode cX12_mourn 12 = .ok (.invokevirtual 277, 3) := by decide +kernel
theorem dX12_mourn_15 : decode cX12_mourn 15 = .ok (.ifCond .ne 37, 3) := by decide +kernel
theorem dX12_mourn_18 : decode cX12_mourn 18 = .ok (.aload_n 0, 1) := by decide +kernel
theorem dX12_mourn_19 : decode cX12_mourn 19 = .ok (.iload_n 1, 1) := by decide +kernel
theorem dX12_mourn_20 : decode cX12_mourn 20 = .ok (.iconst 3, 1) := by decide +kernel
theorem dX12_mourn_21 : decode cX12_mourn 21 = .ok (.invokestatic 77, 3) := by decide +kernel
theorem dX12_mourn_24 : decode cX12_mourn 24 = .ok (.iload_n 2, 1) := by decide +kernel
theorem dX12_mourn_25 : decode cX12_mourn 25 = .ok (.ifCond .eq 7, 3) := by decide +kernel
theorem dX12_mourn_28 : decode cX12_mourn 28 = .ok (.iconst 1, 1) := by decide +kernel
theorem dX12_mourn_29 : decode cX12_mourn 29 = .ok (.goto 4, 3) := by decide +kernel
theorem dX12_mourn_32 : decode cX12_mourn 32 = .ok (.iconst 0, 1) := by decide +kernel
theorem dX12_mourn_33 : decode cX12_mourn 33 = .ok (.invokevirtual 345, 3) := by decide +kernel
theorem dX12_mourn_36 : decode cX12_mourn 36 = .ok (.iload_n 2, 1) := by decide +kernel
theorem dX12_mourn_37 : decode cX12_mourn 37 = .ok (.ifCond .eq 7, 3) := by decide +kernel
theorem dX12_mourn_40 : decode cX12_mourn 40 = .ok (.iconst 1, 1) := by decide +kernel
theorem dX12_mourn_41 : decode cX12_mourn 41 = .ok (.goto 4, 3) := by decide +kernel
theorem dX12_mourn_44 : decode cX12_mourn 44 = .ok (.iconst 0, 1) := by decide +kernel
theorem dX12_mourn_45 : decode cX12_mourn 45 = .ok (.if_icmp .eq 7, 3) := by decide +kernel
theorem dX12_mourn_48 : decode cX12_mourn 48 = .ok (.iconst 1, 1) := by decide +kernel
theorem dX12_mourn_49 : decode cX12_mourn 49 = .ok (.goto 4, 3) := by decide +kernel
theorem dX12_mourn_52 : decode cX12_mourn 52 = .ok (.iconst 0, 1) := by decide +kernel
theorem dX12_mourn_53 : decode cX12_mourn 53 = .ok (.ireturn, 1) := by decide +kernel
theorem dX12_move_0 : decode cX12_move 0 = .ok (.aload_n 0, 1) := by decide +kernel
theorem dX12_move_1 : decode cX12_move 1 = .ok (.iconst 0, 1) := by decide +kernel
theorem dX12_move_2 : decode cX12_move 2 = .ok (.putfield 3, 3) := by decide +kernel
theorem dX12_move_5 : decode cX12_move 5 = .ok (.aload_n 0, 1) := by decide +kernel
theorem dX12_move_6 : decode cX12_move 6 = .ok (.aload_n 0, 1) := by decide +kernel
theorem dX12_move_7 : decode cX12_move 7 = .ok (.iload_n 1, 1) := by decide +kernel
theorem dX12_move_8 : decode cX12_move 8 = .ok (.invokevirtual 351, 3) := by decide +kernel
theorem dX12_move_11 : decode cX12_move 11 = .ok (.ifCond .ne 11, 3) := by decide +kernel
theorem dX12_move_14 : decode cX12_move 14 = .ok (.aload_n 0, 1) := by decide +kernel
theorem dX12_move_15 : decode cX12_move 15 = .ok (.iload_n 2, 1) := by decide +kernel
theorem dX12_move_16 : decode cX12_move 16 = .ok (.invokevirtual 354, 3) := by decide +kernel
theorem dX12_move_19 : decode cX12_move 19 = .ok (.ifCond .eq 7, 3) := by decide +kernel
theorem dX12_move_22 : decode cX12_move 22 = .ok (.iconst 1, 1) := by decide +kernel
theorem dX12_move_23 : decode cX12_move 23 = .ok (.goto 4, 3) := by decide +kernel
theorem dX12_move_26 : decode cX12_move 26 = .ok (.iconst 0, 1) := by decide +kernel
theorem dX12_move_27 : decode cX12_move 27 = .ok (.iconst 1, 1) := by decide +kernel
theorem dX12_move_28 : decode cX12_move 28 = .ok (.invokevirtual 277, 3) := by decide +kernel
theorem dX12_move_31 : decode cX12_move 31 = .ok (.ifCond .eq 7, 3) := by decide +kernel
theorem dX12_move_34 : decode cX12_move 34 = .ok (.iconst 0, 1) := by decide +kernel
theorem dX12_move_35 : decode cX12_move 35 = .ok (.goto 13, 3) := by decide +kernel
theorem dX12_move_38 : decode cX12_move 38 = .ok (.aload_n 0, 1) := by decide +kernel
theorem dX12_move_39 : decode cX12_move 39 = .ok (.iload_n 1, 1) := by decide +kernel
theorem dX12_move_40 : decode cX12_move 40 = .ok (.iconst 0, 1) := by decide +kernel
theorem dX12_move_41 : decode cX12_move 41 = .ok (.invokestatic 81, 3) := by decide +kernel
theorem dX12_move_44 : decode cX12_move 44 = .ok (.iload_n 2, 1) := by decide +kernel
theorem dX12_move_45 : decode cX12_move 45 = .ok (.invokevirtual 345, 3) := by decide +kernel
theorem dX12_move_48 : decode cX12_move 48 = .ok (.ireturn, 1) := by decide +kernel
theorem dX12_lad_0 : decode cX12_lad 0 = .ok (.aload_n 0, 1) := by decide +kernel
theorem dX12_lad_1 : decode cX12_lad 1 = .ok (.iconst 0, 1) := by decide +kernel
theorem dX12_lad_2 : decode cX12_lad 2 = .ok (.putfield 3, 3) := by decide +kernel
theorem dX12_lad_5 : decode cX12_lad 5 = .ok (.aload_n 0, 1) := by decide +kernel
theorem dX12_lad_6 : decode cX12_lad 6 = .ok (.aload_n 0, 1) := by decide +kernel
theorem dX12_lad_7 : decode cX12_lad 7 = .ok (.iload_n 1, 1) := by decide +kernel
theorem dX12_lad_8 : decode cX12_lad 8 = .ok (.invokevirtual 342, 3) := by decide +kernel
theorem dX12_lad_11 : decode cX12_lad 11 = .ok (.iconst 1, 1) := by decide +kernel
theorem dX12_lad_12 : decode cX12_lad 12 = .ok (.invokevirtual 277, 3) := by decide +kernel
theorem dX12_lad_15 : decode cX12_lad 15 = .ok (.ifCond .eq 5, 3) := by decide +kernel
theorem dX12_lad_18 : decode cX12_lad 18 = .ok (.iconst 0, 1) := by decide +kernel
theorem dX12_lad_19 : decode cX12_lad 19 = .ok (.ireturn, 1) := by decide +kernel
theorem dX12_lad_20 : decode cX12_lad 20 = .ok (.aload_n 0, 1) := by decide +kernel
theorem dX12_lad_21 : decode cX12_lad 21 = .ok (.iload_n 1, 1) := by decide +kernel
theorem dX12_lad_22 : decode cX12_lad 22 = .ok (.iconst 1, 1) := by decide +kernel
theorem dX12_lad_23 : decode cX12_lad 23 = .ok (.invokestatic 77, 3) := by decide +kernel
theorem dX12_lad_26 : decode cX12_lad 26 = .ok (.bipush 99, 2) := by decide +kernel
theorem dX12_lad_28 : decode cX12_lad 28 = .ok (.aload_n 0, 1) := by decide +kernel
theorem dX12_lad_29 : decode cX12_lad 29 = .ok (.iload_n 1, 1) := by decide +kernel
theorem dX12_lad_30 : decode cX12_lad 30 = .ok (.iconst 1, 1) := by decide +kernel
theorem dX12_lad_31 : decode cX12_lad 31 = .ok (.invokevirtual 88, 3) := by decide +kernel
theorem dX12_lad_34 : decode cX12_lad 34 = .ok (.bipush 10, 2) := by decide +kernel
theorem dX12_lad_36 : decode cX12_lad 36 = .ok (.iadd, 1) := by decide +kernel
theorem dX12_lad_37 : decode cX12_lad 37 = .ok (.invokestatic 146, 3) := by decide +kernel
theorem dX12_lad_40 : decode cX12_lad 40 = .ok (.invokevirtual 345, 3) := by decide +kernel
theorem dX12_lad_43 : decode cX12_lad 43 = .ok (.pop, 1) := by decide +kernel
theorem dX12_lad_44 : decode cX12_lad 44 = .ok (.aload_n 0, 1) := by decide +kernel
theorem dX12_lad_45 : decode cX12_lad 45 = .ok (.iload_n 1, 1) := by decide +kernel
theorem dX12_lad_46 : decode cX12_lad 46 = .ok (.iconst 1, 1) := by decide +kernel
theorem dX12_lad_47 : decode cX12_lad 47 = .ok (.invokevirtual 88, 3) := by decide +kernel
theorem dX12_lad_50 : decode cX12_lad 50 = .ok (.ireturn, 1) := by decide +kernel
theorem dX12_hatsOfAll_0 : decode cX12_hatsOfAll 0 = .ok (.iconst 0, 1) := by decide +kernel
theorem dX12_hatsOfAll_1 : decode cX12_hatsOfAll 1 = .ok (.istore_n 1, 1) := by decide +kernel
theorem dX12_hatsOfAll_2 : decode cX12_hatsOfAll 2 = .ok (.iconst 0, 1) := by decide +kernel
theorem dX12_hatsOfAll_3 : decode cX12_hatsOfAll 3 = .ok (.istore_n 2, 1) := by decide +kernel
theorem dX12_hatsOfAll_4 : decode cX12_hatsOfAll 4 = .ok (.iload_n 2, 1) := by decide +kernel
theorem dX12_hatsOfAll_5 : decode cX12_hatsOfAll 5 = .ok (.aload_n 0, 1) := by decide +kernel
theorem dX12_hatsOfAll_6 : decode cX12_hatsOfAll 6 = .ok (.invokevirtual 94, 3) := by decide +kernel
theorem dX12_hatsOfAll_9 : decode cX12_hatsOfAll 9 = .ok (.if_icmp .ge 18, 3) := by decide +kernel
theorem dX12_hatsOfAll_12 : decode cX12_hatsOfAll 12 = .ok (.iload_n 1, 1) := by decide +kernel
theorem dX12_hatsOfAll_13 : decode cX12_hatsOfAll 13 = .ok (.aload_n 0, 1) := by decide +kernel
theorem dX12_hatsOfAll_14 : decode cX12_hatsOfAll 14 = .ok (.iload_n 2, 1) := by decide +kernel
theorem dX12_hatsOfAll_15 : decode cX12_hatsOfAll 15 = .ok (.iconst 4, 1) := by decide +kernel
theorem dX12_hatsOfAll_16 : decode cX12_hatsOfAll 16 = .ok (.invokevirtual 88, 3) := by decide +kernel
theorem dX12_hatsOfAll_19 : decode cX12_hatsOfAll 19 = .ok (.iadd, 1) := by decide +kernel
theorem dX12_hatsOfAll_20 : decode cX12_hatsOfAll 20 = .ok (.istore_n 1, 1) := by decide +kernel
theorem dX12_hatsOfAll_21 : decode cX12_hatsOfAll 21 = .ok (.iinc 2 1, 3) := by decide +kernel
theorem dX12_hatsOfAll_24 : decode cX12_hatsOfAll 24 = .ok (.goto (-20), 3) := by decide +kernel
theorem dX12_hatsOfAll_27 : decode cX12_hatsOfAll 27 = .ok (.iload_n 1, 1) := by decide +kernel
theorem dX12_hatsOfAll_28 : decode cX12_hatsOfAll 28 = .ok (.ireturn, 1) := by decide +kernel
theorem dX12_farFrom_0 : decode cX12_farFrom 0 = .ok (.ldc_w 357, 3) := by decide +kernel
theorem dX12_farFrom_3 : decode cX12_farFrom 3 = .ok (.istore_n 3, 1) := by decide +kernel
theorem dX12_farFrom_4 : decode cX12_farFrom 4 = .ok (.iconst 0, 1) := by decide +kernel
theorem dX12_farFrom_5 : decode cX12_farFrom 5 = .ok (.istore 4, 2) := by decide +kernel
theorem dX12_farFrom_7 : decode cX12_farFrom 7 = .ok (.iload 4, 2) := by decide +kernel
theorem dX12_farFrom_9 : decode cX12_farFrom 9 = .ok (.aload_n 0, 1) := by decide +kernel
theorem dX12_farFrom_10 : decode cX12_farFrom 10 = .ok (.invokevirtual 101, 3) := by decide +kernel
theorem dX12_farFrom_13 : decode cX12_farFrom 13 = .ok (.if_icmp .ge 35, 3) := by decide +kernel
theorem dX12_farFrom_16 : decode cX12_farFrom 16 = .ok (.iload_n 2, 1) := by decide +kernel
theorem dX12_farFrom_17 : decode cX12_farFrom 17 = .ok (.iload 4, 2) := by decide +kernel
theorem dX12_farFrom_19 : decode cX12_farFrom 19 = .ok (.invokestatic 305, 3) := by decide +kernel
theorem dX12_farFrom_22 : decode cX12_farFrom 22 = .ok (.ifCond .eq 20, 3) := by decide +kernel
theorem dX12_farFrom_25 : decode cX12_farFrom 25 = .ok (.iload_n 3, 1) := by decide +kernel
theorem dX12_farFrom_26 : decode cX12_farFrom 26 = .ok (.aload_n 0, 1) := by decide +kernel
theorem dX12_farFrom_27 : decode cX12_farFrom 27 = .ok (.iload_n 1, 1) := by decide +kernel
theorem dX12_farFrom_28 : decode cX12_farFrom 28 = .ok (.aload_n 0, 1) := by decide +kernel
theorem dX12_farFrom_29 : decode cX12_farFrom 29 = .ok (.iload 4, 2) := by decide +kernel
theorem dX12_farFrom_31 : decode cX12_farFrom 31 = .ok (.iconst 0, 1) := by decide +kernel
theorem dX12_farFrom_32 : decode cX12_farFrom 32 = .ok (.invokevirtual 358, 3) := by decide +kernel
theorem dX12_farFrom_35 : decode cX12_farFrom 35 = .ok (.invokevirtual 91, 3) := by decide +kernel
theorem dX12_farFrom_38 : decode cX12_farFrom 38 = .ok (.invokestatic 146, 3) := by decide +kernel
theorem dX12_farFrom_41 : decode cX12_farFrom 41 = .ok (.istore_n 3, 1) := by decide +kernel
theorem dX12_farFrom_42 : decode cX12_farFrom 42 = .ok (.iinc 4 1, 3) := by decide +kernel
theorem dX12_farFrom_45 : decode cX12_farFrom 45 = .ok (.goto (-38), 3) := by decide +kernel
theorem dX12_farFrom_48 : decode cX12_farFrom 48 = .ok (.iload_n 3, 1) := by decide +kernel
theorem dX12_farFrom_49 : decode cX12_farFrom 49 = .ok (.ireturn, 1) := by decide +kernel
theorem dX12_allShelters_0 : decode cX12_allShelters 0 = .ok (.iconst 1, 1) := by decide +kernel
theorem dX12_allShelters_1 : decode cX12_allShelters 1 = .ok (.aload_n 0, 1) := by decide +kernel
theorem dX12_allShelters_2 : decode cX12_allShelters 2 = .ok (.invokevirtual 101, 3) := by decide +kernel
theorem dX12_allShelters_5 : decode cX12_allShelters 5 = .ok (.ishl, 1) := by decide +kernel
theorem dX12_allShelters_6 : decode cX12_allShelters 6 = .ok (.iconst 1, 1) := by decide +kernel
theorem dX12_allShelters_7 : decode cX12_allShelters 7 = .ok (.isub, 1) := by decide +kernel
theorem dX12_allShelters_8 : decode cX12_allShelters 8 = .ok (.ireturn, 1) := by decide +kernel
theorem dX12_farOf_0 : decode cX12_farOf 0 = .ok (.aload_n 0, 1) := by decide +kernel
theorem dX12_farOf_1 : decode cX12_farOf 1 = .ok (.aload_n 0, 1) := by decide +kernel
theorem dX12_farOf_2 : decode cX12_farOf 2 = .ok (.iload_n 1, 1) := by decide +kernel
theorem dX12_farOf_3 : decode cX12_farOf 3 = .ok (.iconst 0, 1) := by decide +kernel
theorem dX12_farOf_4 : decode cX12_farOf 4 = .ok (.invokevirtual 88, 3) := by decide +kernel
theorem dX12_farOf_7 : decode cX12_farOf 7 = .ok (.aload_n 0, 1) := by decide +kernel
theorem dX12_farOf_8 : decode cX12_farOf 8 = .ok (.invokevirtual 361, 3) := by decide +kernel
theorem dX12_farOf_11 : decode cX12_farOf 11 = .ok (.invokevirtual 364, 3) := by decide +kernel
theorem dX12_farOf_14 : decode cX12_farOf 14 = .ok (.istore_n 2, 1) := by decide +kernel
theorem dX12_farOf_15 : decode cX12_farOf 15 = .ok (.iload_n 2, 1) := by decide +kernel
theorem dX12_farOf_16 : decode cX12_farOf 16 = .ok (.ldc_w 357, 3) := by decide +kernel
theorem dX12_farOf_19 : decode cX12_farOf 19 = .ok (.if_icmp .ne 7, 3) := by decide +kernel
theorem dX12_farOf_22 : decode cX12_farOf 22 = .ok (.iconst (-1), 1) := by decide +kernel
theorem dX12_farOf_23 : decode cX12_farOf 23 = .ok (.goto 4, 3) := by decide +kernel
theorem dX12_farOf_26 : decode cX12_farOf 26 = .ok (.iload_n 2, 1) := by decide +kernel
theorem dX12_farOf_27 : decode cX12_farOf 27 = .ok (.ireturn, 1) := by decide +kernel
theorem dX12_everybody_0 : decode cX12_everybody 0 = .ok (.iconst 1, 1) := by decide +kernel
theorem dX12_everybody_1 : decode cX12_everybody 1 = .ok (.aload_n 0, 1) := by decide +kernel
theorem dX12_everybody_2 : decode cX12_everybody 2 = .ok (.invokevirtual 94, 3) := by decide +kernel
theorem dX12_everybody_5 : decode cX12_everybody 5 = .ok (.ishl, 1) := by decide +kernel
theorem dX12_everybody_6 : decode cX12_everybody 6 = .ok (.iconst 1, 1) := by decide +kernel
theorem dX12_everybody_7 : decode cX12_everybody 7 = .ok (.isub, 1) := by decide +kernel
theorem dX12_everybody_8 : decode cX12_everybody 8 = .ok (.ireturn, 1) := by decide +kernel
theorem dX12_circleOf_0 : decode cX12_circleOf 0 = .ok (.aload_n 0, 1) := by decide +kernel
theorem dX12_circleOf_1 : decode cX12_circleOf 1 = .ok (.invokevirtual 367, 3) := by decide +kernel
theorem dX12_circleOf_4 : decode cX12_circleOf 4 = .ok (.aload_n 0, 1) := by decide +kernel
theorem dX12_circleOf_5 : decode cX12_circleOf 5 = .ok (.iload_n 2, 1) := by decide +kernel
theorem dX12_circleOf_6 : decode cX12_circleOf 6 = .ok (.iconst 1, 1) := by decide +kernel
theorem dX12_circleOf_7 : decode cX12_circleOf 7 = .ok (.invokevirtual 335, 3) := by decide +kernel
theorem dX12_circleOf_10 : decode cX12_circleOf 10 = .ok (.pop, 1) := by decide +kernel
theorem dX12_circleOf_11 : decode cX12_circleOf 11 = .ok (.aload_n 0, 1) := by decide +kernel
theorem dX12_circleOf_12 : decode cX12_circleOf 12 = .ok (.invokevirtual 370, 3) := by decide +kernel
theorem dX12_circleOf_15 : decode cX12_circleOf 15 = .ok (.aload_n 0, 1) := by decide +kernel
theorem dX12_circleOf_16 : decode cX12_circleOf 16 = .ok (.getfield 42, 3) := by decide +kernel
theorem dX12_circleOf_19 : decode cX12_circleOf 19 = .ok (.iload_n 1, 1) := by decide +kernel
theorem dX12_circleOf_20 : decode cX12_circleOf 20 = .ok (.iaload, 1) := by decide +kernel
theorem dX12_circleOf_21 : decode cX12_circleOf 21 = .ok (.ireturn, 1) := by decide +kernel
theorem dX12_shunnedBy_0 : decode cX12_shunnedBy 0 = .ok (.iconst 0, 1) := by decide +kernel
theorem dX12_shunnedBy_1 : decode cX12_shunnedBy 1 = .ok (.istore_n 2, 1) := by decide +kernel
theorem dX12_shunnedBy_2 : decode cX12_shunnedBy 2 = .ok (.iconst 0, 1) := by decide +kernel
theorem dX12_shunnedBy_3 : decode cX12_shunnedBy 3 = .ok (.istore_n 3, 1) := by decide +kernel
theorem dX12_shunnedBy_4 : decode cX12_shunnedBy 4 = .ok (.iload_n 3, 1) := by decide +kernel
theorem dX12_shunnedBy_5 : decode cX12_shunnedBy 5 = .ok (.aload_n 0, 1) := by decide +kernel
theorem dX12_shunnedBy_6 : decode cX12_shunnedBy 6 = .ok (.invokevirtual 94, 3) := by decide +kernel
theorem dX12_shunnedBy_9 : decode cX12_shunnedBy 9 = .ok (.if_icmp .ge 32, 3) := by decide +kernel
theorem dX12_shunnedBy_12 : decode cX12_shunnedBy 12 = .ok (.iload_n 2, 1) := by decide +kernel
theorem dX12_shunnedBy_13 : decode cX12_shunnedBy 13 = .ok (.aload_n 0, 1) := by decide +kernel
theorem dX12_shunnedBy_14 : decode cX12_shunnedBy 14 = .ok (.iload_n 3, 1) := by decide +kernel
theorem dX12_shunnedBy_15 : decode cX12_shunnedBy 15 = .ok (.iconst 2, 1) := by decide +kernel
theorem dX12_shunnedBy_16 : decode cX12_shunnedBy 16 = .ok (.invokevirtual 88, 3) := by decide +kernel
theorem dX12_shunnedBy_19 : decode cX12_shunnedBy 19 = .ok (.iload_n 1, 1) := by decide +kernel
theorem dX12_shunnedBy_20 : decode cX12_shunnedBy 20 = .ok (.invokestatic 305, 3) := by decide +kernel
theorem dX12_shunnedBy_23 : decode cX12_shunnedBy 23 = .ok (.ifCond .eq 9, 3) := by decide +kernel
theorem dX12_shunnedBy_26 : decode cX12_shunnedBy 26 = .ok (.iconst 1, 1) := by decide +kernel
theorem dX12_shunnedBy_27 : decode cX12_shunnedBy 27 = .ok (.iload_n 3, 1) := by decide +kernel
theorem dX12_shunnedBy_28 : decode cX12_shunnedBy 28 = .ok (.ishl, 1) := by decide +kernel
theorem dX12_shunnedBy_29 : decode cX12_shunnedBy 29 = .ok (.goto 4, 3) := by decide +kernel
theorem dX12_shunnedBy_32 : decode cX12_shunnedBy 32 = .ok (.iconst 0, 1) := by decide +kernel
theorem dX12_shunnedBy_33 : decode cX12_shunnedBy 33 = .ok (.ior, 1) := by decide +kernel
theorem dX12_shunnedBy_34 : decode cX12_shunnedBy 34 = .ok (.istore_n 2, 1) := by decide +kernel
theorem dX12_shunnedBy_35 : decode cX12_shunnedBy 35 = .ok (.iinc 3 1, 3) := by decide +kernel
theorem dX12_shunnedBy_38 : decode cX12_shunnedBy 38 = .ok (.goto (-34), 3) := by decide +kernel
theorem dX12_shunnedBy_41 : decode cX12_shunnedBy 41 = .ok (.iload_n 2, 1) := by decide +kernel
theorem dX12_shunnedBy_42 : decode cX12_shunnedBy 42 = .ok (.ireturn, 1) := by decide +kernel
theorem dX12_walker_0 : decode cX12_walker 0 = .ok (.aload_n 0, 1) := by decide +kernel
theorem dX12_walker_1 : decode cX12_walker 1 = .ok (.iconst 0, 1) := by decide +kernel
theorem dX12_walker_2 : decode cX12_walker 2 = .ok (.putfield 3, 3) := by decide +kernel
theorem dX12_walker_5 : decode cX12_walker 5 = .ok (.aload_n 0, 1) := by decide +kernel
theorem dX12_walker_6 : decode cX12_walker 6 = .ok (.aload_n 0, 1) := by decide +kernel
theorem dX12_walker_7 : decode cX12_walker 7 = .ok (.iload_n 1, 1) := by decide +kernel
theorem dX12_walker_8 : decode cX12_walker 8 = .ok (.invokevirtual 342, 3) := by decide +kernel
theorem dX12_walker_11 : decode cX12_walker 11 = .ok (.iconst 1, 1) := by decide +kernel
theorem dX12_walker_12 : decode cX12_walker 12 = .ok (.invokevirtual 277, 3) := by decide +kernel
theorem dX12_walker_15 : decode cX12_walker 15 = .ok (.ifCond .ne 26, 3) := by decide +kernel
theorem dX12_walker_18 : decode cX12_walker 18 = .ok (.aload_n 0, 1) := by decide +kernel
theorem dX12_walker_19 : decode cX12_walker 19 = .ok (.iload_n 2, 1) := by decide +kernel
theorem dX12_walker_20 : decode cX12_walker 20 = .ok (.iconst 0, 1) := by decide +kernel
theorem dX12_walker_21 : decode cX12_walker 21 = .ok (.bipush 13, 2) := by decide +kernel
theorem dX12_walker_23 : decode cX12_walker 23 = .ok (.invokestatic 97, 3) := by decide +kernel
theorem dX12_walker_26 : decode cX12_walker 26 = .ok (.ifCond .ne 7, 3) := by decide +kernel
theorem dX12_walker_29 : decode cX12_walker 29 = .ok (.iconst 1, 1) := by decide +kernel
theorem dX12_walker_30 : decode cX12_walker 30 = .ok (.goto 4, 3) := by decide +kernel
theorem dX12_walker_33 : decode cX12_walker 33 = .ok (.iconst 0, 1) := by decide +kernel
theorem dX12_walker_34 : decode cX12_walker 34 = .ok (.iconst 2, 1) := by decide +kernel
theorem dX12_walker_35 : decode cX12_walker 35 = .ok (.invokevirtual 277, 3) := by decide +kernel
theorem dX12_walker_38 : decode cX12_walker 38 = .ok (.ifCond .eq 5, 3) := by decide +kernel
theorem dX12_walker_41 : decode cX12_walker 41 = .ok (.iconst 0, 1) := by decide +kernel
theorem dX12_walker_42 : decode cX12_walker 42 = .ok (.ireturn, 1) := by decide +kernel
theorem dX12_walker_43 : decode cX12_walker 43 = .ok (.iload_n 2, 1) := by decide +kernel
theorem dX12_walker_44 : decode cX12_walker 44 = .ok (.tableswitch 140 7 13 #[44, 50, 56, 80, 86, 108, 114], 44) := by decide +kernel
theorem dX12_walker_88 : decode cX12_walker 88 = .ok (.aload_n 0, 1) := by decide +kernel
theorem dX12_walker_89 : decode cX12_walker 89 = .ok (.iload_n 1, 1) := by decide +kernel
theorem dX12_walker_90 : decode cX12_walker 90 = .ok (.invokevirtual 302, 3) := by decide +kernel
theorem dX12_walker_93 : decode cX12_walker 93 = .ok (.ireturn, 1) := by decide +kernel
theorem dX12_walker_94 : decode cX12_walker 94 = .ok (.aload_n 0, 1) := by decide +kernel
theorem dX12_walker_95 : decode cX12_walker 95 = .ok (.iload_n 1, 1) := by decide +kernel
theorem dX12_walker_96 : decode cX12_walker 96 = .ok (.invokevirtual 283, 3) := by decide +kernel
theorem dX12_walker_99 : decode cX12_walker 99 = .ok (.ireturn, 1) := by decide +kernel
theorem dX12_walker_100 : decode cX12_walker 100 = .ok (.aload_n 0, 1) := by decide +kernel
theorem dX12_walker_101 : decode cX12_walker 101 = .ok (.iload_n 1, 1) := by decide +kernel
theorem dX12_walker_102 : decode cX12_walker 102 = .ok (.invokevirtual 283, 3) := by decide +kernel
theorem dX12_walker_105 : decode cX12_walker 105 = .ok (.iconst (-1), 1) := by decide +kernel
theorem dX12_walker_106 : decode cX12_walker 106 = .ok (.if_icmp .ne 7, 3) := by decide +kernel
theorem dX12_walker_109 : decode cX12_walker 109 = .ok (.iconst (-1), 1) := by decide +kernel
theorem dX12_walker_110 : decode cX12_walker 110 = .ok (.goto 13, 3) := by decide +kernel
theorem dX12_walker_113 : decode cX12_walker 113 = .ok (.aload_n 0, 1) := by decide +kernel
theorem dX12_walker_114 : decode cX12_walker 114 = .ok (.iload_n 1, 1) := by decide +kernel
theorem dX12_walker_115 : decode cX12_walker 115 = .ok (.aload_n 0, 1) := by decide +kernel
theorem dX12_walker_116 : decode cX12_walker 116 = .ok (.iload_n 1, 1) := by decide +kernel
theorem dX12_walker_117 : decode cX12_walker 117 = .ok (.invokevirtual 283, 3) := by decide +kernel
theorem dX12_walker_120 : decode cX12_walker 120 = .ok (.invokevirtual 280, 3) := by decide +kernel
theorem dX12_walker_123 : decode cX12_walker 123 = .ok (.ireturn, 1) := by decide +kernel
theorem dX12_walker_124 : decode cX12_walker 124 = .ok (.aload_n 0, 1) := by decide +kernel
theorem dX12_walker_125 : decode cX12_walker 125 = .ok (.iload_n 1, 1) := by decide +kernel
theorem dX12_walker_126 : decode cX12_walker 126 = .ok (.invokevirtual 373, 3) := by decide +kernel
theorem dX12_walker_129 : decode cX12_walker 129 = .ok (.ireturn, 1) := by decide +kernel
theorem dX12_walker_130 : decode cX12_walker 130 = .ok (.aload_n 0, 1) := by decide +kernel
theorem dX12_walker_131 : decode cX12_walker 131 = .ok (.invokevirtual 376, 3) := by decide +kernel
theorem dX12_walker_134 : decode cX12_walker 134 = .ok (.iconst 1, 1) := by decide +kernel
theorem dX12_walker_135 : decode cX12_walker 135 = .ok (.iload_n 1, 1) := by decide +kernel
theorem dX12_walker_136 : decode cX12_walker 136 = .ok (.ishl, 1) := by decide +kernel
theorem dX12_walker_137 : decode cX12_walker 137 = .ok (.iconst (-1), 1) := by decide +kernel
theorem dX12_walker_138 : decode cX12_walker 138 = .ok (.ixor, 1) := by decide +kernel
theorem dX12_walker_139 : decode cX12_walker 139 = .ok (.iand, 1) := by decide +kernel
theorem dX12_walker_140 : decode cX12_walker 140 = .ok (.aload_n 0, 1) := by decide +kernel
theorem dX12_walker_141 : decode cX12_walker 141 = .ok (.iload_n 1, 1) := by decide +kernel
theorem dX12_walker_142 : decode cX12_walker 142 = .ok (.sipush 200, 3) := by decide +kernel
theorem dX12_walker_145 : decode cX12_walker 145 = .ok (.invokevirtual 379, 3) := by decide +kernel
theorem dX12_walker_148 : decode cX12_walker 148 = .ok (.iconst (-1), 1) := by decide +kernel
theorem dX12_walker_149 : decode cX12_walker 149 = .ok (.ixor, 1) := by decide +kernel
theorem dX12_walker_150 : decode cX12_walker 150 = .ok (.iand, 1) := by decide +kernel
theorem dX12_walker_151 : decode cX12_walker 151 = .ok (.ireturn, 1) := by decide +kernel
theorem dX12_walker_152 : decode cX12_walker 152 = .ok (.aload_n 0, 1) := by decide +kernel
theorem dX12_walker_153 : decode cX12_walker 153 = .ok (.iload_n 1, 1) := by decide +kernel
theorem dX12_walker_154 : decode cX12_walker 154 = .ok (.invokevirtual 382, 3) := by decide +kernel
theorem dX12_walker_157 : decode cX12_walker 157 = .ok (.ireturn, 1) := by decide +kernel
theorem dX12_walker_158 : decode cX12_walker 158 = .ok (.aload_n 0, 1) := by decide +kernel
theorem dX12_walker_159 : decode cX12_walker 159 = .ok (.invokevirtual 385, 3) := by decide +kernel
theorem dX12_walker_162 : decode cX12_walker 162 = .ok (.ifCond .ne 7, 3) := by decide +kernel
theorem dX12_walker_165 : decode cX12_walker 165 = .ok (.iconst 0, 1) := by decide +kernel
theorem dX12_walker_166 : decode cX12_walker 166 = .ok (.goto 17, 3) := by decide +kernel
theorem dX12_walker_169 : decode cX12_walker 169 = .ok (.bipush 100, 2) := by decide +kernel
theorem dX12_walker_171 : decode cX12_walker 171 = .ok (.aload_n 0, 1) := by decide +kernel
theorem dX12_walker_172 : decode cX12_walker 172 = .ok (.iload_n 1, 1) := by decide +kernel
theorem dX12_walker_173 : decode cX12_walker 173 = .ok (.iconst 4, 1) := by decide +kernel
theorem dX12_walker_174 : decode cX12_walker 174 = .ok (.invokevirtual 88, 3) := by decide +kernel
theorem dX12_walker_177 : decode cX12_walker 177 = .ok (.imul, 1) := by decide +kernel
theorem dX12_walker_178 : decode cX12_walker 178 = .ok (.aload_n 0, 1) := by decide +kernel
theorem dX12_walker_179 : decode cX12_walker 179 = .ok (.invokevirtual 385, 3) := by decide +kernel
theorem dX12_walker_182 : decode cX12_walker 182 = .ok (.idiv, 1) := by decide +kernel
theorem dX12_walker_183 : decode cX12_walker 183 = .ok (.ireturn, 1) := by decide +kernel
theorem dX12_walker_184 : decode cX12_walker 184 = .ok (.aload_n 0, 1) := by decide +kernel
theorem dX12_walker_185 : decode cX12_walker 185 = .ok (.iload_n 1, 1) := by decide +kernel
theorem dX12_walker_186 : decode cX12_walker 186 = .ok (.iload_n 2, 1) := by decide +kernel
theorem dX12_walker_187 : decode cX12_walker 187 = .ok (.invokevirtual 88, 3) := by decide +kernel
theorem dX12_walker_190 : decode cX12_walker 190 = .ok (.ireturn, 1) := by decide +kernel
theorem dX12_greatestFar_0 : decode cX12_greatestFar 0 = .ok (.iconst 0, 1) := by decide +kernel
theorem dX12_greatestFar_1 : decode cX12_greatestFar 1 = .ok (.istore_n 1, 1) := by decide +kernel
theorem dX12_greatestFar_2 : decode cX12_greatestFar 2 = .ok (.iconst 0, 1) := by decide +kernel
theorem dX12_greatestFar_3 : decode cX12_greatestFar 3 = .ok (.istore_n 2, 1) := by decide +kernel
theorem dX12_greatestFar_4 : decode cX12_greatestFar 4 = .ok (.iload_n 2, 1) := by decide +kernel
theorem dX12_greatestFar_5 : decode cX12_greatestFar 5 = .ok (.aload_n 0, 1) := by decide +kernel
theorem dX12_greatestFar_6 : decode cX12_greatestFar 6 = .ok (.invokevirtual 94, 3) := by decide +kernel
theorem dX12_greatestFar_9 : decode cX12_greatestFar 9 = .ok (.if_icmp .ge 28, 3) := by decide +kernel
theorem dX12_greatestFar_12 : decode cX12_greatestFar 12 = .ok (.iload_n 1, 1) := by decide +kernel
theorem dX12_greatestFar_13 : decode cX12_greatestFar 13 = .ok (.aload_n 0, 1) := by decide +kernel
theorem dX12_greatestFar_14 : decode cX12_greatestFar 14 = .ok (.aload_n 0, 1) := by decide +kernel
theorem dX12_greatestFar_15 : decode cX12_greatestFar 15 = .ok (.iload_n 2, 1) := by decide +kernel
theorem dX12_greatestFar_16 : decode cX12_greatestFar 16 = .ok (.iconst 0, 1) := by decide +kernel
theorem dX12_greatestFar_17 : decode cX12_greatestFar 17 = .ok (.invokevirtual 88, 3) := by decide +kernel
theorem dX12_greatestFar_20 : decode cX12_greatestFar 20 = .ok (.aload_n 0, 1) := by decide +kernel
theorem dX12_greatestFar_21 : decode cX12_greatestFar 21 = .ok (.invokevirtual 361, 3) := by decide +kernel
theorem dX12_greatestFar_24 : decode cX12_greatestFar 24 = .ok (.invokevirtual 364, 3) := by decide +kernel
theorem dX12_greatestFar_27 : decode cX12_greatestFar 27 = .ok (.invokestatic 299, 3) := by decide +kernel
theorem dX12_greatestFar_30 : decode cX12_greatestFar 30 = .ok (.istore_n 1, 1) := by decide +kernel
theorem dX12_greatestFar_31 : decode cX12_greatestFar 31 = .ok (.iinc 2 1, 3) := by decide +kernel
theorem dX12_greatestFar_34 : decode cX12_greatestFar 34 = .ok (.goto (-30), 3) := by decide +kernel
theorem dX12_greatestFar_37 : decode cX12_greatestFar 37 = .ok (.iload_n 1, 1) := by decide +kernel
theorem dX12_greatestFar_38 : decode cX12_greatestFar 38 = .ok (.ireturn, 1) := by decide +kernel
theorem dX12_bestOf_0 : decode cX12_bestOf 0 = .ok (.aload_n 0, 1) := by decide +kernel
theorem dX12_bestOf_1 : decode cX12_bestOf 1 = .ok (.iload_n 1, 1) := by decide +kernel
theorem dX12_bestOf_2 : decode cX12_bestOf 2 = .ok (.iconst 0, 1) := by decide +kernel
theorem dX12_bestOf_3 : decode cX12_bestOf 3 = .ok (.invokevirtual 358, 3) := by decide +kernel
theorem dX12_bestOf_6 : decode cX12_bestOf 6 = .ok (.istore_n 2, 1) := by decide +kernel
theorem dX12_bestOf_7 : decode cX12_bestOf 7 = .ok (.iload_n 2, 1) := by decide +kernel
theorem dX12_bestOf_8 : decode cX12_bestOf 8 = .ok (.istore_n 3, 1) := by decide +kernel
theorem dX12_bestOf_9 : decode cX12_bestOf 9 = .ok (.ldc_w 357, 3) := by decide +kernel
theorem dX12_bestOf_12 : decode cX12_bestOf 12 = .ok (.istore 4, 2) := by decide +kernel
theorem dX12_bestOf_14 : decode cX12_bestOf 14 = .ok (.iconst 0, 1) := by decide +kernel
theorem dX12_bestOf_15 : decode cX12_bestOf 15 = .ok (.istore 5, 2) := by decide +kernel
theorem dX12_bestOf_17 : decode cX12_bestOf 17 = .ok (.iload 5, 2) := by decide +kernel
theorem dX12_bestOf_19 : decode cX12_bestOf 19 = .ok (.aload_n 0, 1) := by decide +kernel
theorem dX12_bestOf_20 : decode cX12_bestOf 20 = .ok (.invokevirtual 84, 3) := by decide +kernel
theorem dX12_bestOf_23 : decode cX12_bestOf 23 = .ok (.if_icmp .ge 57, 3) := by decide +kernel
theorem dX12_bestOf_26 : decode cX12_bestOf 26 = .ok (.aload_n 0, 1) := by decide +kernel
theorem dX12_bestOf_27 : decode cX12_bestOf 27 = .ok (.invokevirtual 94, 3) := by decide +kernel
theorem dX12_bestOf_30 : decode cX12_bestOf 30 = .ok (.ifCond .le 50, 3) := by decide +kernel
theorem dX12_bestOf_33 : decode cX12_bestOf 33 = .ok (.aload_n 0, 1) := by decide +kernel
theorem dX12_bestOf_34 : decode cX12_bestOf 34 = .ok (.getfield 13, 3) := by decide +kernel
theorem dX12_bestOf_37 : decode cX12_bestOf 37 = .ok (.iload_n 1, 1) := by decide +kernel
theorem dX12_bestOf_38 : decode cX12_bestOf 38 = .ok (.iconst 0, 1) := by decide +kernel
theorem dX12_bestOf_39 : decode cX12_bestOf 39 = .ok (.invokestatic 81, 3) := by decide +kernel
theorem dX12_bestOf_42 : decode cX12_bestOf 42 = .ok (.iload 5, 2) := by decide +kernel
theorem dX12_bestOf_44 : decode cX12_bestOf 44 = .ok (.iastore, 1) := by decide +kernel
theorem dX12_bestOf_45 : decode cX12_bestOf 45 = .ok (.aload_n 0, 1) := by decide +kernel
theorem dX12_bestOf_46 : decode cX12_bestOf 46 = .ok (.invokevirtual 388, 3) := by decide +kernel
theorem dX12_bestOf_49 : decode cX12_bestOf 49 = .ok (.istore 6, 2) := by decide +kernel
theorem dX12_bestOf_51 : decode cX12_bestOf 51 = .ok (.iload 6, 2) := by decide +kernel
theorem dX12_bestOf_53 : decode cX12_bestOf 53 = .ok (.iload 4, 2) := by decide +kernel
theorem dX12_bestOf_55 : decode cX12_bestOf 55 = .ok (.if_icmp .ge 8, 3) := by decide +kernel
theorem dX12_bestOf_58 : decode cX12_bestOf 58 = .ok (.iload 5, 2) := by decide +kernel
theorem dX12_bestOf_60 : decode cX12_bestOf 60 = .ok (.goto 4, 3) := by decide +kernel
theorem dX12_bestOf_63 : decode cX12_bestOf 63 = .ok (.iload_n 3, 1) := by decide +kernel
theorem dX12_bestOf_64 : decode cX12_bestOf 64 = .ok (.istore_n 3, 1) := by decide +kernel
theorem dX12_bestOf_65 : decode cX12_bestOf 65 = .ok (.iload 4, 2) := by decide +kernel
theorem dX12_bestOf_67 : decode cX12_bestOf 67 = .ok (.iload 6, 2) := by decide +kernel
theorem dX12_bestOf_69 : decode cX12_bestOf 69 = .ok (.invokestatic 146, 3) := by decide +kernel
theorem dX12_bestOf_72 : decode cX12_bestOf 72 = .ok (.istore 4, 2) := by decide +kernel
theorem dX12_bestOf_74 : decode cX12_bestOf 74 = .ok (.iinc 5 1, 3) := by decide +kernel
theorem dX12_bestOf_77 : decode cX12_bestOf 77 = .ok (.goto (-60), 3) := by decide +kernel
theorem dX12_bestOf_80 : decode cX12_bestOf 80 = .ok (.aload_n 0, 1) := by decide +kernel
theorem dX12_bestOf_81 : decode cX12_bestOf 81 = .ok (.getfield 13, 3) := by decide +kernel
theorem dX12_bestOf_84 : decode cX12_bestOf 84 = .ok (.iload_n 1, 1) := by decide +kernel
theorem dX12_bestOf_85 : decode cX12_bestOf 85 = .ok (.iconst 0, 1) := by decide +kernel
theorem dX12_bestOf_86 : decode cX12_bestOf 86 = .ok (.invokestatic 81, 3) := by decide +kernel
theorem dX12_bestOf_89 : decode cX12_bestOf 89 = .ok (.iload_n 2, 1) := by decide +kernel
theorem dX12_bestOf_90 : decode cX12_bestOf 90 = .ok (.iastore, 1) := by decide +kernel
theorem dX12_bestOf_91 : decode cX12_bestOf 91 = .ok (.iload_n 3, 1) := by decide +kernel
theorem dX12_bestOf_92 : decode cX12_bestOf 92 = .ok (.ireturn, 1) := by decide +kernel
theorem dX12_shelter_0 : decode cX12_shelter 0 = .ok (.aload_n 0, 1) := by decide +kernel
theorem dX12_shelter_1 : decode cX12_shelter 1 = .ok (.iconst 0, 1) := by decide +kernel
theorem dX12_shelter_2 : decode cX12_shelter 2 = .ok (.putfield 3, 3) := by decide +kernel
theorem dX12_shelter_5 : decode cX12_shelter 5 = .ok (.aload_n 0, 1) := by decide +kernel
theorem dX12_shelter_6 : decode cX12_shelter 6 = .ok (.aload_n 0, 1) := by decide +kernel
theorem dX12_shelter_7 : decode cX12_shelter 7 = .ok (.iload_n 1, 1) := by decide +kernel
theorem dX12_shelter_8 : decode cX12_shelter 8 = .ok (.invokevirtual 351, 3) := by decide +kernel
theorem dX12_shelter_11 : decode cX12_shelter 11 = .ok (.iconst 1, 1) := by decide +kernel
theorem dX12_shelter_12 : decode cX12_shelter 12 = .ok (.invokevirtual 277, 3) := by decide +kernel
theorem dX12_shelter_15 : decode cX12_shelter 15 = .ok (.ifCond .ne 25, 3) := by decide +kernel
theorem dX12_shelter_18 : decode cX12_shelter 18 = .ok (.aload_n 0, 1) := by decide +kernel
theorem dX12_shelter_19 : decode cX12_shelter 19 = .ok (.iload_n 2, 1) := by decide +kernel
theorem dX12_shelter_20 : decode cX12_shelter 20 = .ok (.iconst 0, 1) := by decide +kernel
theorem dX12_shelter_21 : decode cX12_shelter 21 = .ok (.iconst 2, 1) := by decide +kernel
theorem dX12_shelter_22 : decode cX12_shelter 22 = .ok (.invokestatic 97, 3) := by decide +kernel
theorem dX12_shelter_25 : decode cX12_shelter 25 = .ok (.ifCond .ne 7, 3) := by decide +kernel
theorem dX12_shelter_28 : decode cX12_shelter 28 = .ok (.iconst 1, 1) := by decide +kernel
theorem dX12_shelter_29 : decode cX12_shelter 29 = .ok (.goto 4, 3) := by decide +kernel
theorem dX12_shelter_32 : decode cX12_shelter 32 = .ok (.iconst 0, 1) := by decide +kernel
theorem dX12_shelter_33 : decode cX12_shelter 33 = .ok (.iconst 2, 1) := by decide +kernel
theorem dX12_shelter_34 : decode cX12_shelter 34 = .ok (.invokevirtual 277, 3) := by decide +kernel
theorem dX12_shelter_37 : decode cX12_shelter 37 = .ok (.ifCond .eq 5, 3) := by decide +kernel
theorem dX12_shelter_40 : decode cX12_shelter 40 = .ok (.iconst 0, 1) := by decide +kernel
theorem dX12_shelter_41 : decode cX12_shelter 41 = .ok (.ireturn, 1) := by decide +kernel
theorem dX12_shelter_42 : decode cX12_shelter 42 = .ok (.iload_n 2, 1) := by decide +kernel
theorem dX12_shelter_43 : decode cX12_shelter 43 = .ok (.iconst 2, 1) := by decide +kernel
theorem dX12_shelter_44 : decode cX12_shelter 44 = .ok (.if_icmp .ne 11, 3) := by decide +kernel
theorem dX12_shelter_47 : decode cX12_shelter 47 = .ok (.aload_n 0, 1) := by decide +kernel
theorem dX12_shelter_48 : decode cX12_shelter 48 = .ok (.iload_n 1, 1) := by decide +kernel
theorem dX12_shelter_49 : decode cX12_shelter 49 = .ok (.invokevirtual 391, 3) := by decide +kernel
theorem dX12_shelter_52 : decode cX12_shelter 52 = .ok (.goto 9, 3) := by decide +kernel
theorem dX12_shelter_55 : decode cX12_shelter 55 = .ok (.aload_n 0, 1) := by decide +kernel
theorem dX12_shelter_56 : decode cX12_shelter 56 = .ok (.iload_n 1, 1) := by decide +kernel
theorem dX12_shelter_57 : decode cX12_shelter 57 = .ok (.iload_n 2, 1) := by decide +kernel
theorem dX12_shelter_58 : decode cX12_shelter 58 = .ok (.invokevirtual 358, 3) := by decide +kernel
theorem dX12_shelter_61 : decode cX12_shelter 61 = .ok (.ireturn, 1) := by decide +kernel
theorem dX12_gap_0 : decode cX12_gap 0 = .ok (.aload_n 0, 1) := by decide +kernel
theorem dX12_gap_1 : decode cX12_gap 1 = .ok (.iconst 0, 1) := by decide +kernel
theorem dX12_gap_2 : decode cX12_gap 2 = .ok (.putfield 3, 3) := by decide +kernel
theorem dX12_gap_5 : decode cX12_gap 5 = .ok (.aload_n 0, 1) := by decide +kernel
theorem dX12_gap_6 : decode cX12_gap 6 = .ok (.aload_n 0, 1) := by decide +kernel
theorem dX12_gap_7 : decode cX12_gap 7 = .ok (.iload_n 1, 1) := by decide +kernel
theorem dX12_gap_8 : decode cX12_gap 8 = .ok (.invokevirtual 354, 3) := by decide +kernel
theorem dX12_gap_11 : decode cX12_gap 11 = .ok (.ifCond .ne 11, 3) := by decide +kernel
theorem dX12_gap_14 : decode cX12_gap 14 = .ok (.aload_n 0, 1) := by decide +kernel
theorem dX12_gap_15 : decode cX12_gap 15 = .ok (.iload_n 2, 1) := by decide +kernel
theorem dX12_gap_16 : decode cX12_gap 16 = .ok (.invokevirtual 354, 3) := by decide +kernel
theorem dX12_gap_19 : decode cX12_gap 19 = .ok (.ifCond .eq 7, 3) := by decide +kernel
theorem dX12_gap_22 : decode cX12_gap 22 = .ok (.iconst 1, 1) := by decide +kernel
theorem dX12_gap_23 : decode cX12_gap 23 = .ok (.goto 4, 3) := by decide +kernel
theorem dX12_gap_26 : decode cX12_gap 26 = .ok (.iconst 0, 1) := by decide +kernel
theorem dX12_gap_27 : decode cX12_gap 27 = .ok (.iconst 1, 1) := by decide +kernel
theorem dX12_gap_28 : decode cX12_gap 28 = .ok (.invokevirtual 277, 3) := by decide +kernel
theorem dX12_gap_31 : decode cX12_gap 31 = .ok (.ifCond .eq 7, 3) := by decide +kernel
theorem dX12_gap_34 : decode cX12_gap 34 = .ok (.iconst 0, 1) := by decide +kernel
theorem dX12_gap_35 : decode cX12_gap 35 = .ok (.goto 9, 3) := by decide +kernel
theorem dX12_gap_38 : decode cX12_gap 38 = .ok (.aload_n 0, 1) := by decide +kernel
theorem dX12_gap_39 : decode cX12_gap 39 = .ok (.iload_n 1, 1) := by decide +kernel
theorem dX12_gap_40 : decode cX12_gap 40 = .ok (.iload_n 2, 1) := by decide +kernel
theorem dX12_gap_41 : decode cX12_gap 41 = .ok (.invokevirtual 91, 3) := by decide +kernel
theorem dX12_gap_44 : decode cX12_gap 44 = .ok (.ireturn, 1) := by decide +kernel
theorem dX12_order_0 : decode cX12_order 0 = .ok (.aload_n 0, 1) := by decide +kernel
theorem dX12_order_1 : decode cX12_order 1 = .ok (.iconst 0, 1) := by decide +kernel
theorem dX12_order_2 : decode cX12_order 2 = .ok (.putfield 3, 3) := by decide +kernel
theorem dX12_order_5 : decode cX12_order 5 = .ok (.iload_n 1, 1) := by decide +kernel
theorem dX12_order_6 : decode cX12_order 6 = .ok (.iconst 0, 1) := by decide +kernel
theorem dX12_order_7 : decode cX12_order 7 = .ok (.aload_n 0, 1) := by decide +kernel
theorem dX12_order_8 : decode cX12_order 8 = .ok (.invokevirtual 94, 3) := by decide +kernel
theorem dX12_order_11 : decode cX12_order 11 = .ok (.iconst 1, 1) := by decide +kernel
theorem dX12_order_12 : decode cX12_order 12 = .ok (.isub, 1) := by decide +kernel
theorem dX12_order_13 : decode cX12_order 13 = .ok (.invokestatic 97, 3) := by decide +kernel
theorem dX12_order_16 : decode cX12_order 16 = .ok (.ifCond .ne 5, 3) := by decide +kernel
theorem dX12_order_19 : decode cX12_order 19 = .ok (.iconst (-1), 1) := by decide +kernel
theorem dX12_order_20 : decode cX12_order 20 = .ok (.ireturn, 1) := by decide +kernel
theorem dX12_order_21 : decode cX12_order 21 = .ok (.iconst 0, 1) := by decide +kernel
theorem dX12_order_22 : decode cX12_order 22 = .ok (.istore_n 2, 1) := by decide +kernel
theorem dX12_order_23 : decode cX12_order 23 = .ok (.iconst (-1), 1) := by decide +kernel
theorem dX12_order_24 : decode cX12_order 24 = .ok (.istore_n 3, 1) := by decide +kernel
theorem dX12_order_25 : decode cX12_order 25 = .ok (.iconst 0, 1) := by decide +kernel
theorem dX12_order_26 : decode cX12_order 26 = .ok (.istore 4, 2) := by decide +kernel
theorem dX12_order_28 : decode cX12_order 28 = .ok (.iload 4, 2) := by decide +kernel
theorem dX12_order_30 : decode cX12_order 30 = .ok (.iload_n 1, 1) := by decide +kernel
theorem dX12_order_31 : decode cX12_order 31 = .ok (.if_icmp .gt 68, 3) := by decide +kernel
theorem dX12_order_34 : decode cX12_order 34 = .ok (.iconst (-1), 1) := by decide +kernel
theorem dX12_order_35 : decode cX12_order 35 = .ok (.istore_n 3, 1) := by decide +kernel
theorem dX12_order_36 : decode cX12_order 36 = .ok (.iconst 0, 1) := by decide +kernel
theorem dX12_order_37 : decode cX12_order 37 = .ok (.istore 5, 2) := by decide +kernel
theorem dX12_order_39 : decode cX12_order 39 = .ok (.iload 5, 2) := by decide +kernel
theorem dX12_order_41 : decode cX12_order 41 = .ok (.aload_n 0, 1) := by decide +kernel
theorem dX12_order_42 : decode cX12_order 42 = .ok (.invokevirtual 94, 3) := by decide +kernel
theorem dX12_order_45 : decode cX12_order 45 = .ok (.if_icmp .ge 42, 3) := by decide +kernel
theorem dX12_order_48 : decode cX12_order 48 = .ok (.iload_n 2, 1) := by decide +kernel
theorem dX12_order_49 : decode cX12_order 49 = .ok (.iload 5, 2) := by decide +kernel
theorem dX12_order_51 : decode cX12_order 51 = .ok (.invokestatic 305, 3) := by decide +kernel
theorem dX12_order_54 : decode cX12_order 54 = .ok (.ifCond .ne 27, 3) := by decide +kernel
theorem dX12_order_57 : decode cX12_order 57 = .ok (.iload_n 3, 1) := by decide +kernel
theorem dX12_order_58 : decode cX12_order 58 = .ok (.iconst (-1), 1) := by decide +kernel
theorem dX12_order_59 : decode cX12_order 59 = .ok (.if_icmp .eq 19, 3) := by decide +kernel
theorem dX12_order_62 : decode cX12_order 62 = .ok (.aload_n 0, 1) := by decide +kernel
theorem dX12_order_63 : decode cX12_order 63 = .ok (.iconst 0, 1) := by decide +kernel
theorem dX12_order_64 : decode cX12_order 64 = .ok (.iload 5, 2) := by decide +kernel
theorem dX12_order_66 : decode cX12_order 66 = .ok (.invokevirtual 280, 3) := by decide +kernel
theorem dX12_order_69 : decode cX12_order 69 = .ok (.aload_n 0, 1) := by decide +kernel
theorem dX12_order_70 : decode cX12_order 70 = .ok (.iconst 0, 1) := by decide +kernel
theorem dX12_order_71 : decode cX12_order 71 = .ok (.iload_n 3, 1) := by decide +kernel
theorem dX12_order_72 : decode cX12_order 72 = .ok (.invokevirtual 280, 3) := by decide +kernel
theorem dX12_order_75 : decode cX12_order 75 = .ok (.if_icmp .ge 6, 3) := by decide +kernel
theorem dX12_order_78 : decode cX12_order 78 = .ok (.iload 5, 2) := by decide +kernel
theorem dX12_order_80 : decode cX12_order 80 = .ok (.istore_n 3, 1) := by decide +kernel
theorem dX12_order_81 : decode cX12_order 81 = .ok (.iinc 5 1, 3) := by decide +kernel
theorem dX12_order_84 : decode cX12_order 84 = .ok (.goto (-45), 3) := by decide +kernel
theorem dX12_order_87 : decode cX12_order 87 = .ok (.iload_n 2, 1) := by decide +kernel
theorem dX12_order_88 : decode cX12_order 88 = .ok (.iconst 1, 1) := by decide +kernel
theorem dX12_order_89 : decode cX12_order 89 = .ok (.iload_n 3, 1) := by decide +kernel
theorem dX12_order_90 : decode cX12_order 90 = .ok (.ishl, 1) := by decide +kernel
theorem dX12_order_91 : decode cX12_order 91 = .ok (.ior, 1) := by decide +kernel
theorem dX12_order_92 : decode cX12_order 92 = .ok (.istore_n 2, 1) := by decide +kernel
theorem dX12_order_93 : decode cX12_order 93 = .ok (.iinc 4 1, 3) := by decide +kernel
theorem dX12_order_96 : decode cX12_order 96 = .ok (.goto (-68), 3) := by decide +kernel
theorem dX12_order_99 : decode cX12_order 99 = .ok (.iload_n 3, 1) := by decide +kernel
theorem dX12_order_100 : decode cX12_order 100 = .ok (.ireturn, 1) := by decide +kernel
theorem dX12_noHours_0 : decode cX12_noHours 0 = .ok (.iload_n 0, 1) := by decide +kernel
theorem dX12_noHours_1 : decode cX12_noHours 1 = .ok (.iconst 0, 1) := by decide +kernel
theorem dX12_noHours_2 : decode cX12_noHours 2 = .ok (.sipush 200, 3) := by decide +kernel
theorem dX12_noHours_5 : decode cX12_noHours 5 = .ok (.invokestatic 97, 3) := by decide +kernel
theorem dX12_noHours_8 : decode cX12_noHours 8 = .ok (.ifCond .ne 7, 3) := by decide +kernel
theorem dX12_noHours_11 : decode cX12_noHours 11 = .ok (.iconst 1, 1) := by decide +kernel
theorem dX12_noHours_12 : decode cX12_noHours 12 = .ok (.goto 4, 3) := by decide +kernel
theorem dX12_noHours_15 : decode cX12_noHours 15 = .ok (.iconst 0, 1) := by decide +kernel
theorem dX12_noHours_16 : decode cX12_noHours 16 = .ok (.ireturn, 1) := by decide +kernel
theorem dX12_laterOf_0 : decode cX12_laterOf 0 = .ok (.aload_n 0, 1) := by decide +kernel
theorem dX12_laterOf_1 : decode cX12_laterOf 1 = .ok (.invokevirtual 367, 3) := by decide +kernel
theorem dX12_laterOf_4 : decode cX12_laterOf 4 = .ok (.aload_n 0, 1) := by decide +kernel
theorem dX12_laterOf_5 : decode cX12_laterOf 5 = .ok (.iload_n 3, 1) := by decide +kernel
theorem dX12_laterOf_6 : decode cX12_laterOf 6 = .ok (.iconst 1, 1) := by decide +kernel
theorem dX12_laterOf_7 : decode cX12_laterOf 7 = .ok (.invokevirtual 335, 3) := by decide +kernel
theorem dX12_laterOf_10 : decode cX12_laterOf 10 = .ok (.pop, 1) := by decide +kernel
theorem dX12_laterOf_11 : decode cX12_laterOf 11 = .ok (.aload_n 0, 1) := by decide +kernel
theorem dX12_laterOf_12 : decode cX12_laterOf 12 = .ok (.iload_n 1, 1) := by decide +kernel
theorem dX12_laterOf_13 : decode cX12_laterOf 13 = .ok (.iload_n 2, 1) := by decide +kernel
theorem dX12_laterOf_14 : decode cX12_laterOf 14 = .ok (.invokevirtual 88, 3) := by decide +kernel
theorem dX12_laterOf_17 : decode cX12_laterOf 17 = .ok (.istore 4, 2) := by decide +kernel
theorem dX12_laterOf_19 : decode cX12_laterOf 19 = .ok (.aload_n 0, 1) := by decide +kernel
theorem dX12_laterOf_20 : decode cX12_laterOf 20 = .ok (.invokevirtual 370, 3) := by decide +kernel
theorem dX12_laterOf_23 : decode cX12_laterOf 23 = .ok (.iload 4, 2) := by decide +kernel
theorem dX12_laterOf_25 : decode cX12_laterOf 25 = .ok (.ireturn, 1) := by decide +kernel
theorem dX12_wrongHours_0 : decode cX12_wrongHours 0 = .ok (.aload_n 0, 1) := by decide +kernel
theorem dX12_wrongHours_1 : decode cX12_wrongHours 1 = .ok (.iconst 0, 1) := by decide +kernel
theorem dX12_wrongHours_2 : decode cX12_wrongHours 2 = .ok (.putfield 3, 3) := by decide +kernel
theorem dX12_wrongHours_5 : decode cX12_wrongHours 5 = .ok (.aload_n 0, 1) := by decide +kernel
theorem dX12_wrongHours_6 : decode cX12_wrongHours 6 = .ok (.aload_n 0, 1) := by decide +kernel
theorem dX12_wrongHours_7 : decode cX12_wrongHours 7 = .ok (.iload_n 1, 1) := by decide +kernel
theorem dX12_wrongHours_8 : decode cX12_wrongHours 8 = .ok (.invokevirtual 342, 3) := by decide +kernel
theorem dX12_wrongHours_11 : decode cX12_wrongHours 11 = .ok (.iconst 1, 1) := by decide +kernel
theorem dX12_wrongHours_12 : decode cX12_wrongHours 12 = .ok (.invokevirtual 277, 3) := by decide +kernel
theorem dX12_wrongHours_15 : decode cX12_wrongHours 15 = .ok (.ifCond .ne 15, 3) := by decide +kernel
theorem dX12_wrongHours_18 : decode cX12_wrongHours 18 = .ok (.aload_n 0, 1) := by decide +kernel
theorem dX12_wrongHours_19 : decode cX12_wrongHours 19 = .ok (.iload_n 2, 1) := by decide +kernel
theorem dX12_wrongHours_20 : decode cX12_wrongHours 20 = .ok (.invokestatic 394, 3) := by decide +kernel
theorem dX12_wrongHours_23 : decode cX12_wrongHours 23 = .ok (.iconst 2, 1) := by decide +kernel
theorem dX12_wrongHours_24 : decode cX12_wrongHours 24 = .ok (.invokevirtual 277, 3) := by decide +kernel
theorem dX12_wrongHours_27 : decode cX12_wrongHours 27 = .ok (.ifCond .eq 7, 3) := by decide +kernel
theorem dX12_wrongHours_30 : decode cX12_wrongHours 30 = .ok (.iconst 1, 1) := by decide +kernel
theorem dX12_wrongHours_31 : decode cX12_wrongHours 31 = .ok (.goto 4, 3) := by decide +kernel
theorem dX12_wrongHours_34 : decode cX12_wrongHours 34 = .ok (.iconst 0, 1) := by decide +kernel
theorem dX12_wrongHours_35 : decode cX12_wrongHours 35 = .ok (.ireturn, 1) := by decide +kernel
theorem dX12_where_0 : decode cX12_where 0 = .ok (.aload_n 0, 1) := by decide +kernel
theorem dX12_where_1 : decode cX12_where 1 = .ok (.iload_n 1, 1) := by decide +kernel
theorem dX12_where_2 : decode cX12_where 2 = .ok (.iload_n 2, 1) := by decide +kernel
theorem dX12_where_3 : decode cX12_where 3 = .ok (.invokevirtual 397, 3) := by decide +kernel
theorem dX12_where_6 : decode cX12_where 6 = .ok (.ifCond .eq 7, 3) := by decide +kernel
theorem dX12_where_9 : decode cX12_where 9 = .ok (.iconst 0, 1) := by decide +kernel
theorem dX12_where_10 : decode cX12_where 10 = .ok (.goto 10, 3) := by decide +kernel
theorem dX12_where_13 : decode cX12_where 13 = .ok (.aload_n 0, 1) := by decide +kernel
theorem dX12_where_14 : decode cX12_where 14 = .ok (.iload_n 1, 1) := by decide +kernel
theorem dX12_where_15 : decode cX12_where 15 = .ok (.iconst 0, 1) := by decide +kernel
theorem dX12_where_16 : decode cX12_where 16 = .ok (.iload_n 2, 1) := by decide +kernel
theorem dX12_where_17 : decode cX12_where 17 = .ok (.invokevirtual 400, 3) := by decide +kernel
theorem dX12_where_20 : decode cX12_where 20 = .ok (.ireturn, 1) := by decide +kernel
theorem dX12_laps_0 : decode cX12_laps 0 = .ok (.aload_n 0, 1) := by decide +kernel
theorem dX12_laps_1 : decode cX12_laps 1 = .ok (.iload_n 1, 1) := by decide +kernel
theorem dX12_laps_2 : decode cX12_laps 2 = .ok (.iload_n 2, 1) := by decide +kernel
theorem dX12_laps_3 : decode cX12_laps 3 = .ok (.invokevirtual 397, 3) := by decide +kernel
theorem dX12_laps_6 : decode cX12_laps 6 = .ok (.ifCond .eq 7, 3) := by decide +kernel
theorem dX12_laps_9 : decode cX12_laps 9 = .ok (.iconst 0, 1) := by decide +kernel
theorem dX12_laps_10 : decode cX12_laps 10 = .ok (.goto 10, 3) := by decide +kernel
theorem dX12_laps_13 : decode cX12_laps 13 = .ok (.aload_n 0, 1) := by decide +kernel
theorem dX12_laps_14 : decode cX12_laps 14 = .ok (.iload_n 1, 1) := by decide +kernel
theorem dX12_laps_15 : decode cX12_laps 15 = .ok (.iconst 5, 1) := by decide +kernel
theorem dX12_laps_16 : decode cX12_laps 16 = .ok (.iload_n 2, 1) := by decide +kernel
theorem dX12_laps_17 : decode cX12_laps 17 = .ok (.invokevirtual 400, 3) := by decide +kernel
theorem dX12_laps_20 : decode cX12_laps 20 = .ok (.ireturn, 1) := by decide +kernel
theorem dX12_circle_0 : decode cX12_circle 0 = .ok (.aload_n 0, 1) := by decide +kernel
theorem dX12_circle_1 : decode cX12_circle 1 = .ok (.iload_n 1, 1) := by decide +kernel
theorem dX12_circle_2 : decode cX12_circle 2 = .ok (.iload_n 2, 1) := by decide +kernel
theorem dX12_circle_3 : decode cX12_circle 3 = .ok (.invokevirtual 397, 3) := by decide +kernel
theorem dX12_circle_6 : decode cX12_circle 6 = .ok (.ifCond .eq 7, 3) := by decide +kernel
theorem dX12_circle_9 : decode cX12_circle 9 = .ok (.iconst 0, 1) := by decide +kernel
theorem dX12_circle_10 : decode cX12_circle 10 = .ok (.goto 9, 3) := by decide +kernel
theorem dX12_circle_13 : decode cX12_circle 13 = .ok (.aload_n 0, 1) := by decide +kernel
theorem dX12_circle_14 : decode cX12_circle 14 = .ok (.iload_n 1, 1) := by decide +kernel
theorem dX12_circle_15 : decode cX12_circle 15 = .ok (.iload_n 2, 1) := by decide +kernel
theorem dX12_circle_16 : decode cX12_circle 16 = .ok (.invokevirtual 379, 3) := by decide +kernel
theorem dX12_circle_19 : decode cX12_circle 19 = .ok (.ireturn, 1) := by decide +kernel
theorem dX12_up_0 : decode cX12_up 0 = .ok (.aload_n 0, 1) := by decide +kernel
theorem dX12_up_1 : decode cX12_up 1 = .ok (.iload_n 1, 1) := by decide +kernel
theorem dX12_up_2 : decode cX12_up 2 = .ok (.iload_n 2, 1) := by decide +kernel
theorem dX12_up_3 : decode cX12_up 3 = .ok (.invokevirtual 348, 3) := by decide +kernel
theorem dX12_up_6 : decode cX12_up 6 = .ok (.ifCond .eq 5, 3) := by decide +kernel
theorem dX12_up_9 : decode cX12_up 9 = .ok (.iconst 0, 1) := by decide +kernel
theorem dX12_up_10 : decode cX12_up 10 = .ok (.ireturn, 1) := by decide +kernel
theorem dX12_up_11 : decode cX12_up 11 = .ok (.aload_n 0, 1) := by decide +kernel
theorem dX12_up_12 : decode cX12_up 12 = .ok (.invokevirtual 367, 3) := by decide +kernel
theorem dX12_up_15 : decode cX12_up 15 = .ok (.aload_n 0, 1) := by decide +kernel
theorem dX12_up_16 : decode cX12_up 16 = .ok (.invokevirtual 326, 3) := by decide +kernel
theorem dX12_up_19 : decode cX12_up 19 = .ok (.iconst (-1), 1) := by decide +kernel
theorem dX12_up_20 : decode cX12_up 20 = .ok (.istore_n 3, 1) := by decide +kernel
theorem dX12_up_21 : decode cX12_up 21 = .ok (.iconst 1, 1) := by decide +kernel
theorem dX12_up_22 : decode cX12_up 22 = .ok (.istore 4, 2) := by decide +kernel
theorem dX12_up_24 : decode cX12_up 24 = .ok (.iload 4, 2) := by decide +kernel
theorem dX12_up_26 : decode cX12_up 26 = .ok (.sipush 200, 3) := by decide +kernel
theorem dX12_up_29 : decode cX12_up 29 = .ok (.if_icmp .gt 40, 3) := by decide +kernel
theorem dX12_up_32 : decode cX12_up 32 = .ok (.iload_n 3, 1) := by decide +kernel
