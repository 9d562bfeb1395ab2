theorem dX12_couples_127 : decode cX12_couples 127 = .ok (.if_icmp .ne 8, 3) := by decide +kernel
theorem dX12_couples_130 : decode cX12_couples 130 = .ok (.iload 6, 2) := by decide +kernel
theorem dX12_couples_132 : decode cX12_couples 132 = .ok (.goto 5, 3) := by decide +kernel
theorem dX12_couples_135 : decode cX12_couples 135 = .ok (.iload 5, 2) := by decide +kernel
theorem dX12_couples_137 : decode cX12_couples 137 = .ok (.istore_n 3, 1) := by decide +kernel
theorem dX12_couples_138 : decode cX12_couples 138 = .ok (.iload_n 2, 1) := by decide +kernel
theorem dX12_couples_139 : decode cX12_couples 139 = .ok (.iconst 1, 1) := by decide +kernel
theorem dX12_couples_140 : decode cX12_couples 140 = .ok (.iload 5, 2) := by decide +kernel
theorem dX12_couples_142 : decode cX12_couples 142 = .ok (.ishl, 1) := by decide +kernel
theorem dX12_couples_143 : decode cX12_couples 143 = .ok (.iconst (-1), 1) := by decide +kernel
theorem dX12_couples_144 : decode cX12_couples 144 = .ok (.ixor, 1) := by decide +kernel
theorem dX12_couples_145 : decode cX12_couples 145 = .ok (.iand, 1) := by decide +kernel
theorem dX12_couples_146 : decode cX12_couples 146 = .ok (.istore_n 2, 1) := by decide +kernel
theorem dX12_couples_147 : decode cX12_couples 147 = .ok (.iload 6, 2) := by decide +kernel
theorem dX12_couples_149 : decode cX12_couples 149 = .ok (.aload_n 0, 1) := by decide +kernel
theorem dX12_couples_150 : decode cX12_couples 150 = .ok (.invokevirtual 94, 3) := by decide +kernel
theorem dX12_couples_153 : decode cX12_couples 153 = .ok (.if_icmp .ne 7, 3) := by decide +kernel
theorem dX12_couples_156 : decode cX12_couples 156 = .ok (.iload_n 2, 1) := by decide +kernel
theorem dX12_couples_157 : decode cX12_couples 157 = .ok (.goto 11, 3) := by decide +kernel
theorem dX12_couples_160 : decode cX12_couples 160 = .ok (.iload_n 2, 1) := by decide +kernel
theorem dX12_couples_161 : decode cX12_couples 161 = .ok (.iconst 1, 1) := by decide +kernel
theorem dX12_couples_162 : decode cX12_couples 162 = .ok (.iload 6, 2) := by decide +kernel
theorem dX12_couples_164 : decode cX12_couples 164 = .ok (.ishl, 1) := by decide +kernel
theorem dX12_couples_165 : decode cX12_couples 165 = .ok (.iconst (-1), 1) := by decide +kernel
theorem dX12_couples_166 : decode cX12_couples 166 = .ok (.ixor, 1) := by decide +kernel
theorem dX12_couples_167 : decode cX12_couples 167 = .ok (.iand, 1) := by decide +kernel
theorem dX12_couples_168 : decode cX12_couples 168 = .ok (.istore_n 2, 1) := by decide +kernel
theorem dX12_couples_169 : decode cX12_couples 169 = .ok (.goto (-100), 3) := by decide +kernel
theorem dX12_couples_172 : decode cX12_couples 172 = .ok (.iload_n 3, 1) := by decide +kernel
theorem dX12_couples_173 : decode cX12_couples 173 = .ok (.aload_n 0, 1) := by decide +kernel
theorem dX12_couples_174 : decode cX12_couples 174 = .ok (.invokevirtual 94, 3) := by decide +kernel
theorem dX12_couples_177 : decode cX12_couples 177 = .ok (.if_icmp .ne 7, 3) := by decide +kernel
theorem dX12_couples_180 : decode cX12_couples 180 = .ok (.iconst (-1), 1) := by decide +kernel
theorem dX12_couples_181 : decode cX12_couples 181 = .ok (.goto 4, 3) := by decide +kernel
theorem dX12_couples_184 : decode cX12_couples 184 = .ok (.iload_n 3, 1) := by decide +kernel
theorem dX12_couples_185 : decode cX12_couples 185 = .ok (.ireturn, 1) := by decide +kernel
theorem dX12_greeterHas_0 : decode cX12_greeterHas 0 = .ok (.iload_n 2, 1) := by decide +kernel
theorem dX12_greeterHas_1 : decode cX12_greeterHas 1 = .ok (.ifCond .ne 24, 3) := by decide +kernel
theorem dX12_greeterHas_4 : decode cX12_greeterHas 4 = .ok (.iload_n 3, 1) := by decide +kernel
theorem dX12_greeterHas_5 : decode cX12_greeterHas 5 = .ok (.ifCond .ne 7, 3) := by decide +kernel
theorem dX12_greeterHas_8 : decode cX12_greeterHas 8 = .ok (.iconst 2, 1) := by decide +kernel
theorem dX12_greeterHas_9 : decode cX12_greeterHas 9 = .ok (.goto 15, 3) := by decide +kernel
theorem dX12_greeterHas_12 : decode cX12_greeterHas 12 = .ok (.aload_n 0, 1) := by decide +kernel
theorem dX12_greeterHas_13 : decode cX12_greeterHas 13 = .ok (.iload_n 1, 1) := by decide +kernel
theorem dX12_greeterHas_14 : decode cX12_greeterHas 14 = .ok (.iconst 4, 1) := by decide +kernel
theorem dX12_greeterHas_15 : decode cX12_greeterHas 15 = .ok (.invokevirtual 88, 3) := by decide +kernel
theorem dX12_greeterHas_18 : decode cX12_greeterHas 18 = .ok (.bipush 10, 2) := by decide +kernel
theorem dX12_greeterHas_20 : decode cX12_greeterHas 20 = .ok (.idiv, 1) := by decide +kernel
theorem dX12_greeterHas_21 : decode cX12_greeterHas 21 = .ok (.ineg, 1) := by decide +kernel
theorem dX12_greeterHas_22 : decode cX12_greeterHas 22 = .ok (.iconst 1, 1) := by decide +kernel
theorem dX12_greeterHas_23 : decode cX12_greeterHas 23 = .ok (.isub, 1) := by decide +kernel
theorem dX12_greeterHas_24 : decode cX12_greeterHas 24 = .ok (.ireturn, 1) := by decide +kernel
theorem dX12_greeterHas_25 : decode cX12_greeterHas 25 = .ok (.iload_n 3, 1) := by decide +kernel
theorem dX12_greeterHas_26 : decode cX12_greeterHas 26 = .ok (.ifCond .ne 7, 3) := by decide +kernel
theorem dX12_greeterHas_29 : decode cX12_greeterHas 29 = .ok (.iconst 1, 1) := by decide +kernel
theorem dX12_greeterHas_30 : decode cX12_greeterHas 30 = .ok (.goto 11, 3) := by decide +kernel
theorem dX12_greeterHas_33 : decode cX12_greeterHas 33 = .ok (.aload_n 0, 1) := by decide +kernel
theorem dX12_greeterHas_34 : decode cX12_greeterHas 34 = .ok (.iload_n 1, 1) := by decide +kernel
theorem dX12_greeterHas_35 : decode cX12_greeterHas 35 = .ok (.iconst 3, 1) := by decide +kernel
theorem dX12_greeterHas_36 : decode cX12_greeterHas 36 = .ok (.invokevirtual 88, 3) := by decide +kernel
theorem dX12_greeterHas_39 : decode cX12_greeterHas 39 = .ok (.iconst 1, 1) := by decide +kernel
theorem dX12_greeterHas_40 : decode cX12_greeterHas 40 = .ok (.isub, 1) := by decide +kernel
theorem dX12_greeterHas_41 : decode cX12_greeterHas 41 = .ok (.ireturn, 1) := by decide +kernel
theorem dX12_rests_0 : decode cX12_rests 0 = .ok (.aload_n 0, 1) := by decide +kernel
theorem dX12_rests_1 : decode cX12_rests 1 = .ok (.iload_n 1, 1) := by decide +kernel
theorem dX12_rests_2 : decode cX12_rests 2 = .ok (.iload_n 2, 1) := by decide +kernel
theorem dX12_rests_3 : decode cX12_rests 3 = .ok (.invokevirtual 348, 3) := by decide +kernel
theorem dX12_rests_6 : decode cX12_rests 6 = .ok (.ifCond .eq 5, 3) := by decide +kernel
theorem dX12_rests_9 : decode cX12_rests 9 = .ok (.iconst 0, 1) := by decide +kernel
theorem dX12_rests_10 : decode cX12_rests 10 = .ok (.ireturn, 1) := by decide +kernel
theorem dX12_rests_11 : decode cX12_rests 11 = .ok (.iconst 0, 1) := by decide +kernel
theorem dX12_rests_12 : decode cX12_rests 12 = .ok (.istore_n 3, 1) := by decide +kernel
theorem dX12_rests_13 : decode cX12_rests 13 = .ok (.iconst 0, 1) := by decide +kernel
theorem dX12_rests_14 : decode cX12_rests 14 = .ok (.istore 4, 2) := by decide +kernel
theorem dX12_rests_16 : decode cX12_rests 16 = .ok (.iload 4, 2) := by decide +kernel
theorem dX12_rests_18 : decode cX12_rests 18 = .ok (.iconst 2, 1) := by decide +kernel
theorem dX12_rests_19 : decode cX12_rests 19 = .ok (.if_icmp .ge 86, 3) := by decide +kernel
theorem dX12_rests_22 : decode cX12_rests 22 = .ok (.iconst 0, 1) := by decide +kernel
theorem dX12_rests_23 : decode cX12_rests 23 = .ok (.istore 5, 2) := by decide +kernel
theorem dX12_rests_25 : decode cX12_rests 25 = .ok (.iload 5, 2) := by decide +kernel
theorem dX12_rests_27 : decode cX12_rests 27 = .ok (.iconst 2, 1) := by decide +kernel
theorem dX12_rests_28 : decode cX12_rests 28 = .ok (.if_icmp .ge 71, 3) := by decide +kernel
theorem dX12_rests_31 : decode cX12_rests 31 = .ok (.iload_n 3, 1) := by decide +kernel
theorem dX12_rests_32 : decode cX12_rests 32 = .ok (.aload_n 0, 1) := by decide +kernel
theorem dX12_rests_33 : decode cX12_rests 33 = .ok (.iload_n 1, 1) := by decide +kernel
theorem dX12_rests_34 : decode cX12_rests 34 = .ok (.iload 4, 2) := by decide +kernel
theorem dX12_rests_36 : decode cX12_rests 36 = .ok (.iload 5, 2) := by decide +kernel
theorem dX12_rests_38 : decode cX12_rests 38 = .ok (.invokevirtual 478, 3) := by decide +kernel
theorem dX12_rests_41 : decode cX12_rests 41 = .ok (.aload_n 0, 1) := by decide +kernel
theorem dX12_rests_42 : decode cX12_rests 42 = .ok (.iload_n 1, 1) := by decide +kernel
theorem dX12_rests_43 : decode cX12_rests 43 = .ok (.iconst 1, 1) := by decide +kernel
theorem dX12_rests_44 : decode cX12_rests 44 = .ok (.iload 4, 2) := by decide +kernel
theorem dX12_rests_46 : decode cX12_rests 46 = .ok (.isub, 1) := by decide +kernel
theorem dX12_rests_47 : decode cX12_rests 47 = .ok (.iload 5, 2) := by decide +kernel
theorem dX12_rests_49 : decode cX12_rests 49 = .ok (.invokevirtual 478, 3) := by decide +kernel
theorem dX12_rests_52 : decode cX12_rests 52 = .ok (.if_icmp .lt 38, 3) := by decide +kernel
theorem dX12_rests_55 : decode cX12_rests 55 = .ok (.aload_n 0, 1) := by decide +kernel
theorem dX12_rests_56 : decode cX12_rests 56 = .ok (.iload_n 2, 1) := by decide +kernel
theorem dX12_rests_57 : decode cX12_rests 57 = .ok (.iload 5, 2) := by decide +kernel
theorem dX12_rests_59 : decode cX12_rests 59 = .ok (.iload 4, 2) := by decide +kernel
theorem dX12_rests_61 : decode cX12_rests 61 = .ok (.invokevirtual 478, 3) := by decide +kernel
theorem dX12_rests_64 : decode cX12_rests 64 = .ok (.aload_n 0, 1) := by decide +kernel
theorem dX12_rests_65 : decode cX12_rests 65 = .ok (.iload_n 2, 1) := by decide +kernel
theorem dX12_rests_66 : decode cX12_rests 66 = .ok (.iconst 1, 1) := by decide +kernel
theorem dX12_rests_67 : decode cX12_rests 67 = .ok (.iload 5, 2) := by decide +kernel
theorem dX12_rests_69 : decode cX12_rests 69 = .ok (.isub, 1) := by decide +kernel
theorem dX12_rests_70 : decode cX12_rests 70 = .ok (.iload 4, 2) := by decide +kernel
theorem dX12_rests_72 : decode cX12_rests 72 = .ok (.invokevirtual 478, 3) := by decide +kernel
theorem dX12_rests_75 : decode cX12_rests 75 = .ok (.if_icmp .lt 15, 3) := by decide +kernel
theorem dX12_rests_78 : decode cX12_rests 78 = .ok (.iconst 1, 1) := by decide +kernel
theorem dX12_rests_79 : decode cX12_rests 79 = .ok (.iconst 2, 1) := by decide +kernel
theorem dX12_rests_80 : decode cX12_rests 80 = .ok (.iload 4, 2) := by decide +kernel
theorem dX12_rests_82 : decode cX12_rests 82 = .ok (.imul, 1) := by decide +kernel
theorem dX12_rests_83 : decode cX12_rests 83 = .ok (.iload 5, 2) := by decide +kernel
theorem dX12_rests_85 : decode cX12_rests 85 = .ok (.iadd, 1) := by decide +kernel
theorem dX12_rests_86 : decode cX12_rests 86 = .ok (.ishl, 1) := by decide +kernel
theorem dX12_rests_87 : decode cX12_rests 87 = .ok (.goto 4, 3) := by decide +kernel
theorem dX12_rests_90 : decode cX12_rests 90 = .ok (.iconst 0, 1) := by decide +kernel
theorem dX12_rests_91 : decode cX12_rests 91 = .ok (.ior, 1) := by decide +kernel
theorem dX12_rests_92 : decode cX12_rests 92 = .ok (.istore_n 3, 1) := by decide +kernel
theorem dX12_rests_93 : decode cX12_rests 93 = .ok (.iinc 5 1, 3) := by decide +kernel
theorem dX12_rests_96 : decode cX12_rests 96 = .ok (.goto (-71), 3) := by decide +kernel
theorem dX12_rests_99 : decode cX12_rests 99 = .ok (.iinc 4 1, 3) := by decide +kernel
theorem dX12_rests_102 : decode cX12_rests 102 = .ok (.goto (-86), 3) := by decide +kernel
theorem dX12_rests_105 : decode cX12_rests 105 = .ok (.iload_n 3, 1) := by decide +kernel
theorem dX12_rests_106 : decode cX12_rests 106 = .ok (.ireturn, 1) := by decide +kernel
theorem dX12_odds_0 : decode cX12_odds 0 = .ok (.aload_n 0, 1) := by decide +kernel
theorem dX12_odds_1 : decode cX12_odds 1 = .ok (.iconst 0, 1) := by decide +kernel
theorem dX12_odds_2 : decode cX12_odds 2 = .ok (.putfield 3, 3) := by decide +kernel
theorem dX12_odds_5 : decode cX12_odds 5 = .ok (.aload_n 0, 1) := by decide +kernel
theorem dX12_odds_6 : decode cX12_odds 6 = .ok (.iload_n 1, 1) := by decide +kernel
theorem dX12_odds_7 : decode cX12_odds 7 = .ok (.iconst 0, 1) := by decide +kernel
theorem dX12_odds_8 : decode cX12_odds 8 = .ok (.iconst 5, 1) := by decide +kernel
theorem dX12_odds_9 : decode cX12_odds 9 = .ok (.invokestatic 97, 3) := by decide +kernel
theorem dX12_odds_12 : decode cX12_odds 12 = .ok (.ifCond .eq 12, 3) := by decide +kernel
theorem dX12_odds_15 : decode cX12_odds 15 = .ok (.iload_n 2, 1) := by decide +kernel
theorem dX12_odds_16 : decode cX12_odds 16 = .ok (.iconst 0, 1) := by decide +kernel
theorem dX12_odds_17 : decode cX12_odds 17 = .ok (.iconst 5, 1) := by decide +kernel
theorem dX12_odds_18 : decode cX12_odds 18 = .ok (.invokestatic 97, 3) := by decide +kernel
theorem dX12_odds_21 : decode cX12_odds 21 = .ok (.ifCond .ne 7, 3) := by decide +kernel
theorem dX12_odds_24 : decode cX12_odds 24 = .ok (.iconst 1, 1) := by decide +kernel
theorem dX12_odds_25 : decode cX12_odds 25 = .ok (.goto 4, 3) := by decide +kernel
theorem dX12_odds_28 : decode cX12_odds 28 = .ok (.iconst 0, 1) := by decide +kernel
theorem dX12_odds_29 : decode cX12_odds 29 = .ok (.iconst 1, 1) := by decide +kernel
theorem dX12_odds_30 : decode cX12_odds 30 = .ok (.invokevirtual 277, 3) := by decide +kernel
theorem dX12_odds_33 : decode cX12_odds 33 = .ok (.ifCond .eq 5, 3) := by decide +kernel
theorem dX12_odds_36 : decode cX12_odds 36 = .ok (.iconst 0, 1) := by decide +kernel
theorem dX12_odds_37 : decode cX12_odds 37 = .ok (.ireturn, 1) := by decide +kernel
theorem dX12_odds_38 : decode cX12_odds 38 = .ok (.lconst 1, 1) := by decide +kernel
theorem dX12_odds_39 : decode cX12_odds 39 = .ok (.lstore_n 3, 1) := by decide +kernel
theorem dX12_odds_40 : decode cX12_odds 40 = .ok (.iconst 0, 1) := by decide +kernel
theorem dX12_odds_41 : decode cX12_odds 41 = .ok (.istore 5, 2) := by decide +kernel
theorem dX12_odds_43 : decode cX12_odds 43 = .ok (.iload 5, 2) := by decide +kernel
theorem dX12_odds_45 : decode cX12_odds 45 = .ok (.iconst 5, 1) := by decide +kernel
theorem dX12_odds_46 : decode cX12_odds 46 = .ok (.if_icmp .gt 26, 3) := by decide +kernel
theorem dX12_odds_49 : decode cX12_odds 49 = .ok (.aload_n 0, 1) := by decide +kernel
theorem dX12_odds_50 : decode cX12_odds 50 = .ok (.getfield 66, 3) := by decide +kernel
theorem dX12_odds_53 : decode cX12_odds 53 = .ok (.iload 5, 2) := by decide +kernel
theorem dX12_odds_55 : decode cX12_odds 55 = .ok (.iload 5, 2) := by decide +kernel
theorem dX12_odds_57 : decode cX12_odds 57 = .ok (.ifCond .ne 7, 3) := by decide +kernel
theorem dX12_odds_60 : decode cX12_odds 60 = .ok (.lconst 1, 1) := by decide +kernel
theorem dX12_odds_61 : decode cX12_odds 61 = .ok (.goto 4, 3) := by decide +kernel
theorem dX12_odds_64 : decode cX12_odds 64 = .ok (.lconst 0, 1) := by decide +kernel
theorem dX12_odds_65 : decode cX12_odds 65 = .ok (.lastore, 1) := by decide +kernel
theorem dX12_odds_66 : decode cX12_odds 66 = .ok (.iinc 5 1, 3) := by decide +kernel
theorem dX12_odds_69 : decode cX12_odds 69 = .ok (.goto (-26), 3) := by decide +kernel
theorem dX12_odds_72 : decode cX12_odds 72 = .ok (.iconst 0, 1) := by decide +kernel
theorem dX12_odds_73 : decode cX12_odds 73 = .ok (.istore 5, 2) := by decide +kernel
theorem dX12_odds_75 : decode cX12_odds 75 = .ok (.iload 5, 2) := by decide +kernel
theorem dX12_odds_77 : decode cX12_odds 77 = .ok (.iload_n 1, 1) := by decide +kernel
theorem dX12_odds_78 : decode cX12_odds 78 = .ok (.if_icmp .ge 83, 3) := by decide +kernel
theorem dX12_odds_81 : decode cX12_odds 81 = .ok (.iconst 5, 1) := by decide +kernel
theorem dX12_odds_82 : decode cX12_odds 82 = .ok (.istore 6, 2) := by decide +kernel
theorem dX12_odds_84 : decode cX12_odds 84 = .ok (.iload 6, 2) := by decide +kernel
theorem dX12_odds_86 : decode cX12_odds 86 = .ok (.ifCond .lt 63, 3) := by decide +kernel
theorem dX12_odds_89 : decode cX12_odds 89 = .ok (.aload_n 0, 1) := by decide +kernel
theorem dX12_odds_90 : decode cX12_odds 90 = .ok (.getfield 66, 3) := by decide +kernel
theorem dX12_odds_93 : decode cX12_odds 93 = .ok (.iload 6, 2) := by decide +kernel
theorem dX12_odds_95 : decode cX12_odds 95 = .ok (.aload_n 0, 1) := by decide +kernel
theorem dX12_odds_96 : decode cX12_odds 96 = .ok (.getfield 66, 3) := by decide +kernel
theorem dX12_odds_99 : decode cX12_odds 99 = .ok (.iload 6, 2) := by decide +kernel
theorem dX12_odds_101 : decode cX12_odds 101 = .ok (.laload, 1) := by decide +kernel
theorem dX12_odds_102 : decode cX12_odds 102 = .ok (.bipush 100, 2) := by decide +kernel
theorem dX12_odds_104 : decode cX12_odds 104 = .ok (.aload_n 0, 1) := by decide +kernel
theorem dX12_odds_105 : decode cX12_odds 105 = .ok (.getfield 13, 3) := by decide +kernel
theorem dX12_odds_108 : decode cX12_odds 108 = .ok (.bipush 8, 2) := by decide +kernel
theorem dX12_odds_110 : decode cX12_odds 110 = .ok (.iaload, 1) := by decide +kernel
theorem dX12_odds_111 : decode cX12_odds 111 = .ok (.isub, 1) := by decide +kernel
theorem dX12_odds_112 : decode cX12_odds 112 = .ok (.i2l, 1) := by decide +kernel
theorem dX12_odds_113 : decode cX12_odds 113 = .ok (.lmul, 1) := by decide +kernel
theorem dX12_odds_114 : decode cX12_odds 114 = .ok (.iload 6, 2) := by decide +kernel
theorem dX12_odds_116 : decode cX12_odds 116 = .ok (.ifCond .ne 7, 3) := by decide +kernel
theorem dX12_odds_119 : decode cX12_odds 119 = .ok (.lconst 0, 1) := by decide +kernel
theorem dX12_odds_120 : decode cX12_odds 120 = .ok (.goto 21, 3) := by decide +kernel
theorem dX12_odds_123 : decode cX12_odds 123 = .ok (.aload_n 0, 1) := by decide +kernel
theorem dX12_odds_124 : decode cX12_odds 124 = .ok (.getfield 66, 3) := by decide +kernel
theorem dX12_odds_127 : decode cX12_odds 127 = .ok (.iload 6, 2) := by decide +kernel
theorem dX12_odds_129 : decode cX12_odds 129 = .ok (.iconst 1, 1) := by decide +kernel
theorem dX12_odds_130 : decode cX12_odds 130 = .ok (.isub, 1) := by decide +kernel
theorem dX12_odds_131 : decode cX12_odds 131 = .ok (.laload, 1) := by decide +kernel
theorem dX12_odds_132 : decode cX12_odds 132 = .ok (.aload_n 0, 1) := by decide +kernel
theorem dX12_odds_133 : decode cX12_odds 133 = .ok (.getfield 13, 3) := by decide +kernel
theorem dX12_odds_136 : decode cX12_odds 136 = .ok (.bipush 8, 2) := by decide +kernel
theorem dX12_odds_138 : decode cX12_odds 138 = .ok (.iaload, 1) := by decide +kernel
theorem dX12_odds_139 : decode cX12_odds 139 = .ok (.i2l, 1) := by decide +kernel
theorem dX12_odds_140 : decode cX12_odds 140 = .ok (.lmul, 1) := by decide +kernel
theorem dX12_odds_141 : decode cX12_odds 141 = .ok (.ladd, 1) := by decide +kernel
theorem dX12_odds_142 : decode cX12_odds 142 = .ok (.lastore, 1) := by decide +kernel
theorem dX12_odds_143 : decode cX12_odds 143 = .ok (.iinc 6 (-1), 3) := by decide +kernel
theorem dX12_odds_146 : decode cX12_odds 146 = .ok (.goto (-62), 3) := by decide +kernel
theorem dX12_odds_149 : decode cX12_odds 149 = .ok (.lload_n 3, 1) := by decide +kernel
theorem dX12_odds_150 : decode cX12_odds 150 = .ok (.ldc2_w 481, 3) := by decide +kernel
theorem dX12_odds_153 : decode cX12_odds 153 = .ok (.lmul, 1) := by decide +kernel
theorem dX12_odds_154 : decode cX12_odds 154 = .ok (.lstore_n 3, 1) := by decide +kernel
theorem dX12_odds_155 : decode cX12_odds 155 = .ok (.iinc 5 1, 3) := by decide +kernel
theorem dX12_odds_158 : decode cX12_odds 158 = .ok (.goto (-83), 3) := by decide +kernel
theorem dX12_odds_161 : decode cX12_odds 161 = .ok (.lconst 0, 1) := by decide +kernel
theorem dX12_odds_162 : decode cX12_odds 162 = .ok (.lstore 5, 2) := by decide +kernel
theorem dX12_odds_164 : decode cX12_odds 164 = .ok (.iload_n 2, 1) := by decide +kernel
theorem dX12_odds_165 : decode cX12_odds 165 = .ok (.istore 7, 2) := by decide +kernel
theorem dX12_odds_167 : decode cX12_odds 167 = .ok (.iload 7, 2) := by decide +kernel
theorem dX12_odds_169 : decode cX12_odds 169 = .ok (.iconst 5, 1) := by decide +kernel
theorem dX12_odds_170 : decode cX12_odds 170 = .ok (.if_icmp .gt 21, 3) := by decide +kernel
theorem dX12_odds_173 : decode cX12_odds 173 = .ok (.lload 5, 2) := by decide +kernel
theorem dX12_odds_175 : decode cX12_odds 175 = .ok (.aload_n 0, 1) := by decide +kernel
theorem dX12_odds_176 : decode cX12_odds 176 = .ok (.getfield 66, 3) := by decide +kernel
theorem dX12_odds_179 : decode cX12_odds 179 = .ok (.iload 7, 2) := by decide +kernel
theorem dX12_odds_181 : decode cX12_odds 181 = .ok (.laload, 1) := by decide +kernel
theorem dX12_odds_182 : decode cX12_odds 182 = .ok (.ladd, 1) := by decide +kernel
theorem dX12_odds_183 : decode cX12_odds 183 = .ok (.lstore 5, 2) := by decide +kernel
theorem dX12_odds_185 : decode cX12_odds 185 = .ok (.iinc 7 1, 3) := by decide +kernel
theorem dX12_odds_188 : decode cX12_odds 188 = .ok (.goto (-21), 3) := by decide +kernel
theorem dX12_odds_191 : decode cX12_odds 191 = .ok (.ldc2_w 483, 3) := by decide +kernel
theorem dX12_odds_194 : decode cX12_odds 194 = .ok (.lload 5, 2) := by decide +kernel
theorem dX12_odds_196 : decode cX12_odds 196 = .ok (.lmul, 1) := by decide +kernel
theorem dX12_odds_197 : decode cX12_odds 197 = .ok (.lload_n 3, 1) := by decide +kernel
theorem dX12_odds_198 : decode cX12_odds 198 = .ok (.ldiv, 1) := by decide +kernel
theorem dX12_odds_199 : decode cX12_odds 199 = .ok (.l2i, 1) := by decide +kernel
theorem dX12_odds_200 : decode cX12_odds 200 = .ok (.ireturn, 1) := by decide +kernel
theorem dX12_black_0 : decode cX12_black 0 = .ok (.aload_n 0, 1) := by decide +kernel
theorem dX12_black_1 : decode cX12_black 1 = .ok (.iconst 0, 1) := by decide +kernel
theorem dX12_black_2 : decode cX12_black 2 = .ok (.putfield 3, 3) := by decide +kernel
theorem dX12_black_5 : decode cX12_black 5 = .ok (.iconst 0, 1) := by decide +kernel
theorem dX12_black_6 : decode cX12_black 6 = .ok (.istore_n 1, 1) := by decide +kernel
theorem dX12_black_7 : decode cX12_black 7 = .ok (.iconst 0, 1) := by decide +kernel
theorem dX12_black_8 : decode cX12_black 8 = .ok (.istore_n 2, 1) := by decide +kernel
theorem dX12_black_9 : decode cX12_black 9 = .ok (.iload_n 2, 1) := by decide +kernel
theorem dX12_black_10 : decode cX12_black 10 = .ok (.aload_n 0, 1) := by decide +kernel
theorem dX12_black_11 : decode cX12_black 11 = .ok (.invokevirtual 94, 3) := by decide +kernel
theorem dX12_black_14 : decode cX12_black 14 = .ok (.if_icmp .ge 20, 3) := by decide +kernel
theorem dX12_black_17 : decode cX12_black 17 = .ok (.iload_n 1, 1) := by decide +kernel
theorem dX12_black_18 : decode cX12_black 18 = .ok (.aload_n 0, 1) := by decide +kernel
theorem dX12_black_19 : decode cX12_black 19 = .ok (.iload_n 2, 1) := by decide +kernel
theorem dX12_black_20 : decode cX12_black 20 = .ok (.iconst 3, 1) := by decide +kernel
theorem dX12_black_21 : decode cX12_black 21 = .ok (.invokevirtual 88, 3) := by decide +kernel
theorem dX12_black_24 : decode cX12_black 24 = .ok (.iload_n 2, 1) := by decide +kernel
theorem dX12_black_25 : decode cX12_black 25 = .ok (.ishl, 1) := by decide +kernel
theorem dX12_black_26 : decode cX12_black 26 = .ok (.ior, 1) := by decide +kernel
theorem dX12_black_27 : decode cX12_black 27 = .ok (.istore_n 1, 1) := by decide +kernel
theorem dX12_black_28 : decode cX12_black 28 = .ok (.iinc 2 1, 3) := by decide +kernel
theorem dX12_black_31 : decode cX12_black 31 = .ok (.goto (-22), 3) := by decide +kernel
theorem dX12_black_34 : decode cX12_black 34 = .ok (.iload_n 1, 1) := by decide +kernel
theorem dX12_black_35 : decode cX12_black 35 = .ok (.ireturn, 1) := by decide +kernel
theorem dX12_stretch_0 : decode cX12_stretch 0 = .ok (.aload_n 0, 1) := by decide +kernel
theorem dX12_stretch_1 : decode cX12_stretch 1 = .ok (.iconst 0, 1) := by decide +kernel
theorem dX12_stretch_2 : decode cX12_stretch 2 = .ok (.putfield 3, 3) := by decide +kernel
theorem dX12_stretch_5 : decode cX12_stretch 5 = .ok (.ldc_w 357, 3) := by decide +kernel
theorem dX12_stretch_8 : decode cX12_stretch 8 = .ok (.istore_n 1, 1) := by decide +kernel
theorem dX12_stretch_9 : decode cX12_stretch 9 = .ok (.iconst 0, 1) := by decide +kernel
theorem dX12_stretch_10 : decode cX12_stretch 10 = .ok (.istore_n 2, 1) := by decide +kernel
theorem dX12_stretch_11 : decode cX12_stretch 11 = .ok (.iload_n 2, 1) := by decide +kernel
theorem dX12_stretch_12 : decode cX12_stretch 12 = .ok (.aload_n 0, 1) := by decide +kernel
theorem dX12_stretch_13 : decode cX12_stretch 13 = .ok (.invokevirtual 94, 3) := by decide +kernel
theorem dX12_stretch_16 : decode cX12_stretch 16 = .ok (.if_icmp .ge 76, 3) := by decide +kernel
theorem dX12_stretch_19 : decode cX12_stretch 19 = .ok (.iconst 0, 1) := by decide +kernel
theorem dX12_stretch_20 : decode cX12_stretch 20 = .ok (.istore_n 3, 1) := by decide +kernel
theorem dX12_stretch_21 : decode cX12_stretch 21 = .ok (.iconst 0, 1) := by decide +kernel
theorem dX12_stretch_22 : decode cX12_stretch 22 = .ok (.istore 4, 2) := by decide +kernel
theorem dX12_stretch_24 : decode cX12_stretch 24 = .ok (.iload 4, 2) := by decide +kernel
theorem dX12_stretch_26 : decode cX12_stretch 26 = .ok (.aload_n 0, 1) := by decide +kernel
theorem dX12_stretch_27 : decode cX12_stretch 27 = .ok (.invokevirtual 94, 3) := by decide +kernel
theorem dX12_stretch_30 : decode cX12_stretch 30 = .ok (.if_icmp .ge 36, 3) := by decide +kernel
theorem dX12_stretch_33 : decode cX12_stretch 33 = .ok (.aload_n 0, 1) := by decide +kernel
theorem dX12_stretch_34 : decode cX12_stretch 34 = .ok (.iload 4, 2) := by decide +kernel
theorem dX12_stretch_36 : decode cX12_stretch 36 = .ok (.iconst 3, 1) := by decide +kernel
theorem dX12_stretch_37 : decode cX12_stretch 37 = .ok (.invokevirtual 88, 3) := by decide +kernel
theorem dX12_stretch_40 : decode cX12_stretch 40 = .ok (.iconst 1, 1) := by decide +kernel
theorem dX12_stretch_41 : decode cX12_stretch 41 = .ok (.if_icmp .ne 17, 3) := by decide +kernel
theorem dX12_stretch_44 : decode cX12_stretch 44 = .ok (.iload_n 3, 1) := by decide +kernel
theorem dX12_stretch_45 : decode cX12_stretch 45 = .ok (.aload_n 0, 1) := by decide +kernel
theorem dX12_stretch_46 : decode cX12_stretch 46 = .ok (.iload_n 2, 1) := by decide +kernel
theorem dX12_stretch_47 : decode cX12_stretch 47 = .ok (.iload 4, 2) := by decide +kernel
theorem dX12_stretch_49 : decode cX12_stretch 49 = .ok (.invokevirtual 280, 3) := by decide +kernel
theorem dX12_stretch_52 : decode cX12_stretch 52 = .ok (.invokestatic 299, 3) := by decide +kernel
theorem dX12_stretch_55 : decode cX12_stretch 55 = .ok (.goto 4, 3) := by decide +kernel
theorem dX12_stretch_58 : decode cX12_stretch 58 = .ok (.iload_n 3, 1) := by decide +kernel
theorem dX12_stretch_59 : decode cX12_stretch 59 = .ok (.istore_n 3, 1) := by decide +kernel
theorem dX12_stretch_60 : decode cX12_stretch 60 = .ok (.iinc 4 1, 3) := by decide +kernel
theorem dX12_stretch_63 : decode cX12_stretch 63 = .ok (.goto (-39), 3) := by decide +kernel
theorem dX12_stretch_66 : decode cX12_stretch 66 = .ok (.aload_n 0, 1) := by decide +kernel
theorem dX12_stretch_67 : decode cX12_stretch 67 = .ok (.iload_n 2, 1) := by decide +kernel
theorem dX12_stretch_68 : decode cX12_stretch 68 = .ok (.iconst 3, 1) := by decide +kernel
theorem dX12_stretch_69 : decode cX12_stretch 69 = .ok (.invokevirtual 88, 3) := by decide +kernel
theorem dX12_stretch_72 : decode cX12_stretch 72 = .ok (.iconst 1, 1) := by decide +kernel
theorem dX12_stretch_73 : decode cX12_stretch 73 = .ok (.if_icmp .ne 11, 3) := by decide +kernel
theorem dX12_stretch_76 : decode cX12_stretch 76 = .ok (.iload_n 1, 1) := by decide +kernel
theorem dX12_stretch_77 : decode cX12_stretch 77 = .ok (.iload_n 3, 1) := by decide +kernel
theorem dX12_stretch_78 : decode cX12_stretch 78 = .ok (.invokestatic 146, 3) := by decide +kernel
theorem dX12_stretch_81 : decode cX12_stretch 81 = .ok (.goto 4, 3) := by decide +kernel
theorem dX12_stretch_84 : decode cX12_stretch 84 = .ok (.iload_n 1, 1) := by decide +kernel
theorem dX12_stretch_85 : decode cX12_stretch 85 = .ok (.istore_n 1, 1) := by decide +kernel
theorem dX12_stretch_86 : decode cX12_stretch 86 = .ok (.iinc 2 1, 3) := by decide +kernel
theorem dX12_stretch_89 : decode cX12_stretch 89 = .ok (.goto (-78), 3) := by decide +kernel
theorem dX12_stretch_92 : decode cX12_stretch 92 = .ok (.iload_n 1, 1) := by decide +kernel
theorem dX12_stretch_93 : decode cX12_stretch 93 = .ok (.ldc_w 357, 3) := by decide +kernel
theorem dX12_stretch_96 : decode cX12_stretch 96 = .ok (.if_icmp .ne 7, 3) := by decide +kernel
theorem dX12_stretch_99 : decode cX12_stretch 99 = .ok (.iconst 0, 1) := by decide +kernel
theorem dX12_stretch_100 : decode cX12_stretch 100 = .ok (.goto 4, 3) := by decide +kernel
theorem dX12_stretch_103 : decode cX12_stretch 103 = .ok (.iload_n 1, 1) := by decide +kernel
theorem dX12_stretch_104 : decode cX12_stretch 104 = .ok (.ireturn, 1) := by decide +kernel
theorem dX12_fastest_0 : decode cX12_fastest 0 = .ok (.aload_n 0, 1) := by decide +kernel
theorem dX12_fastest_1 : decode cX12_fastest 1 = .ok (.iconst 0, 1) := by decide +kernel
theorem dX12_fastest_2 : decode cX12_fastest 2 = .ok (.putfield 3, 3) := by decide +kernel
theorem dX12_fastest_5 : decode cX12_fastest 5 = .ok (.iconst (-1), 1) := by decide +kernel
theorem dX12_fastest_6 : decode cX12_fastest 6 = .ok (.istore_n 2, 1) := by decide +kernel
theorem dX12_fastest_7 : decode cX12_fastest 7 = .ok (.iconst 0, 1) := by decide +kernel
theorem dX12_fastest_8 : decode cX12_fastest 8 = .ok (.istore_n 3, 1) := by decide +kernel
theorem dX12_fastest_9 : decode cX12_fastest 9 = .ok (.iload_n 3, 1) := by decide +kernel
theorem dX12_fastest_10 : decode cX12_fastest 10 = .ok (.aload_n 0, 1) := by decide +kernel
theorem dX12_fastest_11 : decode cX12_fastest 11 = .ok (.invokevirtual 94, 3) := by decide +kernel
theorem dX12_fastest_14 : decode cX12_fastest 14 = .ok (.if_icmp .ge 49, 3) := by decide +kernel
theorem dX12_fastest_17 : decode cX12_fastest 17 = .ok (.iload_n 2, 1) := by decide +kernel
theorem dX12_fastest_18 : decode cX12_fastest 18 = .ok (.iconst (-1), 1) := by decide +kernel
theorem dX12_fastest_19 : decode cX12_fastest 19 = .ok (.if_icmp .eq 36, 3) := by decide +kernel
theorem dX12_fastest_22 : decode cX12_fastest 22 = .ok (.iload_n 1, 1) := by decide +kernel
theorem dX12_fastest_23 : decode cX12_fastest 23 = .ok (.ifCond .eq 19, 3) := by decide +kernel
theorem dX12_fastest_26 : decode cX12_fastest 26 = .ok (.aload_n 0, 1) := by decide +kernel
theorem dX12_fastest_27 : decode cX12_fastest 27 = .ok (.iload_n 3, 1) := by decide +kernel
theorem dX12_fastest_28 : decode cX12_fastest 28 = .ok (.invokevirtual 302, 3) := by decide +kernel
theorem dX12_fastest_31 : decode cX12_fastest 31 = .ok (.aload_n 0, 1) := by decide +kernel
theorem dX12_fastest_32 : decode cX12_fastest 32 = .ok (.iload_n 2, 1) := by decide +kernel
theorem dX12_fastest_33 : decode cX12_fastest 33 = .ok (.invokevirtual 302, 3) := by decide +kernel
theorem dX12_fastest_36 : decode cX12_fastest 36 = .ok (.if_icmp .le 21, 3) := by decide +kernel
theorem dX12_fastest_39 : decode cX12_fastest 39 = .ok (.goto 16, 3) := by decide +kernel
theorem dX12_fastest_42 : decode cX12_fastest 42 = .ok (.aload_n 0, 1) := by decide +kernel
theorem dX12_fastest_43 : decode cX12_fastest 43 = .ok (.iload_n 3, 1) := by decide +kernel
theorem dX12_fastest_44 : decode cX12_fastest 44 = .ok (.invokevirtual 302, 3) := by decide +kernel
theorem dX12_fastest_47 : decode cX12_fastest 47 = .ok (.aload_n 0, 1) := by decide +kernel
theorem dX12_fastest_48 : decode cX12_fastest 48 = .ok (.iload_n 2, 1) := by decide +kernel
theorem dX12_fastest_49 : decode cX12_fastest 49 = .ok (.invokevirtual 302, 3) := by decide +kernel
theorem dX12_fastest_52 : decode cX12_fastest 52 = .ok (.if_icmp .ge 5, 3) := by decide +kernel
theorem dX12_fastest_55 : decode cX12_fastest 55 = .ok (.iload_n 3, 1) := by decide +kernel
theorem dX12_fastest_56 : decode cX12_fastest 56 = .ok (.istore_n 2, 1) := by decide +kernel
theorem dX12_fastest_57 : decode cX12_fastest 57 = .ok (.iinc 3 1, 3) := by decide +kernel
theorem dX12_fastest_60 : decode cX12_fastest 60 = .ok (.goto (-51), 3) := by decide +kernel
theorem dX12_fastest_63 : decode cX12_fastest 63 = .ok (.iload_n 2, 1) := by decide +kernel
theorem dX12_fastest_64 : decode cX12_fastest 64 = .ok (.ireturn, 1) := by decide +kernel
theorem dX12_popular_0 : decode cX12_popular 0 = .ok (.aload_n 0, 1) := by decide +kernel
theorem dX12_popular_1 : decode cX12_popular 1 = .ok (.iconst 0, 1) := by decide +kernel
theorem dX12_popular_2 : decode cX12_popular 2 = .ok (.putfield 3, 3) := by decide +kernel
theorem dX12_popular_5 : decode cX12_popular 5 = .ok (.iconst (-1), 1) := by decide +kernel
theorem dX12_popular_6 : decode cX12_popular 6 = .ok (.istore_n 1, 1) := by decide +kernel
theorem dX12_popular_7 : decode cX12_popular 7 = .ok (.iconst (-1), 1) := by decide +kernel
theorem dX12_popular_8 : decode cX12_popular 8 = .ok (.istore_n 2, 1) := by decide +kernel
theorem dX12_popular_9 : decode cX12_popular 9 = .ok (.iconst 0, 1) := by decide +kernel
theorem dX12_popular_10 : decode cX12_popular 10 = .ok (.istore_n 3, 1) := by decide +kernel
theorem dX12_popular_11 : decode cX12_popular 11 = .ok (.iload_n 3, 1) := by decide +kernel
theorem dX12_popular_12 : decode cX12_popular 12 = .ok (.aload_n 0, 1) := by decide +kernel
theorem dX12_popular_13 : decode cX12_popular 13 = .ok (.invokevirtual 94, 3) := by decide +kernel
theorem dX12_popular_16 : decode cX12_popular 16 = .ok (.if_icmp .ge 40, 3) := by decide +kernel
theorem dX12_popular_19 : decode cX12_popular 19 = .ok (.aload_n 0, 1) := by decide +kernel
theorem dX12_popular_20 : decode cX12_popular 20 = .ok (.iload_n 3, 1) := by decide +kernel
theorem dX12_popular_21 : decode cX12_popular 21 = .ok (.bipush 6, 2) := by decide +kernel
theorem dX12_popular_23 : decode cX12_popular 23 = .ok (.invokevirtual 88, 3) := by decide +kernel
theorem dX12_popular_26 : decode cX12_popular 26 = .ok (.invokestatic 287, 3) := by decide +kernel
theorem dX12_popular_29 : decode cX12_popular 29 = .ok (.istore 4, 2) := by decide +kernel
theorem dX12_popular_31 : decode cX12_popular 31 = .ok (.iload 4, 2) := by decide +kernel
theorem dX12_popular_33 : decode cX12_popular 33 = .ok (.iload_n 2, 1) := by decide +kernel
theorem dX12_popular_34 : decode cX12_popular 34 = .ok (.if_icmp .le 7, 3) := by decide +kernel
theorem dX12_popular_37 : decode cX12_popular 37 = .ok (.iload_n 3, 1) := by decide +kernel
theorem dX12_popular_38 : decode cX12_popular 38 = .ok (.goto 4, 3) := by decide +kernel
theorem dX12_popular_41 : decode cX12_popular 41 = .ok (.iload_n 1, 1) := by decide +kernel
theorem dX12_popular_42 : decode cX12_popular 42 = .ok (.istore_n 1, 1) := by decide +kernel
theorem dX12_popular_43 : decode cX12_popular 43 = .ok (.iload_n 2, 1) := by decide +kernel
theorem dX12_popular_44 : decode cX12_popular 44 = .ok (.iload 4, 2) := by decide +kernel
theorem dX12_popular_46 : decode cX12_popular 46 = .ok (.invokestatic 299, 3) := by decide +kernel
theorem dX12_popular_49 : decode cX12_popular 49 = .ok (.istore_n 2, 1) := by decide +kernel
theorem dX12_popular_50 : decode cX12_popular 50 = .ok (.iinc 3 1, 3) := by decide +kernel
theorem dX12_popular_53 : decode cX12_popular 53 = .ok (.goto (-42), 3) := by decide +kernel
theorem dX12_popular_56 : decode cX12_popular 56 = .ok (.iload_n 1, 1) := by decide +kernel
theorem dX12_popular_57 : decode cX12_popular 57 = .ok (.ireturn, 1) := by decide +kernel
theorem dX12_twins_0 : decode cX12_twins 0 = .ok (.aload_n 0, 1) := by decide +kernel
theorem dX12_twins_1 : decode cX12_twins 1 = .ok (.iconst 0, 1) := by decide +kernel
theorem dX12_twins_2 : decode cX12_twins 2 = .ok (.putfield 3, 3) := by decide +kernel
theorem dX12_twins_5 : decode cX12_twins 5 = .ok (.iconst 0, 1) := by decide +kernel
theorem dX12_twins_6 : decode cX12_twins 6 = .ok (.istore_n 1, 1) := by decide +kernel
theorem dX12_twins_7 : decode cX12_twins 7 = .ok (.iconst 0, 1) := by decide +kernel
theorem dX12_twins_8 : decode cX12_twins 8 = .ok (.istore_n 2, 1) := by decide +kernel
theorem dX12_twins_9 : decode cX12_twins 9 = .ok (.iload_n 2, 1) := by decide +kernel
theorem dX12_twins_10 : decode cX12_twins 10 = .ok (.aload_n 0, 1) := by decide +kernel
theorem dX12_twins_11 : decode cX12_twins 11 = .ok (.invokevirtual 94, 3) := by decide +kernel
theorem dX12_twins_14 : decode cX12_twins 14 = .ok (.if_icmp .ge 60, 3) := by decide +kernel
theorem dX12_twins_17 : decode cX12_twins 17 = .ok (.iconst 0, 1) := by decide +kernel
theorem dX12_twins_18 : decode cX12_twins 18 = .ok (.istore_n 3, 1) := by decide +kernel
theorem dX12_twins_19 : decode cX12_twins 19 = .ok (.iload_n 3, 1) := by decide +kernel
theorem dX12_twins_20 : decode cX12_twins 20 = .ok (.iload_n 2, 1) := by decide +kernel
theorem dX12_twins_21 : decode cX12_twins 21 = .ok (.if_icmp .ge 47, 3) := by decide +kernel
theorem dX12_twins_24 : decode cX12_twins 24 = .ok (.iload_n 1, 1) := by decide +kernel
theorem dX12_twins_25 : decode cX12_twins 25 = .ok (.aload_n 0, 1) := by decide +kernel
theorem dX12_twins_26 : decode cX12_twins 26 = .ok (.iload_n 2, 1) := by decide +kernel
theorem dX12_twins_27 : decode cX12_twins 27 = .ok (.iconst 1, 1) := by decide +kernel
theorem dX12_twins_28 : decode cX12_twins 28 = .ok (.invokevirtual 88, 3) := by decide +kernel
theorem dX12_twins_31 : decode cX12_twins 31 = .ok (.aload_n 0, 1) := by decide +kernel
theorem dX12_twins_32 : decode cX12_twins 32 = .ok (.iload_n 3, 1) := by decide +kernel
theorem dX12_twins_33 : decode cX12_twins 33 = .ok (.iconst 1, 1) := by decide +kernel
theorem dX12_twins_34 : decode cX12_twins 34 = .ok (.invokevirtual 88, 3) := by decide +kernel
theorem dX12_twins_37 : decode cX12_twins 37 = .ok (.if_icmp .ne 22, 3) := by decide +kernel
theorem dX12_twins_40 : decode cX12_twins 40 = .ok (.aload_n 0, 1) := by decide +kernel
theorem dX12_twins_41 : decode cX12_twins 41 = .ok (.iload_n 2, 1) := by decide +kernel
theorem dX12_twins_42 : decode cX12_twins 42 = .ok (.iconst 0, 1) := by decide +kernel
theorem dX12_twins_43 : decode cX12_twins 43 = .ok (.invokevirtual 88, 3) := by decide +kernel
theorem dX12_twins_46 : decode cX12_twins 46 = .ok (.aload_n 0, 1) := by decide +kernel
theorem dX12_twins_47 : decode cX12_twins 47 = .ok (.iload_n 3, 1) := by decide +kernel
theorem dX12_twins_48 : decode cX12_twins 48 = .ok (.iconst 0, 1) := by decide +kernel
theorem dX12_twins_49 : decode cX12_twins 49 = .ok (.invokevirtual 88, 3) := by decide +kernel
theorem dX12_twins_52 : decode cX12_twins 52 = .ok (.if_icmp .ne 7, 3) := by decide +kernel
theorem dX12_twins_55 : decode cX12_twins 55 = .ok (.iconst 1, 1) := by decide +kernel
theorem dX12_twins_56 : decode cX12_twins 56 = .ok (.goto 4, 3) := by decide +kernel
theorem dX12_twins_59 : decode cX12_twins 59 = .ok (.iconst 0, 1) := by decide +kernel
theorem dX12_twins_60 : decode cX12_twins 60 = .ok (.iadd, 1) := by decide +kernel
theorem dX12_twins_61 : decode cX12_twins 61 = .ok (.istore_n 1, 1) := by decide +kernel
theorem dX12_twins_62 : decode cX12_twins 62 = .ok (.iinc 3 1, 3) := by decide +kernel
theorem dX12_twins_65 : decode cX12_twins 65 = .ok (.goto (-46), 3) := by decide +kernel
theorem dX12_twins_68 : decode cX12_twins 68 = .ok (.iinc 2 1, 3) := by decide +kernel
theorem dX12_twins_71 : decode cX12_twins 71 = .ok (.goto (-62), 3) := by decide +kernel
theorem dX12_twins_74 : decode cX12_twins 74 = .ok (.iload_n 1, 1) := by decide +kernel
theorem dX12_twins_75 : decode cX12_twins 75 = .ok (.ireturn, 1) := by decide +kernel
theorem dX12_bunch_0 : decode cX12_bunch 0 = .ok (.aload_n 0, 1) := by decide +kernel
theorem dX12_bunch_1 : decode cX12_bunch 1 = .ok (.iconst 0, 1) := by decide +kernel
theorem dX12_bunch_2 : decode cX12_bunch 2 = .ok (.putfield 3, 3) := by decide +kernel
theorem dX12_bunch_5 : decode cX12_bunch 5 = .ok (.aload_n 0, 1) := by decide +kernel
theorem dX12_bunch_6 : decode cX12_bunch 6 = .ok (.iload_n 1, 1) := by decide +kernel
theorem dX12_bunch_7 : decode cX12_bunch 7 = .ok (.invokestatic 436, 3) := by decide +kernel
theorem dX12_bunch_10 : decode cX12_bunch 10 = .ok (.iconst 1, 1) := by decide +kernel
theorem dX12_bunch_11 : decode cX12_bunch 11 = .ok (.invokevirtual 277, 3) := by decide +kernel
theorem dX12_bunch_14 : decode cX12_bunch 14 = .ok (.ifCond .eq 5, 3) := by decide +kernel
theorem dX12_bunch_17 : decode cX12_bunch 17 = .ok (.iconst 0, 1) := by decide +kernel
theorem dX12_bunch_18 : decode cX12_bunch 18 = .ok (.ireturn, 1) := by decide +kernel
theorem dX12_bunch_19 : decode cX12_bunch 19 = .ok (.iconst 0, 1) := by decide +kernel
theorem dX12_bunch_20 : decode cX12_bunch 20 = .ok (.istore_n 2, 1) := by decide +kernel
theorem dX12_bunch_21 : decode cX12_bunch 21 = .ok (.iconst 0, 1) := by decide +kernel
theorem dX12_bunch_22 : decode cX12_bunch 22 = .ok (.istore_n 3, 1) := by decide +kernel
theorem dX12_bunch_23 : decode cX12_bunch 23 = .ok (.iload_n 3, 1) := by decide +kernel
theorem dX12_bunch_24 : decode cX12_bunch 24 = .ok (.aload_n 0, 1) := by decide +kernel
theorem dX12_bunch_25 : decode cX12_bunch 25 = .ok (.invokevirtual 94, 3) := by decide +kernel
theorem dX12_bunch_28 : decode cX12_bunch 28 = .ok (.if_icmp .ge 58, 3) := by decide +kernel
theorem dX12_bunch_31 : decode cX12_bunch 31 = .ok (.iconst 0, 1) := by decide +kernel
theorem dX12_bunch_32 : decode cX12_bunch 32 = .ok (.istore 4, 2) := by decide +kernel
theorem dX12_bunch_34 : decode cX12_bunch 34 = .ok (.iconst 0, 1) := by decide +kernel
theorem dX12_bunch_35 : decode cX12_bunch 35 = .ok (.istore 5, 2) := by decide +kernel
theorem dX12_bunch_37 : decode cX12_bunch 37 = .ok (.iload 5, 2) := by decide +kernel
theorem dX12_bunch_39 : decode cX12_bunch 39 = .ok (.aload_n 0, 1) := by decide +kernel
theorem dX12_bunch_40 : decode cX12_bunch 40 = .ok (.invokevirtual 94, 3) := by decide +kernel
theorem dX12_bunch_43 : decode cX12_bunch 43 = .ok (.if_icmp .ge 30, 3) := by decide +kernel
theorem dX12_bunch_46 : decode cX12_bunch 46 = .ok (.iload 4, 2) := by decide +kernel
theorem dX12_bunch_48 : decode cX12_bunch 48 = .ok (.aload_n 0, 1) := by decide +kernel
theorem dX12_bunch_49 : decode cX12_bunch 49 = .ok (.iload_n 3, 1) := by decide +kernel
theorem dX12_bunch_50 : decode cX12_bunch 50 = .ok (.iload 5, 2) := by decide +kernel
theorem dX12_bunch_52 : decode cX12_bunch 52 = .ok (.invokevirtual 280, 3) := by decide +kernel
theorem dX12_bunch_55 : decode cX12_bunch 55 = .ok (.iload_n 1, 1) := by decide +kernel
theorem dX12_bunch_56 : decode cX12_bunch 56 = .ok (.if_icmp .gt 7, 3) := by decide +kernel
theorem dX12_bunch_59 : decode cX12_bunch 59 = .ok (.iconst 1, 1) := by decide +kernel
theorem dX12_bunch_60 : decode cX12_bunch 60 = .ok (.goto 4, 3) := by decide +kernel
theorem dX12_bunch_63 : decode cX12_bunch 63 = .ok (.iconst 0, 1) := by decide +kernel
theorem dX12_bunch_64 : decode cX12_bunch 64 = .ok (.iadd, 1) := by decide +kernel
theorem dX12_bunch_65 : decode cX12_bunch 65 = .ok (.istore 4, 2) := by decide +kernel
theorem dX12_bunch_67 : decode cX12_bunch 67 = .ok (.iinc 5 1, 3) := by decide +kernel
theorem dX12_bunch_70 : decode cX12_bunch 70 = .ok (.goto (-33), 3) := by decide +kernel
theorem dX12_bunch_73 : decode cX12_bunch 73 = .ok (.iload_n 2, 1) := by decide +kernel
theorem dX12_bunch_74 : decode cX12_bunch 74 = .ok (.iload 4, 2) := by decide +kernel
theorem dX12_bunch_76 : decode cX12_bunch 76 = .ok (.invokestatic 299, 3) := by decide +kernel
theorem dX12_bunch_79 : decode cX12_bunch 79 = .ok (.istore_n 2, 1) := by decide +kernel
theorem dX12_bunch_80 : decode cX12_bunch 80 = .ok (.iinc 3 1, 3) := by decide +kernel
theorem dX12_bunch_83 : decode cX12_bunch 83 = .ok (.goto (-60), 3) := by decide +kernel
theorem dX12_bunch_86 : decode cX12_bunch 86 = .ok (.iload_n 2, 1) := by decide +kernel
theorem dX12_bunch_87 : decode cX12_bunch 87 = .ok (.ireturn, 1) := by decide +kernel
theorem dX12_trial_0 : decode cX12_trial 0 = .ok (.aload_n 0, 1) := by decide +kernel
theorem dX12_trial_1 : decode cX12_trial 1 = .ok (.iconst 0, 1) := by decide +kernel
theorem dX12_trial_2 : decode cX12_trial 2 = .ok (.putfield 3, 3) := by decide +kernel
theorem dX12_trial_5 : decode cX12_trial 5 = .ok (.aload_n 0, 1) := by decide +kernel
theorem dX12_trial_6 : decode cX12_trial 6 = .ok (.iload_n 1, 1) := by decide +kernel
theorem dX12_trial_7 : decode cX12_trial 7 = .ok (.invokestatic 394, 3) := by decide +kernel
theorem dX12_trial_10 : decode cX12_trial 10 = .ok (.iconst 1, 1) := by decide +kernel
theorem dX12_trial_11 : decode cX12_trial 11 = .ok (.invokevirtual 277, 3) := by decide +kernel
theorem dX12_trial_14 : decode cX12_trial 14 = .ok (.ifCond .eq 5, 3) := by decide +kernel
theorem dX12_trial_17 : decode cX12_trial 17 = .ok (.iconst 0, 1) := by decide +kernel
theorem dX12_trial_18 : decode cX12_trial 18 = .ok (.ireturn, 1) := by decide +kernel
theorem dX12_trial_19 : decode cX12_trial 19 = .ok (.aload_n 0, 1) := by decide +kernel
theorem dX12_trial_20 : decode cX12_trial 20 = .ok (.invokevirtual 367, 3) := by decide +kernel
theorem dX12_trial_23 : decode cX12_trial 23 = .ok (.aload_n 0, 1) := by decide +kernel
theorem dX12_trial_24 : decode cX12_trial 24 = .ok (.iload_n 1, 1) := by decide +kernel
theorem dX12_trial_25 : decode cX12_trial 25 = .ok (.iconst 0, 1) := by decide +kernel
theorem dX12_trial_26 : decode cX12_trial 26 = .ok (.invokevirtual 335, 3) := by decide +kernel
theorem dX12_trial_29 : decode cX12_trial 29 = .ok (.pop, 1) := by decide +kernel
theorem dX12_trial_30 : decode cX12_trial 30 = .ok (.iload_n 2, 1) := by decide +kernel
theorem dX12_trial_31 : decode cX12_trial 31 = .ok (.ifCond .eq 10, 3) := by decide +kernel
theorem dX12_trial_34 : decode cX12_trial 34 = .ok (.aload_n 0, 1) := by decide +kernel
theorem dX12_trial_35 : decode cX12_trial 35 = .ok (.getfield 323, 3) := by decide +kernel
theorem dX12_trial_38 : decode cX12_trial 38 = .ok (.goto 7, 3) := by decide +kernel
theorem dX12_trial_41 : decode cX12_trial 41 = .ok (.aload_n 0, 1) := by decide +kernel
theorem dX12_trial_42 : decode cX12_trial 42 = .ok (.invokevirtual 385, 3) := by decide +kernel
theorem dX12_trial_45 : decode cX12_trial 45 = .ok (.istore_n 3, 1) := by decide +kernel
theorem dX12_trial_46 : decode cX12_trial 46 = .ok (.aload_n 0, 1) := by decide +kernel
theorem dX12_trial_47 : decode cX12_trial 47 = .ok (.invokevirtual 370, 3) := by decide +kernel
theorem dX12_trial_50 : decode cX12_trial 50 = .ok (.iload_n 3, 1) := by decide +kernel
theorem dX12_trial_51 : decode cX12_trial 51 = .ok (.ireturn, 1) := by decide +kernel
theorem dX12_span_0 : decode cX12_span 0 = .ok (.aload_n 0, 1) := by decide +kernel
theorem dX12_span_1 : decode cX12_span 1 = .ok (.iconst 0, 1) := by decide +kernel
theorem dX12_span_2 : decode cX12_span 2 = .ok (.putfield 3, 3) := by decide +kernel
theorem dX12_span_5 : decode cX12_span 5 = .ok (.aload_n 0, 1) := by decide +kernel
theorem dX12_span_6 : decode cX12_span 6 = .ok (.iload_n 1, 1) := by decide +kernel
theorem dX12_span_7 : decode cX12_span 7 = .ok (.invokestatic 394, 3) := by decide +kernel
theorem dX12_span_10 : decode cX12_span 10 = .ok (.iconst 1, 1) := by decide +kernel
theorem dX12_span_11 : decode cX12_span 11 = .ok (.invokevirtual 277, 3) := by decide +kernel
theorem dX12_span_14 : decode cX12_span 14 = .ok (.ifCond .eq 5, 3) := by decide +kernel
theorem dX12_span_17 : decode cX12_span 17 = .ok (.iconst 0, 1) := by decide +kernel
theorem dX12_span_18 : decode cX12_span 18 = .ok (.ireturn, 1) := by decide +kernel
theorem dX12_span_19 : decode cX12_span 19 = .ok (.aload_n 0, 1) := by decide +kernel
theorem dX12_span_20 : decode cX12_span 20 = .ok (.invokevirtual 367, 3) := by decide +kernel
theorem dX12_span_23 : decode cX12_span 23 = .ok (.iconst (-1), 1) := by decide +kernel
theorem dX12_span_24 : decode cX12_span 24 = .ok (.istore_n 3, 1) := by decide +kernel
theorem dX12_span_25 : decode cX12_span 25 = .ok (.iconst 1, 1) := by decide +kernel
theorem dX12_span_26 : decode cX12_span 26 = .ok (.istore 4, 2) := by decide +kernel
theorem dX12_span_28 : decode cX12_span 28 = .ok (.iload 4, 2) := by decide +kernel
theorem dX12_span_30 : decode cX12_span 30 = .ok (.bipush 6, 2) := by decide +kernel
theorem dX12_span_32 : decode cX12_span 32 = .ok (.if_icmp .gt 64, 3) := by decide +kernel
theorem dX12_span_35 : decode cX12_span 35 = .ok (.aload_n 0, 1) := by decide +kernel
theorem dX12_span_36 : decode cX12_span 36 = .ok (.getfield 13, 3) := by decide +kernel
theorem dX12_span_39 : decode cX12_span 39 = .ok (.bipush 10, 2) := by decide +kernel
theorem dX12_span_41 : decode cX12_span 41 = .ok (.iload 4, 2) := by decide +kernel
theorem dX12_span_43 : decode cX12_span 43 = .ok (.iastore, 1) := by decide +kernel
theorem dX12_span_44 : decode cX12_span 44 = .ok (.aload_n 0, 1) := by decide +kernel
theorem dX12_span_45 : decode cX12_span 45 = .ok (.iload_n 1, 1) := by decide +kernel
theorem dX12_span_46 : decode cX12_span 46 = .ok (.iconst 0, 1) := by decide +kernel
theorem dX12_span_47 : decode cX12_span 47 = .ok (.invokevirtual 335, 3) := by decide +kernel
theorem dX12_span_50 : decode cX12_span 50 = .ok (.pop, 1) := by decide +kernel
theorem dX12_span_51 : decode cX12_span 51 = .ok (.aload_n 0, 1) := by decide +kernel
theorem dX12_span_52 : decode cX12_span 52 = .ok (.invokevirtual 385, 3) := by decide +kernel
theorem dX12_span_55 : decode cX12_span 55 = .ok (.istore 5, 2) := by decide +kernel
theorem dX12_span_57 : decode cX12_span 57 = .ok (.aload_n 0, 1) := by decide +kernel
theorem dX12_span_58 : decode cX12_span 58 = .ok (.invokevirtual 370, 3) := by decide +kernel
theorem dX12_span_61 : decode cX12_span 61 = .ok (.iload_n 3, 1) := by decide +kernel
theorem dX12_span_62 : decode cX12_span 62 = .ok (.ifCond .ge 8, 3) := by decide +kernel
theorem dX12_span_65 : decode cX12_span 65 = .ok (.iload 5, 2) := by decide +kernel
theorem dX12_span_67 : decode cX12_span 67 = .ok (.goto 22, 3) := by decide +kernel
theorem dX12_span_70 : decode cX12_span 70 = .ok (.iload_n 2, 1) := by decide +kernel
theorem dX12_span_71 : decode cX12_span 71 = .ok (.ifCond .eq 12, 3) := by decide +kernel
theorem dX12_span_74 : decode cX12_span 74 = .ok (.iload_n 3, 1) := by decide +kernel
theorem dX12_span_75 : decode cX12_span 75 = .ok (.iload 5, 2) := by decide +kernel
theorem dX12_span_77 : decode cX12_span 77 = .ok (.invokestatic 299, 3) := by decide +kernel
theorem dX12_span_80 : decode cX12_span 80 = .ok (.goto 9, 3) := by decide +kernel
theorem dX12_span_83 : decode cX12_span 83 = .ok (.iload_n 3, 1) := by decide +kernel
theorem dX12_span_84 : decode cX12_span 84 = .ok (.iload 5, 2) := by decide +kernel
theorem dX12_span_86 : decode cX12_span 86 = .ok (.invokestatic 146, 3) := by decide +kernel
theorem dX12_span_89 : decode cX12_span 89 = .ok (.istore_n 3, 1) := by decide +kernel
theorem dX12_span_90 : decode cX12_span 90 = .ok (.iinc 4 1, 3) := by decide +kernel
theorem dX12_span_93 : decode cX12_span 93 = .ok (.goto (-65), 3) := by decide +kernel
theorem dX12_span_96 : decode cX12_span 96 = .ok (.iload_n 3, 1) := by decide +kernel
theorem dX12_span_97 : decode cX12_span 97 = .ok (.ireturn, 1) := by decide +kernel
theorem dX12_ofLog_0 : decode cX12_ofLog 0 = .ok (.aload_n 0, 1) := by decide +kernel
theorem dX12_ofLog_1 : decode cX12_ofLog 1 = .ok (.getfield 13, 3) := by decide +kernel
theorem dX12_ofLog_4 : decode cX12_ofLog 4 = .ok (.bipush 68, 2) := by decide +kernel
theorem dX12_ofLog_6 : decode cX12_ofLog 6 = .ok (.iconst 4, 1) := by decide +kernel
theorem dX12_ofLog_7 : decode cX12_ofLog 7 = .ok (.iload_n 1, 1) := by decide +kernel
theorem dX12_ofLog_8 : decode cX12_ofLog 8 = .ok (.imul, 1) := by decide +kernel
theorem dX12_ofLog_9 : decode cX12_ofLog 9 = .ok (.iadd, 1) := by decide +kernel
theorem dX12_ofLog_10 : decode cX12_ofLog 10 = .ok (.iload_n 2, 1) := by decide +kernel
theorem dX12_ofLog_11 : decode cX12_ofLog 11 = .ok (.iadd, 1) := by decide +kernel
theorem dX12_ofLog_12 : decode cX12_ofLog 12 = .ok (.iaload, 1) := by decide +kernel
theorem dX12_ofLog_13 : decode cX12_ofLog 13 = .ok (.ireturn, 1) := by decide +kernel
theorem dX12_led_0 : decode cX12_led 0 = .ok (.aload_n 0, 1) := by decide +kernel
theorem dX12_led_1 : decode cX12_led 1 = .ok (.iconst 0, 1) := by decide +kernel
theorem dX12_led_2 : decode cX12_led 2 = .ok (.putfield 3, 3) := by decide +kernel
theorem dX12_led_5 : decode cX12_led 5 = .ok (.aload_n 0, 1) := by decide +kernel
theorem dX12_led_6 : decode cX12_led 6 = .ok (.aload_n 0, 1) := by decide +kernel
theorem dX12_led_7 : decode cX12_led 7 = .ok (.iload_n 1, 1) := by decide +kernel
theorem dX12_led_8 : decode cX12_led 8 = .ok (.invokevirtual 342, 3) := by decide +kernel
theorem dX12_led_11 : decode cX12_led 11 = .ok (.iconst 1, 1) := by decide +kernel
theorem dX12_led_12 : decode cX12_led 12 = .ok (.invokevirtual 277, 3) := by decide +kernel
theorem dX12_led_15 : decode cX12_led 15 = .ok (.ifCond .eq 5, 3) := by decide +kernel
theorem dX12_led_18 : decode cX12_led 18 = .ok (.iconst 0, 1) := by decide +kernel
theorem dX12_led_19 : decode cX12_led 19 = .ok (.ireturn, 1) := by decide +kernel
theorem dX12_led_20 : decode cX12_led 20 = .ok (.iconst 0, 1) := by decide +kernel
theorem dX12_led_21 : decode cX12_led 21 = .ok (.istore_n 3, 1) := by decide +kernel
theorem dX12_led_22 : decode cX12_led 22 = .ok (.iconst (-1), 1) := by decide +kernel
theorem dX12_led_23 : decode cX12_led 23 = .ok (.istore 4, 2) := by decide +kernel
theorem dX12_led_25 : decode cX12_led 25 = .ok (.aload_n 0, 1) := by decide +kernel
theorem dX12_led_26 : decode cX12_led 26 = .ok (.getfield 13, 3) := by decide +kernel
theorem dX12_led_29 : decode cX12_led 29 = .ok (.bipush 9, 2) := by decide +kernel
theorem dX12_led_31 : decode cX12_led 31 = .ok (.iaload, 1) := by decide +kernel
theorem dX12_led_32 : decode cX12_led 32 = .ok (.iconst 1, 1) := by decide +kernel
theorem dX12_led_33 : decode cX12_led 33 = .ok (.isub, 1) := by decide +kernel
theorem dX12_led_34 : decode cX12_led 34 = .ok (.istore 5, 2) := by decide +kernel
theorem dX12_led_36 : decode cX12_led 36 = .ok (.iload 5, 2) := by decide +kernel
theorem dX12_led_38 : decode cX12_led 38 = .ok (.ifCond .lt 35, 3) := by decide +kernel
theorem dX12_led_41 : decode cX12_led 41 = .ok (.aload_n 0, 1) := by decide +kernel
theorem dX12_led_42 : decode cX12_led 42 = .ok (.iload 5, 2) := by decide +kernel
theorem dX12_led_44 : decode cX12_led 44 = .ok (.iconst 1, 1) := by decide +kernel
theorem dX12_led_45 : decode cX12_led 45 = .ok (.invokevirtual 485, 3) := by decide +kernel
theorem dX12_led_48 : decode cX12_led 48 = .ok (.iload_n 1, 1) := by decide +kernel
theorem dX12_led_49 : decode cX12_led 49 = .ok (.if_icmp .eq 6, 3) := by decide +kernel
theorem dX12_led_52 : decode cX12_led 52 = .ok (.goto 15, 3) := by decide +kernel
theorem dX12_led_55 : decode cX12_led 55 = .ok (.iinc 3 1, 3) := by decide +kernel
theorem dX12_led_58 : decode cX12_led 58 = .ok (.aload_n 0, 1) := by decide +kernel
theorem dX12_led_59 : decode cX12_led 59 = .ok (.iload 5, 2) := by decide +kernel
theorem dX12_led_61 : decode cX12_led 61 = .ok (.iconst 0, 1) := by decide +kernel
theorem dX12_led_62 : decode cX12_led 62 = .ok (.invokevirtual 485, 3) := by decide +kernel
theorem dX12_led_65 : decode cX12_led 65 = .ok (.istore 4, 2) := by decide +kernel
theorem dX12_led_67 : decode cX12_led 67 = .ok (.iinc 5 (-1), 3) := by decide +kernel
theorem dX12_led_70 : decode cX12_led 70 = .ok (.goto (-34), 3) := by decide +kernel
theorem dX12_led_73 : decode cX12_led 73 = .ok (.iload_n 2, 1) := by decide +kernel
theorem dX12_led_74 : decode cX12_led 74 = .ok (.ifCond .eq 8, 3) := by decide +kernel
theorem dX12_led_77 : decode cX12_led 77 = .ok (.iload 4, 2) := by decide +kernel
theorem dX12_led_79 : decode cX12_led 79 = .ok (.goto 4, 3) := by decide +kernel
theorem dX12_led_82 : decode cX12_led 82 = .ok (.iload_n 3, 1) := by decide +kernel
theorem dX12_led_83 : decode cX12_led 83 = .ok (.ireturn, 1) := by decide +kernel
theorem dX12_log_0 : decode cX12_log 0 = .ok (.aload_n 0, 1) := by decide +kernel
theorem dX12_log_1 : decode cX12_log 1 = .ok (.iconst 0, 1) := by decide +kernel
theorem dX12_log_2 : decode cX12_log 2 = .ok (.putfield 3, 3) := by decide +kernel
theorem dX12_log_5 : decode cX12_log 5 = .ok (.aload_n 0, 1) := by decide +kernel
theorem dX12_log_6 : decode cX12_log 6 = .ok (.iload_n 2, 1) := by decide +kernel
theorem dX12_log_7 : decode cX12_log 7 = .ok (.iconst 0, 1) := by decide +kernel
theorem dX12_log_8 : decode cX12_log 8 = .ok (.iconst 3, 1) := by decide +kernel
theorem dX12_log_9 : decode cX12_log 9 = .ok (.invokestatic 97, 3) := by decide +kernel
theorem dX12_log_12 : decode cX12_log 12 = .ok (.ifCond .ne 7, 3) := by decide +kernel
theorem dX12_log_15 : decode cX12_log 15 = .ok (.iconst 1, 1) := by decide +kernel
theorem dX12_log_16 : decode cX12_log 16 = .ok (.goto 4, 3) := by decide +kernel
theorem dX12_log_19 : decode cX12_log 19 = .ok (.iconst 0, 1) := by decide +kernel
theorem dX12_log_20 : decode cX12_log 20 = .ok (.iconst 1, 1) := by decide +kernel
theorem dX12_log_21 : decode cX12_log 21 = .ok (.invokevirtual 277, 3) := by decide +kernel
theorem dX12_log_24 : decode cX12_log 24 = .ok (.ifCond .eq 5, 3) := by decide +kernel
theorem dX12_log_27 : decode cX12_log 27 = .ok (.iconst 0, 1) := by decide +kernel
theorem dX12_log_28 : decode cX12_log 28 = .ok (.ireturn, 1) := by decide +kernel
theorem dX12_log_29 : decode cX12_log 29 = .ok (.iload_n 1, 1) := by decide +kernel
theorem dX12_log_30 : decode cX12_log 30 = .ok (.iconst 0, 1) := by decide +kernel
theorem dX12_log_31 : decode cX12_log 31 = .ok (.aload_n 0, 1) := by decide +kernel
theorem dX12_log_32 : decode cX12_log 32 = .ok (.getfield 13, 3) := by decide +kernel
theorem dX12_log_35 : decode cX12_log 35 = .ok (.bipush 9, 2) := by decide +kernel
theorem dX12_log_37 : decode cX12_log 37 = .ok (.iaload, 1) := by decide +kernel
theorem dX12_log_38 : decode cX12_log 38 = .ok (.iconst 1, 1) := by decide +kernel
theorem dX12_log_39 : decode cX12_log 39 = .ok (.isub, 1) := by decide +kernel
theorem dX12_log_40 : decode cX12_log 40 = .ok (.invokestatic 97, 3) := by decide +kernel
theorem dX12_log_43 : decode cX12_log 43 = .ok (.ifCond .eq 12, 3) := by decide +kernel
theorem dX12_log_46 : decode cX12_log 46 = .ok (.aload_n 0, 1) := by decide +kernel
theorem dX12_log_47 : decode cX12_log 47 = .ok (.iload_n 1, 1) := by decide +kernel
theorem dX12_log_48 : decode cX12_log 48 = .ok (.iload_n 2, 1) := by decide +kernel
theorem dX12_log_49 : decode cX12_log 49 = .ok (.invokevirtual 485, 3) := by decide +kernel
theorem dX12_log_52 : decode cX12_log 52 = .ok (.goto 4, 3) := by decide +kernel
theorem dX12_log_55 : decode cX12_log 55 = .ok (.iconst (-1), 1) := by decide +kernel
theorem dX12_log_56 : decode cX12_log 56 = .ok (.ireturn, 1) := by decide +kernel
theorem dX12_seed_0 : decode cX12_seed 0 = .ok (.aload_n 0, 1) := by decide +kernel
theorem dX12_seed_1 : decode cX12_seed 1 = .ok (.iconst 0, 1) := by decide +kernel
theorem dX12_seed_2 : decode cX12_seed 2 = .ok (.putfield 3, 3) := by decide +kernel
theorem dX12_seed_5 : decode cX12_seed 5 = .ok (.aload_n 0, 1) := by decide +kernel
theorem dX12_seed_6 : decode cX12_seed 6 = .ok (.getfield 13, 3) := by decide +kernel
theorem dX12_seed_9 : decode cX12_seed 9 = .ok (.bipush 10, 2) := by decide +kernel
theorem dX12_seed_11 : decode cX12_seed 11 = .ok (.iaload, 1) := by decide +kernel
theorem dX12_seed_12 : decode cX12_seed 12 = .ok (.istore_n 2, 1) := by decide +kernel
theorem dX12_seed_13 : decode cX12_seed 13 = .ok (.aload_n 0, 1) := by decide +kernel
theorem dX12_seed_14 : decode cX12_seed 14 = .ok (.getfield 13, 3) := by decide +kernel
theorem dX12_seed_17 : decode cX12_seed 17 = .ok (.bipush 10, 2) := by decide +kernel
theorem dX12_seed_19 : decode cX12_seed 19 = .ok (.iload_n 1, 1) := by decide +kernel
theorem dX12_seed_20 : decode cX12_seed 20 = .ok (.iastore, 1) := by decide +kernel
theorem dX12_seed_21 : decode cX12_seed 21 = .ok (.iload_n 2, 1) := by decide +kernel
theorem dX12_seed_22 : decode cX12_seed 22 = .ok (.ireturn, 1) := by decide +kernel
theorem dX12_count_0 : decode cX12_count 0 = .ok (.aload_n 0, 1) := by decide +kernel
theorem dX12_count_1 : decode cX12_count 1 = .ok (.iconst 0, 1) := by decide +kernel
theorem dX12_count_2 : decode cX12_count 2 = .ok (.putfield 3, 3) := by decide +kernel
theorem dX12_count_5 : decode cX12_count 5 = .ok (.iload_n 1, 1) := by decide +kernel
theorem dX12_count_6 : decode cX12_count 6 = .ok (.tableswitch 87 3 10 #[46, 87, 87, 87, 87, 69, 74, 82], 46) := by decide +kernel
theorem dX12_count_52 : decode cX12_count 52 = .ok (.aload_n 0, 1) := by decide +kernel
theorem dX12_count_53 : decode cX12_count 53 = .ok (.getfield 13, 3) := by decide +kernel
theorem dX12_count_56 : decode cX12_count 56 = .ok (.iconst 3, 1) := by decide +kernel
theorem dX12_count_57 : decode cX12_count 57 = .ok (.iaload, 1) := by decide +kernel
theorem dX12_count_58 : decode cX12_count 58 = .ok (.iconst 1, 1) := by decide +kernel
theorem dX12_count_59 : decode cX12_count 59 = .ok (.if_icmp .ne 14, 3) := by decide +kernel
theorem dX12_count_62 : decode cX12_count 62 = .ok (.aload_n 0, 1) := by decide +kernel
theorem dX12_count_63 : decode cX12_count 63 = .ok (.getfield 13, 3) := by decide +kernel
theorem dX12_count_66 : decode cX12_count 66 = .ok (.sipush 308, 3) := by decide +kernel
theorem dX12_count_69 : decode cX12_count 69 = .ok (.iaload, 1) := by decide +kernel
theorem dX12_count_70 : decode cX12_count 70 = .ok (.goto 4, 3) := by decide +kernel
theorem dX12_count_73 : decode cX12_count 73 = .ok (.iconst (-1), 1) := by decide +kernel
theorem dX12_count_74 : decode cX12_count 74 = .ok (.ireturn, 1) := by decide +kernel
theorem dX12_count_75 : decode cX12_count 75 = .ok (.aload_n 0, 1) := by decide +kernel
theorem dX12_count_76 : decode cX12_count 76 = .ok (.invokevirtual 385, 3) := by decide +kernel
theorem dX12_count_79 : decode cX12_count 79 = .ok (.ireturn, 1) := by decide +kernel
theorem dX12_count_80 : decode cX12_count 80 = .ok (.aload_n 0, 1) := by decide +kernel
theorem dX12_count_81 : decode cX12_count 81 = .ok (.getfield 13, 3) := by decide +kernel
theorem dX12_count_84 : decode cX12_count 84 = .ok (.bipush 9, 2) := by decide +kernel
theorem dX12_count_86 : decode cX12_count 86 = .ok (.iaload, 1) := by decide +kernel
theorem dX12_count_87 : decode cX12_count 87 = .ok (.ireturn, 1) := by decide +kernel
theorem dX12_count_88 : decode cX12_count 88 = .ok (.aload_n 0, 1) := by decide +kernel
theorem dX12_count_89 : decode cX12_count 89 = .ok (.getfield 74, 3) := by decide +kernel
theorem dX12_count_92 : decode cX12_count 92 = .ok (.ireturn, 1) := by decide +kernel
theorem dX12_count_93 : decode cX12_count 93 = .ok (.iload_n 1, 1) := by decide +kernel
theorem dX12_count_94 : decode cX12_count 94 = .ok (.iconst 0, 1) := by decide +kernel
theorem dX12_count_95 : decode cX12_count 95 = .ok (.bipush 7, 2) := by decide +kernel
theorem dX12_count_97 : decode cX12_count 97 = .ok (.invokestatic 97, 3) := by decide +kernel
theorem dX12_count_100 : decode cX12_count 100 = .ok (.ifCond .eq 12, 3) := by decide +kernel
theorem dX12_count_103 : decode cX12_count 103 = .ok (.aload_n 0, 1) := by decide +kernel
theorem dX12_count_104 : decode cX12_count 104 = .ok (.getfield 13, 3) := by decide +kernel
theorem dX12_count_107 : decode cX12_count 107 = .ok (.iload_n 1, 1) := by decide +kernel
theorem dX12_count_108 : decode cX12_count 108 = .ok (.iaload, 1) := by decide +kernel
theorem dX12_count_109 : decode cX12_count 109 = .ok (.goto 4, 3) := by decide +kernel
theorem dX12_count_112 : decode cX12_count 112 = .ok (.iconst (-1), 1) := by decide +kernel
theorem dX12_count_113 : decode cX12_count 113 = .ok (.ireturn, 1) := by decide +kernel
theorem dJ6_numberOfTrailingZeros_0f7a4_0 : decode cJ6_numberOfTrailingZeros_0f7a4 0 = .ok (.iload_n 0, 1) := by decide +kernel
theorem dJ6_numberOfTrailingZeros_0f7a4_1 : decode cJ6_numberOfTrailingZeros_0f7a4 1 = .ok (.iconst (-1), 1) := by decide +kernel
theorem dJ6_numberOfTrailingZeros_0f7a4_2 : decode cJ6_numberOfTrailingZeros_0f7a4 2 = .ok (.ixor, 1) := by decide +kernel
theorem dJ6_numberOfTrailingZeros_0f7a4_3 : decode cJ6_numberOfTrailingZeros_0f7a4 3 = .ok (.iload_n 0, 1) := by decide +kernel
theorem dJ6_numberOfTrailingZeros_0f7a4_4 : decode cJ6_numberOfTrailingZeros_0f7a4 4 = .ok (.iconst 1, 1) := by decide +kernel
theorem dJ6_numberOfTrailingZeros_0f7a4_5 : decode cJ6_numberOfTrailingZeros_0f7a4 5 = .ok (.isub, 1) := by decide +kernel
theorem dJ6_numberOfTrailingZeros_0f7a4_6 : decode cJ6_numberOfTrailingZeros_0f7a4 6 = .ok (.iand, 1) := by decide +kernel
theorem dJ6_numberOfTrailingZeros_0f7a4_7 : decode cJ6_numberOfTrailingZeros_0f7a4 7 = .ok (.istore_n 0, 1) := by decide +kernel
theorem dJ6_numberOfTrailingZeros_0f7a4_8 : decode cJ6_numberOfTrailingZeros_0f7a4 8 = .ok (.iload_n 0, 1) := by decide +kernel
theorem dJ6_numberOfTrailingZeros_0f7a4_9 : decode cJ6_numberOfTrailingZeros_0f7a4 9 = .ok (.ifCond .gt 8, 3) := by decide +kernel
theorem dJ6_numberOfTrailingZeros_0f7a4_12 : decode cJ6_numberOfTrailingZeros_0f7a4 12 = .ok (.iload_n 0, 1) := by decide +kernel
theorem dJ6_numberOfTrailingZeros_0f7a4_13 : decode cJ6_numberOfTrailingZeros_0f7a4 13 = .ok (.bipush 32, 2) := by decide +kernel
theorem dJ6_numberOfTrailingZeros_0f7a4_15 : decode cJ6_numberOfTrailingZeros_0f7a4 15 = .ok (.iand, 1) := by decide +kernel
theorem dJ6_numberOfTrailingZeros_0f7a4_16 : decode cJ6_numberOfTrailingZeros_0f7a4 16 = .ok (.ireturn, 1) := by decide +kernel
theorem dJ6_numberOfTrailingZeros_0f7a4_17 : decode cJ6_numberOfTrailingZeros_0f7a4 17 = .ok (.iconst 1, 1) := by decide +kernel
theorem dJ6_numberOfTrailingZeros_0f7a4_18 : decode cJ6_numberOfTrailingZeros_0f7a4 18 = .ok (.istore_n 1, 1) := by decide +kernel
theorem dJ6_numberOfTrailingZeros_0f7a4_19 : decode cJ6_numberOfTrailingZeros_0f7a4 19 = .ok (.iload_n 0, 1) := by decide +kernel
theorem dJ6_numberOfTrailingZeros_0f7a4_20 : decode cJ6_numberOfTrailingZeros_0f7a4 20 = .ok (.ldc_w 264, 3) := by decide +kernel
theorem dJ6_numberOfTrailingZeros_0f7a4_23 : decode cJ6_numberOfTrailingZeros_0f7a4 23 = .ok (.if_icmp .le 11, 3) := by decide +kernel
theorem dJ6_numberOfTrailingZeros_0f7a4_26 : decode cJ6_numberOfTrailingZeros_0f7a4 26 = .ok (.iinc 1 16, 3) := by decide +kernel
theorem dJ6_numberOfTrailingZeros_0f7a4_29 : decode cJ6_numberOfTrailingZeros_0f7a4 29 = .ok (.iload_n 0, 1) := by decide +kernel
theorem dJ6_numberOfTrailingZeros_0f7a4_30 : decode cJ6_numberOfTrailingZeros_0f7a4 30 = .ok (.bipush 16, 2) := by decide +kernel
theorem dJ6_numberOfTrailingZeros_0f7a4_32 : decode cJ6_numberOfTrailingZeros_0f7a4 32 = .ok (.iushr, 1) := by decide +kernel
theorem dJ6_numberOfTrailingZeros_0f7a4_33 : decode cJ6_numberOfTrailingZeros_0f7a4 33 = .ok (.istore_n 0, 1) := by decide +kernel
theorem dJ6_numberOfTrailingZeros_0f7a4_34 : decode cJ6_numberOfTrailingZeros_0f7a4 34 = .ok (.iload_n 0, 1) := by decide +kernel
theorem dJ6_numberOfTrailingZeros_0f7a4_35 : decode cJ6_numberOfTrailingZeros_0f7a4 35 = .ok (.sipush 256, 3) := by decide +kernel
theorem dJ6_numberOfTrailingZeros_0f7a4_38 : decode cJ6_numberOfTrailingZeros_0f7a4 38 = .ok (.if_icmp .le 11, 3) := by decide +kernel
theorem dJ6_numberOfTrailingZeros_0f7a4_41 : decode cJ6_numberOfTrailingZeros_0f7a4 41 = .ok (.iinc 1 8, 3) := by decide +kernel
theorem dJ6_numberOfTrailingZeros_0f7a4_44 : decode cJ6_numberOfTrailingZeros_0f7a4 44 = .ok (.iload_n 0, 1) := by decide +kernel
theorem dJ6_numberOfTrailingZeros_0f7a4_45 : decode cJ6_numberOfTrailingZeros_0f7a4 45 = .ok (.bipush 8, 2) := by decide +kernel
theorem dJ6_numberOfTrailingZeros_0f7a4_47 : decode cJ6_numberOfTrailingZeros_0f7a4 47 = .ok (.iushr, 1) := by decide +kernel
theorem dJ6_numberOfTrailingZeros_0f7a4_48 : decode cJ6_numberOfTrailingZeros_0f7a4 48 = .ok (.istore_n 0, 1) := by decide +kernel
theorem dJ6_numberOfTrailingZeros_0f7a4_49 : decode cJ6_numberOfTrailingZeros_0f7a4 49 = .ok (.iload_n 0, 1) := by decide +kernel
theorem dJ6_numberOfTrailingZeros_0f7a4_50 : decode cJ6_numberOfTrailingZeros_0f7a4 50 = .ok (.bipush 16, 2) := by decide +kernel
theorem dJ6_numberOfTrailingZeros_0f7a4_52 : decode cJ6_numberOfTrailingZeros_0f7a4 52 = .ok (.if_icmp .le 10, 3) := by decide +kernel
theorem dJ6_numberOfTrailingZeros_0f7a4_55 : decode cJ6_numberOfTrailingZeros_0f7a4 55 = .ok (.iinc 1 4, 3) := by decide +kernel
theorem dJ6_numberOfTrailingZeros_0f7a4_58 : decode cJ6_numberOfTrailingZeros_0f7a4 58 = .ok (.iload_n 0, 1) := by decide +kernel
theorem dJ6_numberOfTrailingZeros_0f7a4_59 : decode cJ6_numberOfTrailingZeros_0f7a4 59 = .ok (.iconst 4, 1) := by decide +kernel
theorem dJ6_numberOfTrailingZeros_0f7a4_60 : decode cJ6_numberOfTrailingZeros_0f7a4 60 = .ok (.iushr, 1) := by decide +kernel
theorem dJ6_numberOfTrailingZeros_0f7a4_61 : decode cJ6_numberOfTrailingZeros_0f7a4 61 = .ok (.istore_n 0, 1) := by decide +kernel
theorem dJ6_numberOfTrailingZeros_0f7a4_62 : decode cJ6_numberOfTrailingZeros_0f7a4 62 = .ok (.iload_n 0, 1) := by decide +kernel
theorem dJ6_numberOfTrailingZeros_0f7a4_63 : decode cJ6_numberOfTrailingZeros_0f7a4 63 = .ok (.iconst 4, 1) := by decide +kernel
theorem dJ6_numberOfTrailingZeros_0f7a4_64 : decode cJ6_numberOfTrailingZeros_0f7a4 64 = .ok (.if_icmp .le 10, 3) := by decide +kernel
theorem dJ6_numberOfTrailingZeros_0f7a4_67 : decode cJ6_numberOfTrailingZeros_0f7a4 67 = .ok (.iinc 1 2, 3) := by decide +kernel
theorem dJ6_numberOfTrailingZeros_0f7a4_70 : decode cJ6_numberOfTrailingZeros_0f7a4 70 = .ok (.iload_n 0, 1) := by decide +kernel
theorem dJ6_numberOfTrailingZeros_0f7a4_71 : decode cJ6_numberOfTrailingZeros_0f7a4 71 = .ok (.iconst 2, 1) := by decide +kernel
theorem dJ6_numberOfTrailingZeros_0f7a4_72 : decode cJ6_numberOfTrailingZeros_0f7a4 72 = .ok (.iushr, 1) := by decide +kernel
theorem dJ6_numberOfTrailingZeros_0f7a4_73 : decode cJ6_numberOfTrailingZeros_0f7a4 73 = .ok (.istore_n 0, 1) := by decide +kernel
theorem dJ6_numberOfTrailingZeros_0f7a4_74 : decode cJ6_numberOfTrailingZeros_0f7a4 74 = .ok (.iload_n 1, 1) := by decide +kernel
theorem dJ6_numberOfTrailingZeros_0f7a4_75 : decode cJ6_numberOfTrailingZeros_0f7a4 75 = .ok (.iload_n 0, 1) := by decide +kernel
theorem dJ6_numberOfTrailingZeros_0f7a4_76 : decode cJ6_numberOfTrailingZeros_0f7a4 76 = .ok (.iconst 1, 1) := by decide +kernel
theorem dJ6_numberOfTrailingZeros_0f7a4_77 : decode cJ6_numberOfTrailingZeros_0f7a4 77 = .ok (.iushr, 1) := by decide +kernel
theorem dJ6_numberOfTrailingZeros_0f7a4_78 : decode cJ6_numberOfTrailingZeros_0f7a4 78 = .ok (.iadd, 1) := by decide +kernel
theorem dJ6_numberOfTrailingZeros_0f7a4_79 : decode cJ6_numberOfTrailingZeros_0f7a4 79 = .ok (.ireturn, 1) := by decide +kernel
theorem dJ6_bitCount_0f7a4_0 : decode cJ6_bitCount_0f7a4 0 = .ok (.iload_n 0, 1) := by decide +kernel
theorem dJ6_bitCount_0f7a4_1 : decode cJ6_bitCount_0f7a4 1 = .ok (.iload_n 0, 1) := by decide +kernel
theorem dJ6_bitCount_0f7a4_2 : decode cJ6_bitCount_0f7a4 2 = .ok (.iconst 1, 1) := by decide +kernel
theorem dJ6_bitCount_0f7a4_3 : decode cJ6_bitCount_0f7a4 3 = .ok (.iushr, 1) := by decide +kernel
theorem dJ6_bitCount_0f7a4_4 : decode cJ6_bitCount_0f7a4 4 = .ok (.ldc_w 265, 3) := by decide +kernel
theorem dJ6_bitCount_0f7a4_7 : decode cJ6_bitCount_0f7a4 7 = .ok (.iand, 1) := by decide +kernel
theorem dJ6_bitCount_0f7a4_8 : decode cJ6_bitCount_0f7a4 8 = .ok (.isub, 1) := by decide +kernel
theorem dJ6_bitCount_0f7a4_9 : decode cJ6_bitCount_0f7a4 9 = .ok (.istore_n 0, 1) := by decide +kernel
theorem dJ6_bitCount_0f7a4_10 : decode cJ6_bitCount_0f7a4 10 = .ok (.iload_n 0, 1) := by decide +kernel
theorem dJ6_bitCount_0f7a4_11 : decode cJ6_bitCount_0f7a4 11 = .ok (.ldc_w 266, 3) := by decide +kernel
theorem dJ6_bitCount_0f7a4_14 : decode cJ6_bitCount_0f7a4 14 = .ok (.iand, 1) := by decide +kernel
theorem dJ6_bitCount_0f7a4_15 : decode cJ6_bitCount_0f7a4 15 = .ok (.iload_n 0, 1) := by decide +kernel
theorem dJ6_bitCount_0f7a4_16 : decode cJ6_bitCount_0f7a4 16 = .ok (.iconst 2, 1) := by decide +kernel
theorem dJ6_bitCount_0f7a4_17 : decode cJ6_bitCount_0f7a4 17 = .ok (.iushr, 1) := by decide +kernel
theorem dJ6_bitCount_0f7a4_18 : decode cJ6_bitCount_0f7a4 18 = .ok (.ldc_w 266, 3) := by decide +kernel
theorem dJ6_bitCount_0f7a4_21 : decode cJ6_bitCount_0f7a4 21 = .ok (.iand, 1) := by decide +kernel
theorem dJ6_bitCount_0f7a4_22 : decode cJ6_bitCount_0f7a4 22 = .ok (.iadd, 1) := by decide +kernel
theorem dJ6_bitCount_0f7a4_23 : decode cJ6_bitCount_0f7a4 23 = .ok (.istore_n 0, 1) := by decide +kernel
theorem dJ6_bitCount_0f7a4_24 : decode cJ6_bitCount_0f7a4 24 = .ok (.iload_n 0, 1) := by decide +kernel
theorem dJ6_bitCount_0f7a4_25 : decode cJ6_bitCount_0f7a4 25 = .ok (.iload_n 0, 1) := by decide +kernel
theorem dJ6_bitCount_0f7a4_26 : decode cJ6_bitCount_0f7a4 26 = .ok (.iconst 4, 1) := by decide +kernel
theorem dJ6_bitCount_0f7a4_27 : decode cJ6_bitCount_0f7a4 27 = .ok (.iushr, 1) := by decide +kernel
theorem dJ6_bitCount_0f7a4_28 : decode cJ6_bitCount_0f7a4 28 = .ok (.iadd, 1) := by decide +kernel
theorem dJ6_bitCount_0f7a4_29 : decode cJ6_bitCount_0f7a4 29 = .ok (.ldc_w 267, 3) := by decide +kernel
theorem dJ6_bitCount_0f7a4_32 : decode cJ6_bitCount_0f7a4 32 = .ok (.iand, 1) := by decide +kernel
theorem dJ6_bitCount_0f7a4_33 : decode cJ6_bitCount_0f7a4 33 = .ok (.istore_n 0, 1) := by decide +kernel
theorem dJ6_bitCount_0f7a4_34 : decode cJ6_bitCount_0f7a4 34 = .ok (.iload_n 0, 1) := by decide +kernel
theorem dJ6_bitCount_0f7a4_35 : decode cJ6_bitCount_0f7a4 35 = .ok (.iload_n 0, 1) := by decide +kernel
theorem dJ6_bitCount_0f7a4_36 : decode cJ6_bitCount_0f7a4 36 = .ok (.bipush 8, 2) := by decide +kernel
theorem dJ6_bitCount_0f7a4_38 : decode cJ6_bitCount_0f7a4 38 = .ok (.iushr, 1) := by decide +kernel
theorem dJ6_bitCount_0f7a4_39 : decode cJ6_bitCount_0f7a4 39 = .ok (.iadd, 1) := by decide +kernel
theorem dJ6_bitCount_0f7a4_40 : decode cJ6_bitCount_0f7a4 40 = .ok (.istore_n 0, 1) := by decide +kernel
theorem dJ6_bitCount_0f7a4_41 : decode cJ6_bitCount_0f7a4 41 = .ok (.iload_n 0, 1) := by decide +kernel
theorem dJ6_bitCount_0f7a4_42 : decode cJ6_bitCount_0f7a4 42 = .ok (.iload_n 0, 1) := by decide +kernel
theorem dJ6_bitCount_0f7a4_43 : decode cJ6_bitCount_0f7a4 43 = .ok (.bipush 16, 2) := by decide +kernel
theorem dJ6_bitCount_0f7a4_45 : decode cJ6_bitCount_0f7a4 45 = .ok (.iushr, 1) := by decide +kernel
theorem dJ6_bitCount_0f7a4_46 : decode cJ6_bitCount_0f7a4 46 = .ok (.iadd, 1) := by decide +kernel
theorem dJ6_bitCount_0f7a4_47 : decode cJ6_bitCount_0f7a4 47 = .ok (.istore_n 0, 1) := by decide +kernel
theorem dJ6_bitCount_0f7a4_48 : decode cJ6_bitCount_0f7a4 48 = .ok (.iload_n 0, 1) := by decide +kernel
theorem dJ6_bitCount_0f7a4_49 : decode cJ6_bitCount_0f7a4 49 = .ok (.bipush 63, 2) := by decide +kernel
theorem dJ6_bitCount_0f7a4_51 : decode cJ6_bitCount_0f7a4 51 = .ok (.iand, 1) := by decide +kernel
theorem dJ6_bitCount_0f7a4_52 : decode cJ6_bitCount_0f7a4 52 = .ok (.ireturn, 1) := by decide +kernel
theorem dJ9_floorMod_7cf53_0 : decode cJ9_floorMod_7cf53 0 = .ok (.iload_n 0, 1) := by decide +kernel
theorem dJ9_floorMod_7cf53_1 : decode cJ9_floorMod_7cf53 1 = .ok (.iload_n 1, 1) := by decide +kernel
theorem dJ9_floorMod_7cf53_2 : decode cJ9_floorMod_7cf53 2 = .ok (.irem, 1) := by decide +kernel
theorem dJ9_floorMod_7cf53_3 : decode cJ9_floorMod_7cf53 3 = .ok (.istore_n 2, 1) := by decide +kernel
theorem dJ9_floorMod_7cf53_4 : decode cJ9_floorMod_7cf53 4 = .ok (.iload_n 0, 1) := by decide +kernel
theorem dJ9_floorMod_7cf53_5 : decode cJ9_floorMod_7cf53 5 = .ok (.iload_n 1, 1) := by decide +kernel
theorem dJ9_floorMod_7cf53_6 : decode cJ9_floorMod_7cf53 6 = .ok (.ixor, 1) := by decide +kernel
theorem dJ9_floorMod_7cf53_7 : decode cJ9_floorMod_7cf53 7 = .ok (.ifCond .ge 11, 3) := by decide +kernel
theorem dJ9_floorMod_7cf53_10 : decode cJ9_floorMod_7cf53 10 = .ok (.iload_n 2, 1) := by decide +kernel
theorem dJ9_floorMod_7cf53_11 : decode cJ9_floorMod_7cf53 11 = .ok (.ifCond .eq 7, 3) := by decide +kernel
theorem dJ9_floorMod_7cf53_14 : decode cJ9_floorMod_7cf53 14 = .ok (.iload_n 2, 1) := by decide +kernel
theorem dJ9_floorMod_7cf53_15 : decode cJ9_floorMod_7cf53 15 = .ok (.iload_n 1, 1) := by decide +kernel
theorem dJ9_floorMod_7cf53_16 : decode cJ9_floorMod_7cf53 16 = .ok (.iadd, 1) := by decide +kernel
theorem dJ9_floorMod_7cf53_17 : decode cJ9_floorMod_7cf53 17 = .ok (.ireturn, 1) := by decide +kernel
theorem dJ9_floorMod_7cf53_18 : decode cJ9_floorMod_7cf53 18 = .ok (.iload_n 2, 1) := by decide +kernel
theorem dJ9_floorMod_7cf53_19 : decode cJ9_floorMod_7cf53 19 = .ok (.ireturn, 1) := by decide +kernel
theorem dJ9_max_7cf53_0 : decode cJ9_max_7cf53 0 = .ok (.iload_n 0, 1) := by decide +kernel
theorem dJ9_max_7cf53_1 : decode cJ9_max_7cf53 1 = .ok (.iload_n 1, 1) := by decide +kernel
theorem dJ9_max_7cf53_2 : decode cJ9_max_7cf53 2 = .ok (.if_icmp .lt 7, 3) := by decide +kernel
theorem dJ9_max_7cf53_5 : decode cJ9_max_7cf53 5 = .ok (.iload_n 0, 1) := by decide +kernel
theorem dJ9_max_7cf53_6 : decode cJ9_max_7cf53 6 = .ok (.goto 4, 3) := by decide +kernel
theorem dJ9_max_7cf53_9 : decode cJ9_max_7cf53 9 = .ok (.iload_n 1, 1) := by decide +kernel
theorem dJ9_max_7cf53_10 : decode cJ9_max_7cf53 10 = .ok (.ireturn, 1) := by decide +kernel
theorem dJ9_max_f86c9_0 : decode cJ9_max_f86c9 0 = .ok (.lload_n 0, 1) := by decide +kernel
theorem dJ9_max_f86c9_1 : decode cJ9_max_f86c9 1 = .ok (.lload_n 2, 1) := by decide +kernel
theorem dJ9_max_f86c9_2 : decode cJ9_max_f86c9 2 = .ok (.lcmp, 1) := by decide +kernel
theorem dJ9_max_f86c9_3 : decode cJ9_max_f86c9 3 = .ok (.ifCond .lt 7, 3) := by decide +kernel
theorem dJ9_max_f86c9_6 : decode cJ9_max_f86c9 6 = .ok (.lload_n 0, 1) := by decide +kernel
theorem dJ9_max_f86c9_7 : decode cJ9_max_f86c9 7 = .ok (.goto 4, 3) := by decide +kernel
theorem dJ9_max_f86c9_10 : decode cJ9_max_f86c9 10 = .ok (.lload_n 2, 1) := by decide +kernel
theorem dJ9_max_f86c9_11 : decode cJ9_max_f86c9 11 = .ok (.lreturn, 1) := by decide +kernel
theorem dJ9_min_7cf53_0 : decode cJ9_min_7cf53 0 = .ok (.iload_n 0, 1) := by decide +kernel
theorem dJ9_min_7cf53_1 : decode cJ9_min_7cf53 1 = .ok (.iload_n 1, 1) := by decide +kernel
theorem dJ9_min_7cf53_2 : decode cJ9_min_7cf53 2 = .ok (.if_icmp .gt 7, 3) := by decide +kernel
theorem dJ9_min_7cf53_5 : decode cJ9_min_7cf53 5 = .ok (.iload_n 0, 1) := by decide +kernel
theorem dJ9_min_7cf53_6 : decode cJ9_min_7cf53 6 = .ok (.goto 4, 3) := by decide +kernel
theorem dJ9_min_7cf53_9 : decode cJ9_min_7cf53 9 = .ok (.iload_n 1, 1) := by decide +kernel
theorem dJ9_min_7cf53_10 : decode cJ9_min_7cf53 10 = .ok (.ireturn, 1) := by decide +kernel
theorem dJ0_length_8abf5_0 : decode cJ0_length_8abf5 0 = .ok (.aload_n 0, 1) := by decide +kernel
theorem dJ0_length_8abf5_1 : decode cJ0_length_8abf5 1 = .ok (.getfield 9, 3) := by decide +kernel
theorem dJ0_length_8abf5_4 : decode cJ0_length_8abf5 4 = .ok (.arraylength, 1) := by decide +kernel
theorem dJ0_length_8abf5_5 : decode cJ0_length_8abf5 5 = .ok (.aload_n 0, 1) := by decide +kernel
theorem dJ0_length_8abf5_6 : decode cJ0_length_8abf5 6 = .ok (.invokevirtual 335, 3) := by decide +kernel
theorem dJ0_length_8abf5_9 : decode cJ0_length_8abf5 9 = .ok (.ishr, 1) := by decide +kernel
theorem dJ0_length_8abf5_10 : decode cJ0_length_8abf5 10 = .ok (.ireturn, 1) := by decide +kernel
theorem dJ0_charAt_5068e_0 : decode cJ0_charAt_5068e 0 = .ok (.aload_n 0, 1) := by decide +kernel
theorem dJ0_charAt_5068e_1 : decode cJ0_charAt_5068e 1 = .ok (.invokevirtual 492, 3) := by decide +kernel
theorem dJ0_charAt_5068e_4 : decode cJ0_charAt_5068e 4 = .ok (.ifCond .eq 12, 3) := by decide +kernel
theorem dJ0_charAt_5068e_7 : decode cJ0_charAt_5068e 7 = .ok (.aload_n 0, 1) := by decide +kernel
theorem dJ0_charAt_5068e_8 : decode cJ0_charAt_5068e 8 = .ok (.getfield 9, 3) := by decide +kernel
theorem dJ0_charAt_5068e_11 : decode cJ0_charAt_5068e 11 = .ok (.iload_n 1, 1) := by decide +kernel
theorem dJ0_charAt_5068e_12 : decode cJ0_charAt_5068e 12 = .ok (.invokestatic 495, 3) := by decide +kernel
theorem dJ0_charAt_5068e_15 : decode cJ0_charAt_5068e 15 = .ok (.ireturn, 1) := by decide +kernel
theorem dJ0_charAt_5068e_16 : decode cJ0_charAt_5068e 16 = .ok (.aload_n 0, 1) := by decide +kernel
theorem dJ0_charAt_5068e_17 : decode cJ0_charAt_5068e 17 = .ok (.getfield 9, 3) := by decide +kernel
theorem dJ0_charAt_5068e_20 : decode cJ0_charAt_5068e 20 = .ok (.iload_n 1, 1) := by decide +kernel
theorem dJ0_charAt_5068e_21 : decode cJ0_charAt_5068e 21 = .ok (.invokestatic 498, 3) := by decide +kernel
theorem dJ0_charAt_5068e_24 : decode cJ0_charAt_5068e 24 = .ok (.ireturn, 1) := by decide +kernel
theorem dJ0_coder_7d493_0 : decode cJ0_coder_7d493 0 = .ok (.getstatic 38, 3) := by decide +kernel
theorem dJ0_coder_7d493_3 : decode cJ0_coder_7d493 3 = .ok (.ifCond .eq 10, 3) := by decide +kernel
theorem dJ0_coder_7d493_6 : decode cJ0_coder_7d493 6 = .ok (.aload_n 0, 1) := by decide +kernel
theorem dJ0_coder_7d493_7 : decode cJ0_coder_7d493 7 = .ok (.getfield 15, 3) := by decide +kernel
theorem dJ0_coder_7d493_10 : decode cJ0_coder_7d493 10 = .ok (.goto 4, 3) := by decide +kernel
theorem dJ0_coder_7d493_13 : decode cJ0_coder_7d493 13 = .ok (.iconst 1, 1) := by decide +kernel
theorem dJ0_coder_7d493_14 : decode cJ0_coder_7d493 14 = .ok (.ireturn, 1) := by decide +kernel
theorem dJ0_isLatin1_aae02_0 : decode cJ0_isLatin1_aae02 0 = .ok (.getstatic 38, 3) := by decide +kernel
theorem dJ0_isLatin1_aae02_3 : decode cJ0_isLatin1_aae02 3 = .ok (.ifCond .eq 14, 3) := by decide +kernel
theorem dJ0_isLatin1_aae02_6 : decode cJ0_isLatin1_aae02 6 = .ok (.aload_n 0, 1) := by decide +kernel
theorem dJ0_isLatin1_aae02_7 : decode cJ0_isLatin1_aae02 7 = .ok (.getfield 15, 3) := by decide +kernel
theorem dJ0_isLatin1_aae02_10 : decode cJ0_isLatin1_aae02 10 = .ok (.ifCond .ne 7, 3) := by decide +kernel
theorem dJ0_isLatin1_aae02_13 : decode cJ0_isLatin1_aae02 13 = .ok (.iconst 1, 1) := by decide +kernel
theorem dJ0_isLatin1_aae02_14 : decode cJ0_isLatin1_aae02 14 = .ok (.goto 4, 3) := by decide +kernel
theorem dJ0_isLatin1_aae02_17 : decode cJ0_isLatin1_aae02 17 = .ok (.iconst 0, 1) := by decide +kernel
theorem dJ0_isLatin1_aae02_18 : decode cJ0_isLatin1_aae02 18 = .ok (.ireturn, 1) := by decide +kernel
theorem dJ0_checkIndex_df160_0 : decode cJ0_checkIndex_df160 0 = .ok (.iload_n 0, 1) := by decide +kernel
theorem dJ0_checkIndex_df160_1 : decode cJ0_checkIndex_df160 1 = .ok (.iload_n 1, 1) := by decide +kernel
theorem dJ0_checkIndex_df160_2 : decode cJ0_checkIndex_df160 2 = .ok (.getstatic 1053, 3) := by decide +kernel
theorem dJ0_checkIndex_df160_5 : decode cJ0_checkIndex_df160 5 = .ok (.invokestatic 1059, 3) := by decide +kernel
theorem dJ0_checkIndex_df160_8 : decode cJ0_checkIndex_df160 8 = .ok (.pop, 1) := by decide +kernel
theorem dJ0_checkIndex_df160_9 : decode cJ0_checkIndex_df160 9 = .ok (.return_, 1) := by decide +kernel
theorem dJ1_charAt_3b067_0 : decode cJ1_charAt_3b067 0 = .ok (.iload_n 1, 1) := by decide +kernel
theorem dJ1_charAt_3b067_1 : decode cJ1_charAt_3b067 1 = .ok (.aload_n 0, 1) := by decide +kernel
theorem dJ1_charAt_3b067_2 : decode cJ1_charAt_3b067 2 = .ok (.arraylength, 1) := by decide +kernel
theorem dJ1_charAt_3b067_3 : decode cJ1_charAt_3b067 3 = .ok (.invokestatic 9, 3) := by decide +kernel
theorem dJ1_charAt_3b067_6 : decode cJ1_charAt_3b067 6 = .ok (.aload_n 0, 1) := by decide +kernel
theorem dJ1_charAt_3b067_7 : decode cJ1_charAt_3b067 7 = .ok (.iload_n 1, 1) := by decide +kernel
theorem dJ1_charAt_3b067_8 : decode cJ1_charAt_3b067 8 = .ok (.baload, 1) := by decide +kernel
theorem dJ1_charAt_3b067_9 : decode cJ1_charAt_3b067 9 = .ok (.sipush 255, 3) := by decide +kernel
theorem dJ1_charAt_3b067_12 : decode cJ1_charAt_3b067 12 = .ok (.iand, 1) := by decide +kernel
theorem dJ1_charAt_3b067_13 : decode cJ1_charAt_3b067 13 = .ok (.i2c, 1) := by decide +kernel
theorem dJ1_charAt_3b067_14 : decode cJ1_charAt_3b067 14 = .ok (.ireturn, 1) := by decide +kernel
theorem dJ2_getChar_3b067_0 : decode cJ2_getChar_3b067 0 = .ok (.getstatic 44, 3) := by decide +kernel
theorem dJ2_getChar_3b067_3 : decode cJ2_getChar_3b067 3 = .ok (.ifCond .ne 25, 3) := by decide +kernel
theorem dJ2_getChar_3b067_6 : decode cJ2_getChar_3b067 6 = .ok (.iload_n 1, 1) := by decide +kernel
theorem dJ2_getChar_3b067_7 : decode cJ2_getChar_3b067 7 = .ok (.ifCond .lt 11, 3) := by decide +kernel
theorem dJ2_getChar_3b067_10 : decode cJ2_getChar_3b067 10 = .ok (.iload_n 1, 1) := by decide +kernel
theorem dJ2_getChar_3b067_11 : decode cJ2_getChar_3b067 11 = .ok (.aload_n 0, 1) := by decide +kernel
theorem dJ2_getChar_3b067_12 : decode cJ2_getChar_3b067 12 = .ok (.invokestatic 48, 3) := by decide +kernel
theorem dJ2_getChar_3b067_15 : decode cJ2_getChar_3b067 15 = .ok (.if_icmp .lt 13, 3) := by decide +kernel
theorem dJ2_getChar_3b067_18 : decode cJ2_getChar_3b067 18 = .ok (.new 52, 3) := by decide +kernel
theorem dJ2_getChar_3b067_21 : decode cJ2_getChar_3b067 21 = .ok (.dup, 1) := by decide +kernel
theorem dJ2_getChar_3b067_22 : decode cJ2_getChar_3b067 22 = .ok (.ldc 54, 2) := by decide +kernel
theorem dJ2_getChar_3b067_24 : decode cJ2_getChar_3b067 24 = .ok (.invokespecial 56, 3) := by decide +kernel
theorem dJ2_getChar_3b067_27 : decode cJ2_getChar_3b067 27 = .ok (.athrow, 1) := by decide +kernel
theorem dJ2_getChar_3b067_28 : decode cJ2_getChar_3b067 28 = .ok (.iload_n 1, 1) := by decide +kernel
theorem dJ2_getChar_3b067_29 : decode cJ2_getChar_3b067 29 = .ok (.iconst 1, 1) := by decide +kernel
theorem dJ2_getChar_3b067_30 : decode cJ2_getChar_3b067 30 = .ok (.ishl, 1) := by decide +kernel
theorem dJ2_getChar_3b067_31 : decode cJ2_getChar_3b067 31 = .ok (.istore_n 1, 1) := by decide +kernel
theorem dJ2_getChar_3b067_32 : decode cJ2_getChar_3b067 32 = .ok (.aload_n 0, 1) := by decide +kernel
theorem dJ2_getChar_3b067_33 : decode cJ2_getChar_3b067 33 = .ok (.iload_n 1, 1) := by decide +kernel
theorem dJ2_getChar_3b067_34 : decode cJ2_getChar_3b067 34 = .ok (.iinc 1 1, 3) := by decide +kernel
theorem dJ2_getChar_3b067_37 : decode cJ2_getChar_3b067 37 = .ok (.baload, 1) := by decide +kernel
theorem dJ2_getChar_3b067_38 : decode cJ2_getChar_3b067 38 = .ok (.sipush 255, 3) := by decide +kernel
theorem dJ2_getChar_3b067_41 : decode cJ2_getChar_3b067 41 = .ok (.iand, 1) := by decide +kernel
theorem dJ2_getChar_3b067_42 : decode cJ2_getChar_3b067 42 = .ok (.getstatic 59, 3) := by decide +kernel
theorem dJ2_getChar_3b067_45 : decode cJ2_getChar_3b067 45 = .ok (.ishl, 1) := by decide +kernel
theorem dJ2_getChar_3b067_46 : decode cJ2_getChar_3b067 46 = .ok (.aload_n 0, 1) := by decide +kernel
theorem dJ2_getChar_3b067_47 : decode cJ2_getChar_3b067 47 = .ok (.iload_n 1, 1) := by decide +kernel
theorem dJ2_getChar_3b067_48 : decode cJ2_getChar_3b067 48 = .ok (.baload, 1) := by decide +kernel
theorem dJ2_getChar_3b067_49 : decode cJ2_getChar_3b067 49 = .ok (.sipush 255, 3) := by decide +kernel
theorem dJ2_getChar_3b067_52 : decode cJ2_getChar_3b067 52 = .ok (.iand, 1) := by decide +kernel
theorem dJ2_getChar_3b067_53 : decode cJ2_getChar_3b067 53 = .ok (.getstatic 63, 3) := by decide +kernel
theorem dJ2_getChar_3b067_56 : decode cJ2_getChar_3b067 56 = .ok (.ishl, 1) := by decide +kernel
theorem dJ2_getChar_3b067_57 : decode cJ2_getChar_3b067 57 = .ok (.ior, 1) := by decide +kernel
theorem dJ2_getChar_3b067_58 : decode cJ2_getChar_3b067 58 = .ok (.i2c, 1) := by decide +kernel
theorem dJ2_getChar_3b067_59 : decode cJ2_getChar_3b067 59 = .ok (.ireturn, 1) := by decide +kernel
theorem dJ2_length_9d52b_0 : decode cJ2_length_9d52b 0 = .ok (.aload_n 0, 1) := by decide +kernel
theorem dJ2_length_9d52b_1 : decode cJ2_length_9d52b 1 = .ok (.arraylength, 1) := by decide +kernel
theorem dJ2_length_9d52b_2 : decode cJ2_length_9d52b 2 = .ok (.iconst 1, 1) := by decide +kernel
theorem dJ2_length_9d52b_3 : decode cJ2_length_9d52b 3 = .ok (.ishr, 1) := by decide +kernel
theorem dJ2_length_9d52b_4 : decode cJ2_length_9d52b 4 = .ok (.ireturn, 1) := by decide +kernel
theorem dJ2_charAt_3b067_0 : decode cJ2_charAt_3b067 0 = .ok (.iload_n 1, 1) := by decide +kernel
theorem dJ2_charAt_3b067_1 : decode cJ2_charAt_3b067 1 = .ok (.aload_n 0, 1) := by decide +kernel
theorem dJ2_charAt_3b067_2 : decode cJ2_charAt_3b067 2 = .ok (.invokestatic 67, 3) := by decide +kernel
theorem dJ2_charAt_3b067_5 : decode cJ2_charAt_3b067 5 = .ok (.aload_n 0, 1) := by decide +kernel
theorem dJ2_charAt_3b067_6 : decode cJ2_charAt_3b067 6 = .ok (.iload_n 1, 1) := by decide +kernel
theorem dJ2_charAt_3b067_7 : decode cJ2_charAt_3b067 7 = .ok (.invokestatic 71, 3) := by decide +kernel
theorem dJ2_charAt_3b067_10 : decode cJ2_charAt_3b067 10 = .ok (.ireturn, 1) := by decide +kernel
theorem dJ2_checkIndex_2214a_0 : decode cJ2_checkIndex_2214a 0 = .ok (.iload_n 0, 1) := by decide +kernel
theorem dJ2_checkIndex_2214a_1 : decode cJ2_checkIndex_2214a 1 = .ok (.aload_n 1, 1) := by decide +kernel
theorem dJ2_checkIndex_2214a_2 : decode cJ2_checkIndex_2214a 2 = .ok (.invokestatic 48, 3) := by decide +kernel
theorem dJ2_checkIndex_2214a_5 : decode cJ2_checkIndex_2214a 5 = .ok (.invokestatic 414, 3) := by decide +kernel
theorem dJ2_checkIndex_2214a_8 : decode cJ2_checkIndex_2214a 8 = .ok (.return_, 1) := by decide +kernel
theorem dJ7_fill_53178_0 : decode cJ7_fill_53178 0 = .ok (.iconst 0, 1) := by decide +kernel
theorem dJ7_fill_53178_1 : decode cJ7_fill_53178 1 = .ok (.istore_n 2, 1) := by decide +kernel
theorem dJ7_fill_53178_2 : decode cJ7_fill_53178 2 = .ok (.aload_n 0, 1) := by decide +kernel
theorem dJ7_fill_53178_3 : decode cJ7_fill_53178 3 = .ok (.arraylength, 1) := by decide +kernel
theorem dJ7_fill_53178_4 : decode cJ7_fill_53178 4 = .ok (.istore_n 3, 1) := by decide +kernel
theorem dJ7_fill_53178_5 : decode cJ7_fill_53178 5 = .ok (.iload_n 2, 1) := by decide +kernel
theorem dJ7_fill_53178_6 : decode cJ7_fill_53178 6 = .ok (.iload_n 3, 1) := by decide +kernel
theorem dJ7_fill_53178_7 : decode cJ7_fill_53178 7 = .ok (.if_icmp .ge 13, 3) := by decide +kernel
theorem dJ7_fill_53178_10 : decode cJ7_fill_53178 10 = .ok (.aload_n 0, 1) := by decide +kernel
theorem dJ7_fill_53178_11 : decode cJ7_fill_53178 11 = .ok (.iload_n 2, 1) := by decide +kernel
theorem dJ7_fill_53178_12 : decode cJ7_fill_53178 12 = .ok (.iload_n 1, 1) := by decide +kernel
theorem dJ7_fill_53178_13 : decode cJ7_fill_53178 13 = .ok (.iastore, 1) := by decide +kernel
theorem dJ7_fill_53178_14 : decode cJ7_fill_53178 14 = .ok (.iinc 2 1, 3) := by decide +kernel
theorem dJ7_fill_53178_17 : decode cJ7_fill_53178 17 = .ok (.goto (-12), 3) := by decide +kernel
theorem dJ7_fill_53178_20 : decode cJ7_fill_53178 20 = .ok (.return_, 1) := by decide +kernel
theorem dJ3_checkIndex_8e157_0 : decode cJ3_checkIndex_8e157 0 = .ok (.iload_n 0, 1) := by decide +kernel
theorem dJ3_checkIndex_8e157_1 : decode cJ3_checkIndex_8e157 1 = .ok (.ifCond .lt 8, 3) := by decide +kernel
theorem dJ3_checkIndex_8e157_4 : decode cJ3_checkIndex_8e157 4 = .ok (.iload_n 0, 1) := by decide +kernel
theorem dJ3_checkIndex_8e157_5 : decode cJ3_checkIndex_8e157 5 = .ok (.iload_n 1, 1) := by decide +kernel
theorem dJ3_checkIndex_8e157_6 : decode cJ3_checkIndex_8e157 6 = .ok (.if_icmp .lt 10, 3) := by decide +kernel
theorem dJ3_checkIndex_8e157_9 : decode cJ3_checkIndex_8e157 9 = .ok (.aload_n 2, 1) := by decide +kernel
theorem dJ3_checkIndex_8e157_10 : decode cJ3_checkIndex_8e157 10 = .ok (.iload_n 0, 1) := by decide +kernel
theorem dJ3_checkIndex_8e157_11 : decode cJ3_checkIndex_8e157 11 = .ok (.iload_n 1, 1) := by decide +kernel
theorem dJ3_checkIndex_8e157_12 : decode cJ3_checkIndex_8e157 12 = .ok (.invokestatic 95, 3) := by decide +kernel
theorem dJ3_checkIndex_8e157_15 : decode cJ3_checkIndex_8e157 15 = .ok (.athrow, 1) := by decide +kernel
theorem dJ3_checkIndex_8e157_16 : decode cJ3_checkIndex_8e157 16 = .ok (.iload_n 0, 1) := by decide +kernel
theorem dJ3_checkIndex_8e157_17 : decode cJ3_checkIndex_8e157 17 = .ok (.ireturn, 1) := by decide +kernel
theorem dL_promenade_0 : decode cL_promenade 0 = .ok (.aload_n 1, 1) := by decide +kernel
theorem dL_promenade_1 : decode cL_promenade 1 = .ok (.iconst 0, 1) := by decide +kernel
theorem dL_promenade_2 : decode cL_promenade 2 = .ok (.aload_n 0, 1) := by decide +kernel
theorem dL_promenade_3 : decode cL_promenade 3 = .ok (.invokevirtual 7, 3) := by decide +kernel
theorem dL_promenade_6 : decode cL_promenade 6 = .ok (.i2l, 1) := by decide +kernel
theorem dL_promenade_7 : decode cL_promenade 7 = .ok (.lastore, 1) := by decide +kernel
theorem dL_promenade_8 : decode cL_promenade 8 = .ok (.goto 9, 3) := by decide +kernel
theorem dL_promenade_11 : decode cL_promenade 11 = .ok (.astore_n 2, 1) := by decide +kernel
theorem dL_promenade_12 : decode cL_promenade 12 = .ok (.iconst 1, 1) := by decide +kernel
theorem dL_promenade_13 : decode cL_promenade 13 = .ok (.ireturn, 1) := by decide +kernel
theorem dL_promenade_14 : decode cL_promenade 14 = .ok (.astore_n 2, 1) := by decide +kernel
theorem dL_promenade_15 : decode cL_promenade 15 = .ok (.iconst 2, 1) := by decide +kernel
theorem dL_promenade_16 : decode cL_promenade 16 = .ok (.ireturn, 1) := by decide +kernel
theorem dL_promenade_17 : decode cL_promenade 17 = .ok (.iconst 0, 1) := by decide +kernel
theorem dL_promenade_18 : decode cL_promenade 18 = .ok (.ireturn, 1) := by decide +kernel
theorem dL_law_0 : decode cL_law 0 = .ok (.aload_n 1, 1) := by decide +kernel
theorem dL_law_1 : decode cL_law 1 = .ok (.iconst 0, 1) := by decide +kernel
theorem dL_law_2 : decode cL_law 2 = .ok (.aload_n 0, 1) := by decide +kernel
theorem dL_law_3 : decode cL_law 3 = .ok (.invokevirtual 17, 3) := by decide +kernel
theorem dL_law_6 : decode cL_law 6 = .ok (.i2l, 1) := by decide +kernel
theorem dL_law_7 : decode cL_law 7 = .ok (.lastore, 1) := by decide +kernel
theorem dL_law_8 : decode cL_law 8 = .ok (.goto 6, 3) := by decide +kernel
theorem dL_law_11 : decode cL_law 11 = .ok (.astore_n 2, 1) := by decide +kernel
theorem dL_law_12 : decode cL_law 12 = .ok (.iconst 1, 1) := by decide +kernel
theorem dL_law_13 : decode cL_law 13 = .ok (.ireturn, 1) := by decide +kernel
theorem dL_law_14 : decode cL_law 14 = .ok (.iconst 0, 1) := by decide +kernel
theorem dL_law_15 : decode cL_law 15 = .ok (.ireturn, 1) := by decide +kernel
theorem dL_walker_0 : decode cL_walker 0 = .ok (.aload_n 3, 1) := by decide +kernel
theorem dL_walker_1 : decode cL_walker 1 = .ok (.iconst 0, 1) := by decide +kernel
theorem dL_walker_2 : decode cL_walker 2 = .ok (.aload_n 0, 1) := by decide +kernel
theorem dL_walker_3 : decode cL_walker 3 = .ok (.iload_n 1, 1) := by decide +kernel
theorem dL_walker_4 : decode cL_walker 4 = .ok (.iload_n 2, 1) := by decide +kernel
theorem dL_walker_5 : decode cL_walker 5 = .ok (.invokevirtual 20, 3) := by decide +kernel
theorem dL_walker_8 : decode cL_walker 8 = .ok (.i2l, 1) := by decide +kernel
theorem dL_walker_9 : decode cL_walker 9 = .ok (.lastore, 1) := by decide +kernel
theorem dL_walker_10 : decode cL_walker 10 = .ok (.goto 11, 3) := by decide +kernel
theorem dL_walker_13 : decode cL_walker 13 = .ok (.astore 4, 2) := by decide +kernel
theorem dL_walker_15 : decode cL_walker 15 = .ok (.iconst 1, 1) := by decide +kernel
theorem dL_walker_16 : decode cL_walker 16 = .ok (.ireturn, 1) := by decide +kernel
theorem dL_walker_17 : decode cL_walker 17 = .ok (.astore 4, 2) := by decide +kernel
theorem dL_walker_19 : decode cL_walker 19 = .ok (.iconst 2, 1) := by decide +kernel
theorem dL_walker_20 : decode cL_walker 20 = .ok (.ireturn, 1) := by decide +kernel
theorem dL_walker_21 : decode cL_walker 21 = .ok (.iconst 0, 1) := by decide +kernel
theorem dL_walker_22 : decode cL_walker 22 = .ok (.ireturn, 1) := by decide +kernel
theorem dL_shelter_0 : decode cL_shelter 0 = .ok (.aload_n 3, 1) := by decide +kernel
theorem dL_shelter_1 : decode cL_shelter 1 = .ok (.iconst 0, 1) := by decide +kernel
theorem dL_shelter_2 : decode cL_shelter 2 = .ok (.aload_n 0, 1) := by decide +kernel
theorem dL_shelter_3 : decode cL_shelter 3 = .ok (.iload_n 1, 1) := by decide +kernel
theorem dL_shelter_4 : decode cL_shelter 4 = .ok (.iload_n 2, 1) := by decide +kernel
theorem dL_shelter_5 : decode cL_shelter 5 = .ok (.invokevirtual 28, 3) := by decide +kernel
theorem dL_shelter_8 : decode cL_shelter 8 = .ok (.i2l, 1) := by decide +kernel
theorem dL_shelter_9 : decode cL_shelter 9 = .ok (.lastore, 1) := by decide +kernel
theorem dL_shelter_10 : decode cL_shelter 10 = .ok (.goto 11, 3) := by decide +kernel
theorem dL_shelter_13 : decode cL_shelter 13 = .ok (.astore 4, 2) := by decide +kernel
theorem dL_shelter_15 : decode cL_shelter 15 = .ok (.iconst 1, 1) := by decide +kernel
theorem dL_shelter_16 : decode cL_shelter 16 = .ok (.ireturn, 1) := by decide +kernel
theorem dL_shelter_17 : decode cL_shelter 17 = .ok (.astore 4, 2) := by decide +kernel
theorem dL_shelter_19 : decode cL_shelter 19 = .ok (.iconst 2, 1) := by decide +kernel
theorem dL_shelter_20 : decode cL_shelter 20 = .ok (.ireturn, 1) := by decide +kernel
theorem dL_shelter_21 : decode cL_shelter 21 = .ok (.iconst 0, 1) := by decide +kernel
theorem dL_shelter_22 : decode cL_shelter 22 = .ok (.ireturn, 1) := by decide +kernel
theorem dL_gap_0 : decode cL_gap 0 = .ok (.aload_n 3, 1) := by decide +kernel
theorem dL_gap_1 : decode cL_gap 1 = .ok (.iconst 0, 1) := by decide +kernel
theorem dL_gap_2 : decode cL_gap 2 = .ok (.aload_n 0, 1) := by decide +kernel
theorem dL_gap_3 : decode cL_gap 3 = .ok (.iload_n 1, 1) := by decide +kernel
theorem dL_gap_4 : decode cL_gap 4 = .ok (.iload_n 2, 1) := by decide +kernel
theorem dL_gap_5 : decode cL_gap 5 = .ok (.invokevirtual 31, 3) := by decide +kernel
theorem dL_gap_8 : decode cL_gap 8 = .ok (.i2l, 1) := by decide +kernel
theorem dL_gap_9 : decode cL_gap 9 = .ok (.lastore, 1) := by decide +kernel
theorem dL_gap_10 : decode cL_gap 10 = .ok (.goto 7, 3) := by decide +kernel
theorem dL_gap_13 : decode cL_gap 13 = .ok (.astore 4, 2) := by decide +kernel
theorem dL_gap_15 : decode cL_gap 15 = .ok (.iconst 1, 1) := by decide +kernel
theorem dL_gap_16 : decode cL_gap 16 = .ok (.ireturn, 1) := by decide +kernel
theorem dL_gap_17 : decode cL_gap 17 = .ok (.iconst 0, 1) := by decide +kernel
theorem dL_gap_18 : decode cL_gap 18 = .ok (.ireturn, 1) := by decide +kernel
theorem dL_hours_0 : decode cL_hours 0 = .ok (.aload_n 2, 1) := by decide +kernel
theorem dL_hours_1 : decode cL_hours 1 = .ok (.iconst 0, 1) := by decide +kernel
theorem dL_hours_2 : decode cL_hours 2 = .ok (.aload_n 0, 1) := by decide +kernel
theorem dL_hours_3 : decode cL_hours 3 = .ok (.iload_n 1, 1) := by decide +kernel
theorem dL_hours_4 : decode cL_hours 4 = .ok (.invokevirtual 34, 3) := by decide +kernel
theorem dL_hours_7 : decode cL_hours 7 = .ok (.i2l, 1) := by decide +kernel
theorem dL_hours_8 : decode cL_hours 8 = .ok (.lastore, 1) := by decide +kernel
theorem dL_hours_9 : decode cL_hours 9 = .ok (.goto 6, 3) := by decide +kernel
theorem dL_hours_12 : decode cL_hours 12 = .ok (.astore_n 3, 1) := by decide +kernel
theorem dL_hours_13 : decode cL_hours 13 = .ok (.iconst 1, 1) := by decide +kernel
theorem dL_hours_14 : decode cL_hours 14 = .ok (.ireturn, 1) := by decide +kernel
theorem dL_hours_15 : decode cL_hours 15 = .ok (.iconst 0, 1) := by decide +kernel
theorem dL_hours_16 : decode cL_hours 16 = .ok (.ireturn, 1) := by decide +kernel
theorem dL_out_0 : decode cL_out 0 = .ok (.aload_n 2, 1) := by decide +kernel
theorem dL_out_1 : decode cL_out 1 = .ok (.iconst 0, 1) := by decide +kernel
theorem dL_out_2 : decode cL_out 2 = .ok (.aload_n 0, 1) := by decide +kernel
theorem dL_out_3 : decode cL_out 3 = .ok (.iload_n 1, 1) := by decide +kernel
theorem dL_out_4 : decode cL_out 4 = .ok (.invokevirtual 38, 3) := by decide +kernel
theorem dL_out_7 : decode cL_out 7 = .ok (.i2l, 1) := by decide +kernel
theorem dL_out_8 : decode cL_out 8 = .ok (.lastore, 1) := by decide +kernel
theorem dL_out_9 : decode cL_out 9 = .ok (.goto 9, 3) := by decide +kernel
theorem dL_out_12 : decode cL_out 12 = .ok (.astore_n 3, 1) := by decide +kernel
theorem dL_out_13 : decode cL_out 13 = .ok (.iconst 1, 1) := by decide +kernel
theorem dL_out_14 : decode cL_out 14 = .ok (.ireturn, 1) := by decide +kernel
theorem dL_out_15 : decode cL_out 15 = .ok (.astore_n 3, 1) := by decide +kernel
theorem dL_out_16 : decode cL_out 16 = .ok (.iconst 2, 1) := by decide +kernel
theorem dL_out_17 : decode cL_out 17 = .ok (.ireturn, 1) := by decide +kernel
theorem dL_out_18 : decode cL_out 18 = .ok (.iconst 0, 1) := by decide +kernel
theorem dL_out_19 : decode cL_out 19 = .ok (.ireturn, 1) := by decide +kernel
theorem dL_pace_0 : decode cL_pace 0 = .ok (.aload_n 3, 1) := by decide +kernel
theorem dL_pace_1 : decode cL_pace 1 = .ok (.iconst 0, 1) := by decide +kernel
theorem dL_pace_2 : decode cL_pace 2 = .ok (.aload_n 0, 1) := by decide +kernel
theorem dL_pace_3 : decode cL_pace 3 = .ok (.iload_n 1, 1) := by decide +kernel
theorem dL_pace_4 : decode cL_pace 4 = .ok (.iload_n 2, 1) := by decide +kernel
theorem dL_pace_5 : decode cL_pace 5 = .ok (.invokevirtual 43, 3) := by decide +kernel
theorem dL_pace_8 : decode cL_pace 8 = .ok (.i2l, 1) := by decide +kernel
theorem dL_pace_9 : decode cL_pace 9 = .ok (.lastore, 1) := by decide +kernel
theorem dL_pace_10 : decode cL_pace 10 = .ok (.goto 11, 3) := by decide +kernel
theorem dL_pace_13 : decode cL_pace 13 = .ok (.astore 4, 2) := by decide +kernel
theorem dL_pace_15 : decode cL_pace 15 = .ok (.iconst 1, 1) := by decide +kernel
theorem dL_pace_16 : decode cL_pace 16 = .ok (.ireturn, 1) := by decide +kernel
theorem dL_pace_17 : decode cL_pace 17 = .ok (.astore 4, 2) := by decide +kernel
theorem dL_pace_19 : decode cL_pace 19 = .ok (.iconst 2, 1) := by decide +kernel
theorem dL_pace_20 : decode cL_pace 20 = .ok (.ireturn, 1) := by decide +kernel
theorem dL_pace_21 : decode cL_pace 21 = .ok (.iconst 0, 1) := by decide +kernel
theorem dL_pace_22 : decode cL_pace 22 = .ok (.ireturn, 1) := by decide +kernel
theorem dL_shun_0 : decode cL_shun 0 = .ok (.aload 4, 2) := by decide +kernel
theorem dL_shun_2 : decode cL_shun 2 = .ok (.iconst 0, 1) := by decide +kernel
theorem dL_shun_3 : decode cL_shun 3 = .ok (.aload_n 0, 1) := by decide +kernel
theorem dL_shun_4 : decode cL_shun 4 = .ok (.iload_n 1, 1) := by decide +kernel
theorem dL_shun_5 : decode cL_shun 5 = .ok (.iload_n 2, 1) := by decide +kernel
theorem dL_shun_6 : decode cL_shun 6 = .ok (.iload_n 3, 1) := by decide +kernel
theorem dL_shun_7 : decode cL_shun 7 = .ok (.invokevirtual 46, 3) := by decide +kernel
theorem dL_shun_10 : decode cL_shun 10 = .ok (.ifCond .eq 7, 3) := by decide +kernel
theorem dL_shun_13 : decode cL_shun 13 = .ok (.lconst 1, 1) := by decide +kernel
theorem dL_shun_14 : decode cL_shun 14 = .ok (.goto 4, 3) := by decide +kernel
theorem dL_shun_17 : decode cL_shun 17 = .ok (.lconst 0, 1) := by decide +kernel
theorem dL_shun_18 : decode cL_shun 18 = .ok (.lastore, 1) := by decide +kernel
theorem dL_shun_19 : decode cL_shun 19 = .ok (.goto 11, 3) := by decide +kernel
theorem dL_shun_22 : decode cL_shun 22 = .ok (.astore 5, 2) := by decide +kernel
theorem dL_shun_24 : decode cL_shun 24 = .ok (.iconst 1, 1) := by decide +kernel
theorem dL_shun_25 : decode cL_shun 25 = .ok (.ireturn, 1) := by decide +kernel
theorem dL_shun_26 : decode cL_shun 26 = .ok (.astore 5, 2) := by decide +kernel
theorem dL_shun_28 : decode cL_shun 28 = .ok (.iconst 2, 1) := by decide +kernel
theorem dL_shun_29 : decode cL_shun 29 = .ok (.ireturn, 1) := by decide +kernel
theorem dL_shun_30 : decode cL_shun 30 = .ok (.iconst 0, 1) := by decide +kernel
theorem dL_shun_31 : decode cL_shun 31 = .ok (.ireturn, 1) := by decide +kernel
theorem dL_mourn_0 : decode cL_mourn 0 = .ok (.aload_n 3, 1) := by decide +kernel
theorem dL_mourn_1 : decode cL_mourn 1 = .ok (.iconst 0, 1) := by decide +kernel
theorem dL_mourn_2 : decode cL_mourn 2 = .ok (.aload_n 0, 1) := by decide +kernel
theorem dL_mourn_3 : decode cL_mourn 3 = .ok (.iload_n 1, 1) := by decide +kernel
theorem dL_mourn_4 : decode cL_mourn 4 = .ok (.iload_n 2, 1) := by decide +kernel
theorem dL_mourn_5 : decode cL_mourn 5 = .ok (.invokevirtual 50, 3) := by decide +kernel
theorem dL_mourn_8 : decode cL_mourn 8 = .ok (.ifCond .eq 7, 3) := by decide +kernel
theorem dL_mourn_11 : decode cL_mourn 11 = .ok (.lconst 1, 1) := by decide +kernel
theorem dL_mourn_12 : decode cL_mourn 12 = .ok (.goto 4, 3) := by decide +kernel
theorem dL_mourn_15 : decode cL_mourn 15 = .ok (.lconst 0, 1) := by decide +kernel
theorem dL_mourn_16 : decode cL_mourn 16 = .ok (.lastore, 1) := by decide +kernel
theorem dL_mourn_17 : decode cL_mourn 17 = .ok (.goto 7, 3) := by decide +kernel
theorem dL_mourn_20 : decode cL_mourn 20 = .ok (.astore 4, 2) := by decide +kernel
theorem dL_mourn_22 : decode cL_mourn 22 = .ok (.iconst 1, 1) := by decide +kernel
theorem dL_mourn_23 : decode cL_mourn 23 = .ok (.ireturn, 1) := by decide +kernel
theorem dL_mourn_24 : decode cL_mourn 24 = .ok (.iconst 0, 1) := by decide +kernel
theorem dL_mourn_25 : decode cL_mourn 25 = .ok (.ireturn, 1) := by decide +kernel
theorem dL_move_0 : decode cL_move 0 = .ok (.aload_n 3, 1) := by decide +kernel
theorem dL_move_1 : decode cL_move 1 = .ok (.iconst 0, 1) := by decide +kernel
theorem dL_move_2 : decode cL_move 2 = .ok (.aload_n 0, 1) := by decide +kernel
theorem dL_move_3 : decode cL_move 3 = .ok (.iload_n 1, 1) := by decide +kernel
theorem dL_move_4 : decode cL_move 4 = .ok (.iload_n 2, 1) := by decide +kernel
theorem dL_move_5 : decode cL_move 5 = .ok (.invokevirtual 54, 3) := by decide +kernel
theorem dL_move_8 : decode cL_move 8 = .ok (.i2l, 1) := by decide +kernel
theorem dL_move_9 : decode cL_move 9 = .ok (.lastore, 1) := by decide +kernel
theorem dL_move_10 : decode cL_move 10 = .ok (.goto 7, 3) := by decide +kernel
theorem dL_move_13 : decode cL_move 13 = .ok (.astore 4, 2) := by decide +kernel
theorem dL_move_15 : decode cL_move 15 = .ok (.iconst 1, 1) := by decide +kernel
theorem dL_move_16 : decode cL_move 16 = .ok (.ireturn, 1) := by decide +kernel
theorem dL_move_17 : decode cL_move 17 = .ok (.iconst 0, 1) := by decide +kernel
theorem dL_move_18 : decode cL_move 18 = .ok (.ireturn, 1) := by decide +kernel
theorem dL_lad_0 : decode cL_lad 0 = .ok (.aload_n 2, 1) := by decide +kernel
theorem dL_lad_1 : decode cL_lad 1 = .ok (.iconst 0, 1) := by decide +kernel
theorem dL_lad_2 : decode cL_lad 2 = .ok (.aload_n 0, 1) := by decide +kernel
theorem dL_lad_3 : decode cL_lad 3 = .ok (.iload_n 1, 1) := by decide +kernel
theorem dL_lad_4 : decode cL_lad 4 = .ok (.invokevirtual 57, 3) := by decide +kernel
theorem dL_lad_7 : decode cL_lad 7 = .ok (.i2l, 1) := by decide +kernel
theorem dL_lad_8 : decode cL_lad 8 = .ok (.lastore, 1) := by decide +kernel
theorem dL_lad_9 : decode cL_lad 9 = .ok (.goto 6, 3) := by decide +kernel
theorem dL_lad_12 : decode cL_lad 12 = .ok (.astore_n 3, 1) := by decide +kernel
theorem dL_lad_13 : decode cL_lad 13 = .ok (.iconst 1, 1) := by decide +kernel
theorem dL_lad_14 : decode cL_lad 14 = .ok (.ireturn, 1) := by decide +kernel
theorem dL_lad_15 : decode cL_lad 15 = .ok (.iconst 0, 1) := by decide +kernel
theorem dL_lad_16 : decode cL_lad 16 = .ok (.ireturn, 1) := by decide +kernel
theorem dL_where_0 : decode cL_where 0 = .ok (.aload_n 3, 1) := by decide +kernel
theorem dL_where_1 : decode cL_where 1 = .ok (.iconst 0, 1) := by decide +kernel
theorem dL_where_2 : decode cL_where 2 = .ok (.aload_n 0, 1) := by decide +kernel
theorem dL_where_3 : decode cL_where 3 = .ok (.iload_n 1, 1) := by decide +kernel
theorem dL_where_4 : decode cL_where 4 = .ok (.iload_n 2, 1) := by decide +kernel
theorem dL_where_5 : decode cL_where 5 = .ok (.invokevirtual 60, 3) := by decide +kernel
theorem dL_where_8 : decode cL_where 8 = .ok (.i2l, 1) := by decide +kernel
theorem dL_where_9 : decode cL_where 9 = .ok (.lastore, 1) := by decide +kernel
theorem dL_where_10 : decode cL_where 10 = .ok (.goto 11, 3) := by decide +kernel
theorem dL_where_13 : decode cL_where 13 = .ok (.astore 4, 2) := by decide +kernel
theorem dL_where_15 : decode cL_where 15 = .ok (.iconst 1, 1) := by decide +kernel
theorem dL_where_16 : decode cL_where 16 = .ok (.ireturn, 1) := by decide +kernel
theorem dL_where_17 : decode cL_where 17 = .ok (.astore 4, 2) := by decide +kernel
theorem dL_where_19 : decode cL_where 19 = .ok (.iconst 2, 1) := by decide +kernel
theorem dL_where_20 : decode cL_where 20 = .ok (.ireturn, 1) := by decide +kernel
theorem dL_where_21 : decode cL_where 21 = .ok (.iconst 0, 1) := by decide +kernel
theorem dL_where_22 : decode cL_where 22 = .ok (.ireturn, 1) := by decide +kernel
theorem dL_up_0 : decode cL_up 0 = .ok (.aload_n 3, 1) := by decide +kernel
theorem dL_up_1 : decode cL_up 1 = .ok (.iconst 0, 1) := by decide +kernel
theorem dL_up_2 : decode cL_up 2 = .ok (.aload_n 0, 1) := by decide +kernel
theorem dL_up_3 : decode cL_up 3 = .ok (.iload_n 1, 1) := by decide +kernel
theorem dL_up_4 : decode cL_up 4 = .ok (.iload_n 2, 1) := by decide +kernel
theorem dL_up_5 : decode cL_up 5 = .ok (.invokevirtual 63, 3) := by decide +kernel
theorem dL_up_8 : decode cL_up 8 = .ok (.i2l, 1) := by decide +kernel
theorem dL_up_9 : decode cL_up 9 = .ok (.lastore, 1) := by decide +kernel
theorem dL_up_10 : decode cL_up 10 = .ok (.goto 11, 3) := by decide +kernel
theorem dL_up_13 : decode cL_up 13 = .ok (.astore 4, 2) := by decide +kernel
theorem dL_up_15 : decode cL_up 15 = .ok (.iconst 1, 1) := by decide +kernel
theorem dL_up_16 : decode cL_up 16 = .ok (.ireturn, 1) := by decide +kernel
theorem dL_up_17 : decode cL_up 17 = .ok (.astore 4, 2) := by decide +kernel
theorem dL_up_19 : decode cL_up 19 = .ok (.iconst 2, 1) := by decide +kernel
theorem dL_up_20 : decode cL_up 20 = .ok (.ireturn, 1) := by decide +kernel
theorem dL_up_21 : decode cL_up 21 = .ok (.iconst 0, 1) := by decide +kernel
theorem dL_up_22 : decode cL_up 22 = .ok (.ireturn, 1) := by decide +kernel
theorem dL_circle_0 : decode cL_circle 0 = .ok (.aload_n 3, 1) := by decide +kernel
theorem dL_circle_1 : decode cL_circle 1 = .ok (.iconst 0, 1) := by decide +kernel
theorem dL_circle_2 : decode cL_circle 2 = .ok (.aload_n 0, 1) := by decide +kernel
theorem dL_circle_3 : decode cL_circle 3 = .ok (.iload_n 1, 1) := by decide +kernel
theorem dL_circle_4 : decode cL_circle 4 = .ok (.iload_n 2, 1) := by decide +kernel
theorem dL_circle_5 : decode cL_circle 5 = .ok (.invokevirtual 66, 3) := by decide +kernel
theorem dL_circle_8 : decode cL_circle 8 = .ok (.i2l, 1) := by decide +kernel
theorem dL_circle_9 : decode cL_circle 9 = .ok (.lastore, 1) := by decide +kernel
theorem dL_circle_10 : decode cL_circle 10 = .ok (.goto 11, 3) := by decide +kernel
theorem dL_circle_13 : decode cL_circle 13 = .ok (.astore 4, 2) := by decide +kernel
theorem dL_circle_15 : decode cL_circle 15 = .ok (.iconst 1, 1) := by decide +kernel
theorem dL_circle_16 : decode cL_circle 16 = .ok (.ireturn, 1) := by decide +kernel
theorem dL_circle_17 : decode cL_circle 17 = .ok (.astore 4, 2) := by decide +kernel
theorem dL_circle_19 : decode cL_circle 19 = .ok (.iconst 2, 1) := by decide +kernel
theorem dL_circle_20 : decode cL_circle 20 = .ok (.ireturn, 1) := by decide +kernel
theorem dL_circle_21 : decode cL_circle 21 = .ok (.iconst 0, 1) := by decide +kernel
theorem dL_circle_22 : decode cL_circle 22 = .ok (.ireturn, 1) := by decide +kernel
theorem dL_laps_0 : decode cL_laps 0 = .ok (.aload_n 3, 1) := by decide +kernel
theorem dL_laps_1 : decode cL_laps 1 = .ok (.iconst 0, 1) := by decide +kernel
theorem dL_laps_2 : decode cL_laps 2 = .ok (.aload_n 0, 1) := by decide +kernel
theorem dL_laps_3 : decode cL_laps 3 = .ok (.iload_n 1, 1) := by decide +kernel
theorem dL_laps_4 : decode cL_laps 4 = .ok (.iload_n 2, 1) := by decide +kernel
theorem dL_laps_5 : decode cL_laps 5 = .ok (.invokevirtual 69, 3) := by decide +kernel
theorem dL_laps_8 : decode cL_laps 8 = .ok (.i2l, 1) := by decide +kernel
theorem dL_laps_9 : decode cL_laps 9 = .ok (.lastore, 1) := by decide +kernel
theorem dL_laps_10 : decode cL_laps 10 = .ok (.goto 11, 3) := by decide +kernel
theorem dL_laps_13 : decode cL_laps 13 = .ok (.astore 4, 2) := by decide +kernel
theorem dL_laps_15 : decode cL_laps 15 = .ok (.iconst 1, 1) := by decide +kernel
theorem dL_laps_16 : decode cL_laps 16 = .ok (.ireturn, 1) := by decide +kernel
theorem dL_laps_17 : decode cL_laps 17 = .ok (.astore 4, 2) := by decide +kernel
theorem dL_laps_19 : decode cL_laps 19 = .ok (.iconst 2, 1) := by decide +kernel
theorem dL_laps_20 : decode cL_laps 20 = .ok (.ireturn, 1) := by decide +kernel
theorem dL_laps_21 : decode cL_laps 21 = .ok (.iconst 0, 1) := by decide +kernel
theorem dL_laps_22 : decode cL_laps 22 = .ok (.ireturn, 1) := by decide +kernel
theorem dL_alone_0 : decode cL_alone 0 = .ok (.aload_n 3, 1) := by decide +kernel
theorem dL_alone_1 : decode cL_alone 1 = .ok (.iconst 0, 1) := by decide +kernel
theorem dL_alone_2 : decode cL_alone 2 = .ok (.aload_n 0, 1) := by decide +kernel
theorem dL_alone_3 : decode cL_alone 3 = .ok (.iload_n 1, 1) := by decide +kernel
theorem dL_alone_4 : decode cL_alone 4 = .ok (.iload_n 2, 1) := by decide +kernel
theorem dL_alone_5 : decode cL_alone 5 = .ok (.invokevirtual 72, 3) := by decide +kernel
theorem dL_alone_8 : decode cL_alone 8 = .ok (.i2l, 1) := by decide +kernel
theorem dL_alone_9 : decode cL_alone 9 = .ok (.lastore, 1) := by decide +kernel
theorem dL_alone_10 : decode cL_alone 10 = .ok (.goto 7, 3) := by decide +kernel
theorem dL_alone_13 : decode cL_alone 13 = .ok (.astore 4, 2) := by decide +kernel
theorem dL_alone_15 : decode cL_alone 15 = .ok (.iconst 1, 1) := by decide +kernel
theorem dL_alone_16 : decode cL_alone 16 = .ok (.ireturn, 1) := by decide +kernel
theorem dL_alone_17 : decode cL_alone 17 = .ok (.iconst 0, 1) := by decide +kernel
theorem dL_alone_18 : decode cL_alone 18 = .ok (.ireturn, 1) := by decide +kernel
theorem dL_both_0 : decode cL_both 0 = .ok (.aload_n 3, 1) := by decide +kernel
theorem dL_both_1 : decode cL_both 1 = .ok (.iconst 0, 1) := by decide +kernel
theorem dL_both_2 : decode cL_both 2 = .ok (.aload_n 0, 1) := by decide +kernel
theorem dL_both_3 : decode cL_both 3 = .ok (.iload_n 1, 1) := by decide +kernel
theorem dL_both_4 : decode cL_both 4 = .ok (.iload_n 2, 1) := by decide +kernel
theorem dL_both_5 : decode cL_both 5 = .ok (.invokevirtual 75, 3) := by decide +kernel
theorem dL_both_8 : decode cL_both 8 = .ok (.i2l, 1) := by decide +kernel
theorem dL_both_9 : decode cL_both 9 = .ok (.lastore, 1) := by decide +kernel
theorem dL_both_10 : decode cL_both 10 = .ok (.goto 11, 3) := by decide +kernel
theorem dL_both_13 : decode cL_both 13 = .ok (.astore 4, 2) := by decide +kernel
theorem dL_both_15 : decode cL_both 15 = .ok (.iconst 1, 1) := by decide +kernel
theorem dL_both_16 : decode cL_both 16 = .ok (.ireturn, 1) := by decide +kernel
theorem dL_both_17 : decode cL_both 17 = .ok (.astore 4, 2) := by decide +kernel
theorem dL_both_19 : decode cL_both 19 = .ok (.iconst 2, 1) := by decide +kernel
theorem dL_both_20 : decode cL_both 20 = .ok (.ireturn, 1) := by decide +kernel
theorem dL_both_21 : decode cL_both 21 = .ok (.iconst 0, 1) := by decide +kernel
theorem dL_both_22 : decode cL_both 22 = .ok (.ireturn, 1) := by decide +kernel
theorem dL_period_0 : decode cL_period 0 = .ok (.aload_n 2, 1) := by decide +kernel
theorem dL_period_1 : decode cL_period 1 = .ok (.iconst 0, 1) := by decide +kernel
theorem dL_period_2 : decode cL_period 2 = .ok (.aload_n 0, 1) := by decide +kernel
theorem dL_period_3 : decode cL_period 3 = .ok (.iload_n 1, 1) := by decide +kernel
theorem dL_period_4 : decode cL_period 4 = .ok (.invokevirtual 78, 3) := by decide +kernel
theorem dL_period_7 : decode cL_period 7 = .ok (.i2l, 1) := by decide +kernel
theorem dL_period_8 : decode cL_period 8 = .ok (.lastore, 1) := by decide +kernel
theorem dL_period_9 : decode cL_period 9 = .ok (.goto 6, 3) := by decide +kernel
theorem dL_period_12 : decode cL_period 12 = .ok (.astore_n 3, 1) := by decide +kernel
theorem dL_period_13 : decode cL_period 13 = .ok (.iconst 1, 1) := by decide +kernel
theorem dL_period_14 : decode cL_period 14 = .ok (.ireturn, 1) := by decide +kernel
theorem dL_period_15 : decode cL_period 15 = .ok (.iconst 0, 1) := by decide +kernel
theorem dL_period_16 : decode cL_period 16 = .ok (.ireturn, 1) := by decide +kernel
theorem dL_stands_0 : decode cL_stands 0 = .ok (.aload 4, 2) := by decide +kernel
theorem dL_stands_2 : decode cL_stands 2 = .ok (.iconst 0, 1) := by decide +kernel
theorem dL_stands_3 : decode cL_stands 3 = .ok (.aload_n 0, 1) := by decide +kernel
theorem dL_stands_4 : decode cL_stands 4 = .ok (.iload_n 1, 1) := by decide +kernel
theorem dL_stands_5 : decode cL_stands 5 = .ok (.iload_n 2, 1) := by decide +kernel
theorem dL_stands_6 : decode cL_stands 6 = .ok (.iload_n 3, 1) := by decide +kernel
theorem dL_stands_7 : decode cL_stands 7 = .ok (.invokevirtual 81, 3) := by decide +kernel
theorem dL_stands_10 : decode cL_stands 10 = .ok (.i2l, 1) := by decide +kernel
theorem dL_stands_11 : decode cL_stands 11 = .ok (.lastore, 1) := by decide +kernel
theorem dL_stands_12 : decode cL_stands 12 = .ok (.goto 11, 3) := by decide +kernel
theorem dL_stands_15 : decode cL_stands 15 = .ok (.astore 5, 2) := by decide +kernel
theorem dL_stands_17 : decode cL_stands 17 = .ok (.iconst 1, 1) := by decide +kernel
theorem dL_stands_18 : decode cL_stands 18 = .ok (.ireturn, 1) := by decide +kernel
theorem dL_stands_19 : decode cL_stands 19 = .ok (.astore 5, 2) := by decide +kernel
theorem dL_stands_21 : decode cL_stands 21 = .ok (.iconst 2, 1) := by decide +kernel
theorem dL_stands_22 : decode cL_stands 22 = .ok (.ireturn, 1) := by decide +kernel
theorem dL_stands_23 : decode cL_stands 23 = .ok (.iconst 0, 1) := by decide +kernel
theorem dL_stands_24 : decode cL_stands 24 = .ok (.ireturn, 1) := by decide +kernel
theorem dL_backs_0 : decode cL_backs 0 = .ok (.aload_n 2, 1) := by decide +kernel
theorem dL_backs_1 : decode cL_backs 1 = .ok (.iconst 0, 1) := by decide +kernel
theorem dL_backs_2 : decode cL_backs 2 = .ok (.aload_n 0, 1) := by decide +kernel
theorem dL_backs_3 : decode cL_backs 3 = .ok (.iload_n 1, 1) := by decide +kernel
theorem dL_backs_4 : decode cL_backs 4 = .ok (.invokevirtual 85, 3) := by decide +kernel
theorem dL_backs_7 : decode cL_backs 7 = .ok (.i2l, 1) := by decide +kernel
theorem dL_backs_8 : decode cL_backs 8 = .ok (.lastore, 1) := by decide +kernel
theorem dL_backs_9 : decode cL_backs 9 = .ok (.goto 6, 3) := by decide +kernel
theorem dL_backs_12 : decode cL_backs 12 = .ok (.astore_n 3, 1) := by decide +kernel
theorem dL_backs_13 : decode cL_backs 13 = .ok (.iconst 1, 1) := by decide +kernel
theorem dL_backs_14 : decode cL_backs 14 = .ok (.ireturn, 1) := by decide +kernel
theorem dL_backs_15 : decode cL_backs 15 = .ok (.iconst 0, 1) := by decide +kernel
theorem dL_backs_16 : decode cL_backs 16 = .ok (.ireturn, 1) := by decide +kernel
theorem dL_ask_0 : decode cL_ask 0 = .ok (.aload_n 1, 1) := by decide +kernel
theorem dL_ask_1 : decode cL_ask 1 = .ok (.iconst 0, 1) := by decide +kernel
theorem dL_ask_2 : decode cL_ask 2 = .ok (.aload_n 0, 1) := by decide +kernel
theorem dL_ask_3 : decode cL_ask 3 = .ok (.invokevirtual 88, 3) := by decide +kernel
theorem dL_ask_6 : decode cL_ask 6 = .ok (.i2l, 1) := by decide +kernel
theorem dL_ask_7 : decode cL_ask 7 = .ok (.lastore, 1) := by decide +kernel
theorem dL_ask_8 : decode cL_ask 8 = .ok (.goto 6, 3) := by decide +kernel
theorem dL_ask_11 : decode cL_ask 11 = .ok (.astore_n 2, 1) := by decide +kernel
theorem dL_ask_12 : decode cL_ask 12 = .ok (.iconst 1, 1) := by decide +kernel
theorem dL_ask_13 : decode cL_ask 13 = .ok (.ireturn, 1) := by decide +kernel
theorem dL_ask_14 : decode cL_ask 14 = .ok (.iconst 0, 1) := by decide +kernel
theorem dL_ask_15 : decode cL_ask 15 = .ok (.ireturn, 1) := by decide +kernel
theorem dL_round_0 : decode cL_round 0 = .ok (.aload_n 2, 1) := by decide +kernel
theorem dL_round_1 : decode cL_round 1 = .ok (.iconst 0, 1) := by decide +kernel
theorem dL_round_2 : decode cL_round 2 = .ok (.aload_n 0, 1) := by decide +kernel
theorem dL_round_3 : decode cL_round 3 = .ok (.iload_n 1, 1) := by decide +kernel
theorem dL_round_4 : decode cL_round 4 = .ok (.invokevirtual 91, 3) := by decide +kernel
theorem dL_round_7 : decode cL_round 7 = .ok (.i2l, 1) := by decide +kernel
theorem dL_round_8 : decode cL_round 8 = .ok (.lastore, 1) := by decide +kernel
theorem dL_round_9 : decode cL_round 9 = .ok (.goto 6, 3) := by decide +kernel
theorem dL_round_12 : decode cL_round 12 = .ok (.astore_n 3, 1) := by decide +kernel
theorem dL_round_13 : decode cL_round 13 = .ok (.iconst 1, 1) := by decide +kernel
theorem dL_round_14 : decode cL_round 14 = .ok (.ireturn, 1) := by decide +kernel
theorem dL_round_15 : decode cL_round 15 = .ok (.iconst 0, 1) := by decide +kernel
theorem dL_round_16 : decode cL_round 16 = .ok (.ireturn, 1) := by decide +kernel
theorem dL_tries_0 : decode cL_tries 0 = .ok (.aload_n 1, 1) := by decide +kernel
theorem dL_tries_1 : decode cL_tries 1 = .ok (.iconst 0, 1) := by decide +kernel
theorem dL_tries_2 : decode cL_tries 2 = .ok (.aload_n 0, 1) := by decide +kernel
theorem dL_tries_3 : decode cL_tries 3 = .ok (.invokevirtual 95, 3) := by decide +kernel
theorem dL_tries_6 : decode cL_tries 6 = .ok (.i2l, 1) := by decide +kernel
theorem dL_tries_7 : decode cL_tries 7 = .ok (.lastore, 1) := by decide +kernel
theorem dL_tries_8 : decode cL_tries 8 = .ok (.goto 6, 3) := by decide +kernel
theorem dL_tries_11 : decode cL_tries 11 = .ok (.astore_n 2, 1) := by decide +kernel
theorem dL_tries_12 : decode cL_tries 12 = .ok (.iconst 1, 1) := by decide +kernel
theorem dL_tries_13 : decode cL_tries 13 = .ok (.ireturn, 1) := by decide +kernel
theorem dL_tries_14 : decode cL_tries 14 = .ok (.iconst 0, 1) := by decide +kernel
theorem dL_tries_15 : decode cL_tries 15 = .ok (.ireturn, 1) := by decide +kernel
theorem dL_calls_0 : decode cL_calls 0 = .ok (.aload 4, 2) := by decide +kernel
theorem dL_calls_2 : decode cL_calls 2 = .ok (.iconst 0, 1) := by decide +kernel
theorem dL_calls_3 : decode cL_calls 3 = .ok (.aload_n 0, 1) := by decide +kernel
theorem dL_calls_4 : decode cL_calls 4 = .ok (.iload_n 1, 1) := by decide +kernel
theorem dL_calls_5 : decode cL_calls 5 = .ok (.iload_n 2, 1) := by decide +kernel
theorem dL_calls_6 : decode cL_calls 6 = .ok (.iload_n 3, 1) := by decide +kernel
theorem dL_calls_7 : decode cL_calls 7 = .ok (.invokevirtual 98, 3) := by decide +kernel
theorem dL_calls_10 : decode cL_calls 10 = .ok (.i2l, 1) := by decide +kernel
theorem dL_calls_11 : decode cL_calls 11 = .ok (.lastore, 1) := by decide +kernel
theorem dL_calls_12 : decode cL_calls 12 = .ok (.goto 11, 3) := by decide +kernel
theorem dL_calls_15 : decode cL_calls 15 = .ok (.astore 5, 2) := by decide +kernel
theorem dL_calls_17 : decode cL_calls 17 = .ok (.iconst 1, 1) := by decide +kernel
theorem dL_calls_18 : decode cL_calls 18 = .ok (.ireturn, 1) := by decide +kernel
theorem dL_calls_19 : decode cL_calls 19 = .ok (.astore 5, 2) := by decide +kernel
theorem dL_calls_21 : decode cL_calls 21 = .ok (.iconst 2, 1) := by decide +kernel
theorem dL_calls_22 : decode cL_calls 22 = .ok (.ireturn, 1) := by decide +kernel
theorem dL_calls_23 : decode cL_calls 23 = .ok (.iconst 0, 1) := by decide +kernel
theorem dL_calls_24 : decode cL_calls 24 = .ok (.ireturn, 1) := by decide +kernel
theorem dL_told_0 : decode cL_told 0 = .ok (.aload_n 3, 1) := by decide +kernel
theorem dL_told_1 : decode cL_told 1 = .ok (.iconst 0, 1) := by decide +kernel
theorem dL_told_2 : decode cL_told 2 = .ok (.aload_n 0, 1) := by decide +kernel
theorem dL_told_3 : decode cL_told 3 = .ok (.iload_n 1, 1) := by decide +kernel
theorem dL_told_4 : decode cL_told 4 = .ok (.iload_n 2, 1) := by decide +kernel
theorem dL_told_5 : decode cL_told 5 = .ok (.invokevirtual 101, 3) := by decide +kernel
theorem dL_told_8 : decode cL_told 8 = .ok (.i2l, 1) := by decide +kernel
theorem dL_told_9 : decode cL_told 9 = .ok (.lastore, 1) := by decide +kernel
theorem dL_told_10 : decode cL_told 10 = .ok (.goto 11, 3) := by decide +kernel
theorem dL_told_13 : decode cL_told 13 = .ok (.astore 4, 2) := by decide +kernel
theorem dL_told_15 : decode cL_told 15 = .ok (.iconst 1, 1) := by decide +kernel
theorem dL_told_16 : decode cL_told 16 = .ok (.ireturn, 1) := by decide +kernel
theorem dL_told_17 : decode cL_told 17 = .ok (.astore 4, 2) := by decide +kernel
theorem dL_told_19 : decode cL_told 19 = .ok (.iconst 2, 1) := by decide +kernel
theorem dL_told_20 : decode cL_told 20 = .ok (.ireturn, 1) := by decide +kernel
theorem dL_told_21 : decode cL_told 21 = .ok (.iconst 0, 1) := by decide +kernel
theorem dL_told_22 : decode cL_told 22 = .ok (.ireturn, 1) := by decide +kernel
theorem dL_few_0 : decode cL_few 0 = .ok (.aload_n 2, 1) := by decide +kernel
theorem dL_few_1 : decode cL_few 1 = .ok (.iconst 0, 1) := by decide +kernel
theorem dL_few_2 : decode cL_few 2 = .ok (.aload_n 0, 1) := by decide +kernel
theorem dL_few_3 : decode cL_few 3 = .ok (.iload_n 1, 1) := by decide +kernel
theorem dL_few_4 : decode cL_few 4 = .ok (.invokevirtual 104, 3) := by decide +kernel
theorem dL_few_7 : decode cL_few 7 = .ok (.i2l, 1) := by decide +kernel
theorem dL_few_8 : decode cL_few 8 = .ok (.lastore, 1) := by decide +kernel
theorem dL_few_9 : decode cL_few 9 = .ok (.goto 6, 3) := by decide +kernel
theorem dL_few_12 : decode cL_few 12 = .ok (.astore_n 3, 1) := by decide +kernel
theorem dL_few_13 : decode cL_few 13 = .ok (.iconst 1, 1) := by decide +kernel
theorem dL_few_14 : decode cL_few 14 = .ok (.ireturn, 1) := by decide +kernel
theorem dL_few_15 : decode cL_few 15 = .ok (.iconst 0, 1) := by decide +kernel
theorem dL_few_16 : decode cL_few 16 = .ok (.ireturn, 1) := by decide +kernel
theorem dL_seated_0 : decode cL_seated 0 = .ok (.aload_n 2, 1) := by decide +kernel
theorem dL_seated_1 : decode cL_seated 1 = .ok (.iconst 0, 1) := by decide +kernel
theorem dL_seated_2 : decode cL_seated 2 = .ok (.aload_n 0, 1) := by decide +kernel
theorem dL_seated_3 : decode cL_seated 3 = .ok (.iload_n 1, 1) := by decide +kernel
theorem dL_seated_4 : decode cL_seated 4 = .ok (.invokevirtual 107, 3) := by decide +kernel
theorem dL_seated_7 : decode cL_seated 7 = .ok (.i2l, 1) := by decide +kernel
theorem dL_seated_8 : decode cL_seated 8 = .ok (.lastore, 1) := by decide +kernel
theorem dL_seated_9 : decode cL_seated 9 = .ok (.goto 6, 3) := by decide +kernel
theorem dL_seated_12 : decode cL_seated 12 = .ok (.astore_n 3, 1) := by decide +kernel
theorem dL_seated_13 : decode cL_seated 13 = .ok (.iconst 1, 1) := by decide +kernel
theorem dL_seated_14 : decode cL_seated 14 = .ok (.ireturn, 1) := by decide +kernel
theorem dL_seated_15 : decode cL_seated 15 = .ok (.iconst 0, 1) := by decide +kernel
theorem dL_seated_16 : decode cL_seated 16 = .ok (.ireturn, 1) := by decide +kernel
theorem dL_chase_0 : decode cL_chase 0 = .ok (.aload_n 3, 1) := by decide +kernel
theorem dL_chase_1 : decode cL_chase 1 = .ok (.iconst 0, 1) := by decide +kernel
theorem dL_chase_2 : decode cL_chase 2 = .ok (.aload_n 0, 1) := by decide +kernel
theorem dL_chase_3 : decode cL_chase 3 = .ok (.iload_n 1, 1) := by decide +kernel
theorem dL_chase_4 : decode cL_chase 4 = .ok (.iload_n 2, 1) := by decide +kernel
theorem dL_chase_5 : decode cL_chase 5 = .ok (.invokevirtual 110, 3) := by decide +kernel
theorem dL_chase_8 : decode cL_chase 8 = .ok (.i2l, 1) := by decide +kernel
theorem dL_chase_9 : decode cL_chase 9 = .ok (.lastore, 1) := by decide +kernel
theorem dL_chase_10 : decode cL_chase 10 = .ok (.goto 7, 3) := by decide +kernel
theorem dL_chase_13 : decode cL_chase 13 = .ok (.astore 4, 2) := by decide +kernel
theorem dL_chase_15 : decode cL_chase 15 = .ok (.iconst 1, 1) := by decide +kernel
theorem dL_chase_16 : decode cL_chase 16 = .ok (.ireturn, 1) := by decide +kernel
theorem dL_chase_17 : decode cL_chase 17 = .ok (.iconst 0, 1) := by decide +kernel
theorem dL_chase_18 : decode cL_chase 18 = .ok (.ireturn, 1) := by decide +kernel
theorem dL_couples_0 : decode cL_couples 0 = .ok (.aload_n 2, 1) := by decide +kernel
theorem dL_couples_1 : decode cL_couples 1 = .ok (.iconst 0, 1) := by decide +kernel
theorem dL_couples_2 : decode cL_couples 2 = .ok (.aload_n 0, 1) := by decide +kernel
theorem dL_couples_3 : decode cL_couples 3 = .ok (.iload_n 1, 1) := by decide +kernel
theorem dL_couples_4 : decode cL_couples 4 = .ok (.invokevirtual 113, 3) := by decide +kernel
theorem dL_couples_7 : decode cL_couples 7 = .ok (.i2l, 1) := by decide +kernel
theorem dL_couples_8 : decode cL_couples 8 = .ok (.lastore, 1) := by decide +kernel
theorem dL_couples_9 : decode cL_couples 9 = .ok (.goto 6, 3) := by decide +kernel
theorem dL_couples_12 : decode cL_couples 12 = .ok (.astore_n 3, 1) := by decide +kernel
theorem dL_couples_13 : decode cL_couples 13 = .ok (.iconst 1, 1) := by decide +kernel
theorem dL_couples_14 : decode cL_couples 14 = .ok (.ireturn, 1) := by decide +kernel
theorem dL_couples_15 : decode cL_couples 15 = .ok (.iconst 0, 1) := by decide +kernel
theorem dL_couples_16 : decode cL_couples 16 = .ok (.ireturn, 1) := by decide +kernel
theorem dL_rests_0 : decode cL_rests 0 = .ok (.aload_n 3, 1) := by decide +kernel
theorem dL_rests_1 : decode cL_rests 1 = .ok (.iconst 0, 1) := by decide +kernel
theorem dL_rests_2 : decode cL_rests 2 = .ok (.aload_n 0, 1) := by decide +kernel
theorem dL_rests_3 : decode cL_rests 3 = .ok (.iload_n 1, 1) := by decide +kernel
theorem dL_rests_4 : decode cL_rests 4 = .ok (.iload_n 2, 1) := by decide +kernel
theorem dL_rests_5 : decode cL_rests 5 = .ok (.invokevirtual 116, 3) := by decide +kernel
theorem dL_rests_8 : decode cL_rests 8 = .ok (.i2l, 1) := by decide +kernel
theorem dL_rests_9 : decode cL_rests 9 = .ok (.lastore, 1) := by decide +kernel
theorem dL_rests_10 : decode cL_rests 10 = .ok (.goto 11, 3) := by decide +kernel
theorem dL_rests_13 : decode cL_rests 13 = .ok (.astore 4, 2) := by decide +kernel
theorem dL_rests_15 : decode cL_rests 15 = .ok (.iconst 1, 1) := by decide +kernel
theorem dL_rests_16 : decode cL_rests 16 = .ok (.ireturn, 1) := by decide +kernel
theorem dL_rests_17 : decode cL_rests 17 = .ok (.astore 4, 2) := by decide +kernel
theorem dL_rests_19 : decode cL_rests 19 = .ok (.iconst 2, 1) := by decide +kernel
theorem dL_rests_20 : decode cL_rests 20 = .ok (.ireturn, 1) := by decide +kernel
theorem dL_rests_21 : decode cL_rests 21 = .ok (.iconst 0, 1) := by decide +kernel
theorem dL_rests_22 : decode cL_rests 22 = .ok (.ireturn, 1) := by decide +kernel
theorem dL_odds_0 : decode cL_odds 0 = .ok (.aload_n 3, 1) := by decide +kernel
theorem dL_odds_1 : decode cL_odds 1 = .ok (.iconst 0, 1) := by decide +kernel
theorem dL_odds_2 : decode cL_odds 2 = .ok (.aload_n 0, 1) := by decide +kernel
theorem dL_odds_3 : decode cL_odds 3 = .ok (.iload_n 1, 1) := by decide +kernel
theorem dL_odds_4 : decode cL_odds 4 = .ok (.iload_n 2, 1) := by decide +kernel
theorem dL_odds_5 : decode cL_odds 5 = .ok (.invokevirtual 119, 3) := by decide +kernel
theorem dL_odds_8 : decode cL_odds 8 = .ok (.i2l, 1) := by decide +kernel
theorem dL_odds_9 : decode cL_odds 9 = .ok (.lastore, 1) := by decide +kernel
theorem dL_odds_10 : decode cL_odds 10 = .ok (.goto 7, 3) := by decide +kernel
theorem dL_odds_13 : decode cL_odds 13 = .ok (.astore 4, 2) := by decide +kernel
theorem dL_odds_15 : decode cL_odds 15 = .ok (.iconst 1, 1) := by decide +kernel
theorem dL_odds_16 : decode cL_odds 16 = .ok (.ireturn, 1) := by decide +kernel
theorem dL_odds_17 : decode cL_odds 17 = .ok (.iconst 0, 1) := by decide +kernel
theorem dL_odds_18 : decode cL_odds 18 = .ok (.ireturn, 1) := by decide +kernel
theorem dL_bunch_0 : decode cL_bunch 0 = .ok (.aload_n 2, 1) := by decide +kernel
theorem dL_bunch_1 : decode cL_bunch 1 = .ok (.iconst 0, 1) := by decide +kernel
theorem dL_bunch_2 : decode cL_bunch 2 = .ok (.aload_n 0, 1) := by decide +kernel
theorem dL_bunch_3 : decode cL_bunch 3 = .ok (.iload_n 1, 1) := by decide +kernel
theorem dL_bunch_4 : decode cL_bunch 4 = .ok (.invokevirtual 122, 3) := by decide +kernel
theorem dL_bunch_7 : decode cL_bunch 7 = .ok (.i2l, 1) := by decide +kernel
theorem dL_bunch_8 : decode cL_bunch 8 = .ok (.lastore, 1) := by decide +kernel
theorem dL_bunch_9 : decode cL_bunch 9 = .ok (.goto 6, 3) := by decide +kernel
theorem dL_bunch_12 : decode cL_bunch 12 = .ok (.astore_n 3, 1) := by decide +kernel
theorem dL_bunch_13 : decode cL_bunch 13 = .ok (.iconst 1, 1) := by decide +kernel
theorem dL_bunch_14 : decode cL_bunch 14 = .ok (.ireturn, 1) := by decide +kernel
theorem dL_bunch_15 : decode cL_bunch 15 = .ok (.iconst 0, 1) := by decide +kernel
theorem dL_bunch_16 : decode cL_bunch 16 = .ok (.ireturn, 1) := by decide +kernel
theorem dL_trial_0 : decode cL_trial 0 = .ok (.aload_n 3, 1) := by decide +kernel
theorem dL_trial_1 : decode cL_trial 1 = .ok (.iconst 0, 1) := by decide +kernel
theorem dL_trial_2 : decode cL_trial 2 = .ok (.aload_n 0, 1) := by decide +kernel
theorem dL_trial_3 : decode cL_trial 3 = .ok (.iload_n 1, 1) := by decide +kernel
theorem dL_trial_4 : decode cL_trial 4 = .ok (.iload_n 2, 1) := by decide +kernel
theorem dL_trial_5 : decode cL_trial 5 = .ok (.invokevirtual 125, 3) := by decide +kernel
theorem dL_trial_8 : decode cL_trial 8 = .ok (.i2l, 1) := by decide +kernel
theorem dL_trial_9 : decode cL_trial 9 = .ok (.lastore, 1) := by decide +kernel
theorem dL_trial_10 : decode cL_trial 10 = .ok (.goto 7, 3) := by decide +kernel
theorem dL_trial_13 : decode cL_trial 13 = .ok (.astore 4, 2) := by decide +kernel
theorem dL_trial_15 : decode cL_trial 15 = .ok (.iconst 1, 1) := by decide +kernel
theorem dL_trial_16 : decode cL_trial 16 = .ok (.ireturn, 1) := by decide +kernel
theorem dL_trial_17 : decode cL_trial 17 = .ok (.iconst 0, 1) := by decide +kernel
theorem dL_trial_18 : decode cL_trial 18 = .ok (.ireturn, 1) := by decide +kernel
theorem dL_span_0 : decode cL_span 0 = .ok (.aload_n 3, 1) := by decide +kernel
theorem dL_span_1 : decode cL_span 1 = .ok (.iconst 0, 1) := by decide +kernel
theorem dL_span_2 : decode cL_span 2 = .ok (.aload_n 0, 1) := by decide +kernel
theorem dL_span_3 : decode cL_span 3 = .ok (.iload_n 1, 1) := by decide +kernel
theorem dL_span_4 : decode cL_span 4 = .ok (.iload_n 2, 1) := by decide +kernel
theorem dL_span_5 : decode cL_span 5 = .ok (.invokevirtual 129, 3) := by decide +kernel
theorem dL_span_8 : decode cL_span 8 = .ok (.i2l, 1) := by decide +kernel
theorem dL_span_9 : decode cL_span 9 = .ok (.lastore, 1) := by decide +kernel
theorem dL_span_10 : decode cL_span 10 = .ok (.goto 7, 3) := by decide +kernel
theorem dL_span_13 : decode cL_span 13 = .ok (.astore 4, 2) := by decide +kernel
theorem dL_span_15 : decode cL_span 15 = .ok (.iconst 1, 1) := by decide +kernel
theorem dL_span_16 : decode cL_span 16 = .ok (.ireturn, 1) := by decide +kernel
theorem dL_span_17 : decode cL_span 17 = .ok (.iconst 0, 1) := by decide +kernel
theorem dL_span_18 : decode cL_span 18 = .ok (.ireturn, 1) := by decide +kernel
theorem dL_led_0 : decode cL_led 0 = .ok (.aload_n 3, 1) := by decide +kernel
theorem dL_led_1 : decode cL_led 1 = .ok (.iconst 0, 1) := by decide +kernel
theorem dL_led_2 : decode cL_led 2 = .ok (.aload_n 0, 1) := by decide +kernel
theorem dL_led_3 : decode cL_led 3 = .ok (.iload_n 1, 1) := by decide +kernel
theorem dL_led_4 : decode cL_led 4 = .ok (.iload_n 2, 1) := by decide +kernel
theorem dL_led_5 : decode cL_led 5 = .ok (.invokevirtual 132, 3) := by decide +kernel
theorem dL_led_8 : decode cL_led 8 = .ok (.i2l, 1) := by decide +kernel
theorem dL_led_9 : decode cL_led 9 = .ok (.lastore, 1) := by decide +kernel
theorem dL_led_10 : decode cL_led 10 = .ok (.goto 7, 3) := by decide +kernel
theorem dL_led_13 : decode cL_led 13 = .ok (.astore 4, 2) := by decide +kernel
theorem dL_led_15 : decode cL_led 15 = .ok (.iconst 1, 1) := by decide +kernel
theorem dL_led_16 : decode cL_led 16 = .ok (.ireturn, 1) := by decide +kernel
theorem dL_led_17 : decode cL_led 17 = .ok (.iconst 0, 1) := by decide +kernel
theorem dL_led_18 : decode cL_led 18 = .ok (.ireturn, 1) := by decide +kernel
theorem dL_log_0 : decode cL_log 0 = .ok (.aload_n 3, 1) := by decide +kernel
theorem dL_log_1 : decode cL_log 1 = .ok (.iconst 0, 1) := by decide +kernel
theorem dL_log_2 : decode cL_log 2 = .ok (.aload_n 0, 1) := by decide +kernel
theorem dL_log_3 : decode cL_log 3 = .ok (.iload_n 1, 1) := by decide +kernel
theorem dL_log_4 : decode cL_log 4 = .ok (.iload_n 2, 1) := by decide +kernel
theorem dL_log_5 : decode cL_log 5 = .ok (.invokevirtual 135, 3) := by decide +kernel
theorem dL_log_8 : decode cL_log 8 = .ok (.i2l, 1) := by decide +kernel
theorem dL_log_9 : decode cL_log 9 = .ok (.lastore, 1) := by decide +kernel
theorem dL_log_10 : decode cL_log 10 = .ok (.goto 7, 3) := by decide +kernel
theorem dL_log_13 : decode cL_log 13 = .ok (.astore 4, 2) := by decide +kernel
theorem dL_log_15 : decode cL_log 15 = .ok (.iconst 1, 1) := by decide +kernel
theorem dL_log_16 : decode cL_log 16 = .ok (.ireturn, 1) := by decide +kernel
theorem dL_log_17 : decode cL_log 17 = .ok (.iconst 0, 1) := by decide +kernel
theorem dL_log_18 : decode cL_log 18 = .ok (.ireturn, 1) := by decide +kernel
