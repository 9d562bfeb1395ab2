theorem dX0_init_0 : decode cX0_init 0 = .ok (.aload_n 0, 1) := by decide +kernel
theorem dX0_init_1 : decode cX0_init 1 = .ok (.invokespecial 3, 3) := by decide +kernel
theorem dX0_init_4 : decode cX0_init 4 = .ok (.aload_n 0, 1) := by decide +kernel
theorem dX0_init_5 : decode cX0_init 5 = .ok (.sipush 128, 3) := by decide +kernel
theorem dX0_init_8 : decode cX0_init 8 = .ok (.newarray .int, 2) := by decide +kernel
theorem dX0_init_10 : decode cX0_init 10 = .ok (.putfield 9, 3) := by decide +kernel
theorem dX0_init_13 : decode cX0_init 13 = .ok (.aload_n 0, 1) := by decide +kernel
theorem dX0_init_14 : decode cX0_init 14 = .ok (.bipush 7, 2) := by decide +kernel
theorem dX0_init_16 : decode cX0_init 16 = .ok (.newarray .int, 2) := by decide +kernel
theorem dX0_init_18 : decode cX0_init 18 = .ok (.putfield 15, 3) := by decide +kernel
theorem dX0_init_21 : decode cX0_init 21 = .ok (.aload_n 0, 1) := by decide +kernel
theorem dX0_init_22 : decode cX0_init 22 = .ok (.iconst 0, 1) := by decide +kernel
theorem dX0_init_23 : decode cX0_init 23 = .ok (.putfield 18, 3) := by decide +kernel
theorem dX0_init_26 : decode cX0_init 26 = .ok (.return_, 1) := by decide +kernel
theorem dX0_couple_0 : decode cX0_couple 0 = .ok (.iconst 1, 1) := by decide +kernel
theorem dX0_couple_1 : decode cX0_couple 1 = .ok (.aload_n 1, 1) := by decide +kernel
theorem dX0_couple_2 : decode cX0_couple 2 = .ok (.getfield 22, 3) := by decide +kernel
theorem dX0_couple_5 : decode cX0_couple 5 = .ok (.ishl, 1) := by decide +kernel
theorem dX0_couple_6 : decode cX0_couple 6 = .ok (.iconst 1, 1) := by decide +kernel
theorem dX0_couple_7 : decode cX0_couple 7 = .ok (.isub, 1) := by decide +kernel
theorem dX0_couple_8 : decode cX0_couple 8 = .ok (.istore_n 2, 1) := by decide +kernel
theorem dX0_couple_9 : decode cX0_couple 9 = .ok (.aload_n 0, 1) := by decide +kernel
theorem dX0_couple_10 : decode cX0_couple 10 = .ok (.getfield 9, 3) := by decide +kernel
theorem dX0_couple_13 : decode cX0_couple 13 = .ok (.iconst 0, 1) := by decide +kernel
theorem dX0_couple_14 : decode cX0_couple 14 = .ok (.iconst 0, 1) := by decide +kernel
theorem dX0_couple_15 : decode cX0_couple 15 = .ok (.iastore, 1) := by decide +kernel
theorem dX0_couple_16 : decode cX0_couple 16 = .ok (.iconst 1, 1) := by decide +kernel
theorem dX0_couple_17 : decode cX0_couple 17 = .ok (.istore_n 3, 1) := by decide +kernel
theorem dX0_couple_18 : decode cX0_couple 18 = .ok (.iload_n 3, 1) := by decide +kernel
theorem dX0_couple_19 : decode cX0_couple 19 = .ok (.iload_n 2, 1) := by decide +kernel
theorem dX0_couple_20 : decode cX0_couple 20 = .ok (.if_icmp .gt 21, 3) := by decide +kernel
theorem dX0_couple_23 : decode cX0_couple 23 = .ok (.aload_n 0, 1) := by decide +kernel
theorem dX0_couple_24 : decode cX0_couple 24 = .ok (.getfield 9, 3) := by decide +kernel
theorem dX0_couple_27 : decode cX0_couple 27 = .ok (.iload_n 3, 1) := by decide +kernel
theorem dX0_couple_28 : decode cX0_couple 28 = .ok (.aload_n 0, 1) := by decide +kernel
theorem dX0_couple_29 : decode cX0_couple 29 = .ok (.aload_n 1, 1) := by decide +kernel
theorem dX0_couple_30 : decode cX0_couple 30 = .ok (.iload_n 3, 1) := by decide +kernel
theorem dX0_couple_31 : decode cX0_couple 31 = .ok (.invokevirtual 27, 3) := by decide +kernel
theorem dX0_couple_34 : decode cX0_couple 34 = .ok (.iastore, 1) := by decide +kernel
theorem dX0_couple_35 : decode cX0_couple 35 = .ok (.iinc 3 1, 3) := by decide +kernel
theorem dX0_couple_38 : decode cX0_couple 38 = .ok (.goto (-20), 3) := by decide +kernel
theorem dX0_couple_41 : decode cX0_couple 41 = .ok (.aload_n 0, 1) := by decide +kernel
theorem dX0_couple_42 : decode cX0_couple 42 = .ok (.iconst 0, 1) := by decide +kernel
theorem dX0_couple_43 : decode cX0_couple 43 = .ok (.putfield 18, 3) := by decide +kernel
theorem dX0_couple_46 : decode cX0_couple 46 = .ok (.aload_n 0, 1) := by decide +kernel
theorem dX0_couple_47 : decode cX0_couple 47 = .ok (.getfield 15, 3) := by decide +kernel
theorem dX0_couple_50 : decode cX0_couple 50 = .ok (.iconst (-1), 1) := by decide +kernel
theorem dX0_couple_51 : decode cX0_couple 51 = .ok (.invokestatic 31, 3) := by decide +kernel
theorem dX0_couple_54 : decode cX0_couple 54 = .ok (.iload_n 2, 1) := by decide +kernel
theorem dX0_couple_55 : decode cX0_couple 55 = .ok (.istore_n 3, 1) := by decide +kernel
theorem dX0_couple_56 : decode cX0_couple 56 = .ok (.iconst 0, 1) := by decide +kernel
theorem dX0_couple_57 : decode cX0_couple 57 = .ok (.istore 4, 2) := by decide +kernel
theorem dX0_couple_59 : decode cX0_couple 59 = .ok (.iload 4, 2) := by decide +kernel
theorem dX0_couple_61 : decode cX0_couple 61 = .ok (.aload_n 1, 1) := by decide +kernel
theorem dX0_couple_62 : decode cX0_couple 62 = .ok (.getfield 22, 3) := by decide +kernel
theorem dX0_couple_65 : decode cX0_couple 65 = .ok (.if_icmp .ge 81, 3) := by decide +kernel
theorem dX0_couple_68 : decode cX0_couple 68 = .ok (.iload_n 3, 1) := by decide +kernel
theorem dX0_couple_69 : decode cX0_couple 69 = .ok (.iload 4, 2) := by decide +kernel
theorem dX0_couple_71 : decode cX0_couple 71 = .ok (.ishr, 1) := by decide +kernel
theorem dX0_couple_72 : decode cX0_couple 72 = .ok (.iconst 1, 1) := by decide +kernel
theorem dX0_couple_73 : decode cX0_couple 73 = .ok (.iand, 1) := by decide +kernel
theorem dX0_couple_74 : decode cX0_couple 74 = .ok (.iconst 1, 1) := by decide +kernel
theorem dX0_couple_75 : decode cX0_couple 75 = .ok (.if_icmp .ne 65, 3) := by decide +kernel
theorem dX0_couple_78 : decode cX0_couple 78 = .ok (.aload_n 0, 1) := by decide +kernel
theorem dX0_couple_79 : decode cX0_couple 79 = .ok (.aload_n 1, 1) := by decide +kernel
theorem dX0_couple_80 : decode cX0_couple 80 = .ok (.iload 4, 2) := by decide +kernel
theorem dX0_couple_82 : decode cX0_couple 82 = .ok (.iload_n 3, 1) := by decide +kernel
theorem dX0_couple_83 : decode cX0_couple 83 = .ok (.invokevirtual 37, 3) := by decide +kernel
theorem dX0_couple_86 : decode cX0_couple 86 = .ok (.istore 5, 2) := by decide +kernel
theorem dX0_couple_88 : decode cX0_couple 88 = .ok (.iload_n 3, 1) := by decide +kernel
theorem dX0_couple_89 : decode cX0_couple 89 = .ok (.iconst 1, 1) := by decide +kernel
theorem dX0_couple_90 : decode cX0_couple 90 = .ok (.iload 4, 2) := by decide +kernel
theorem dX0_couple_92 : decode cX0_couple 92 = .ok (.ishl, 1) := by decide +kernel
theorem dX0_couple_93 : decode cX0_couple 93 = .ok (.iconst (-1), 1) := by decide +kernel
theorem dX0_couple_94 : decode cX0_couple 94 = .ok (.ixor, 1) := by decide +kernel
theorem dX0_couple_95 : decode cX0_couple 95 = .ok (.iand, 1) := by decide +kernel
theorem dX0_couple_96 : decode cX0_couple 96 = .ok (.istore_n 3, 1) := by decide +kernel
theorem dX0_couple_97 : decode cX0_couple 97 = .ok (.iload 5, 2) := by decide +kernel
theorem dX0_couple_99 : decode cX0_couple 99 = .ok (.iconst (-1), 1) := by decide +kernel
theorem dX0_couple_100 : decode cX0_couple 100 = .ok (.if_icmp .eq 40, 3) := by decide +kernel
theorem dX0_couple_103 : decode cX0_couple 103 = .ok (.iload_n 3, 1) := by decide +kernel
theorem dX0_couple_104 : decode cX0_couple 104 = .ok (.iconst 1, 1) := by decide +kernel
theorem dX0_couple_105 : decode cX0_couple 105 = .ok (.iload 5, 2) := by decide +kernel
theorem dX0_couple_107 : decode cX0_couple 107 = .ok (.ishl, 1) := by decide +kernel
theorem dX0_couple_108 : decode cX0_couple 108 = .ok (.iconst (-1), 1) := by decide +kernel
theorem dX0_couple_109 : decode cX0_couple 109 = .ok (.ixor, 1) := by decide +kernel
theorem dX0_couple_110 : decode cX0_couple 110 = .ok (.iand, 1) := by decide +kernel
theorem dX0_couple_111 : decode cX0_couple 111 = .ok (.istore_n 3, 1) := by decide +kernel
theorem dX0_couple_112 : decode cX0_couple 112 = .ok (.aload_n 0, 1) := by decide +kernel
theorem dX0_couple_113 : decode cX0_couple 113 = .ok (.getfield 15, 3) := by decide +kernel
theorem dX0_couple_116 : decode cX0_couple 116 = .ok (.iload 4, 2) := by decide +kernel
theorem dX0_couple_118 : decode cX0_couple 118 = .ok (.iload 5, 2) := by decide +kernel
theorem dX0_couple_120 : decode cX0_couple 120 = .ok (.iastore, 1) := by decide +kernel
theorem dX0_couple_121 : decode cX0_couple 121 = .ok (.aload_n 0, 1) := by decide +kernel
theorem dX0_couple_122 : decode cX0_couple 122 = .ok (.getfield 15, 3) := by decide +kernel
theorem dX0_couple_125 : decode cX0_couple 125 = .ok (.iload 5, 2) := by decide +kernel
theorem dX0_couple_127 : decode cX0_couple 127 = .ok (.iload 4, 2) := by decide +kernel
theorem dX0_couple_129 : decode cX0_couple 129 = .ok (.iastore, 1) := by decide +kernel
theorem dX0_couple_130 : decode cX0_couple 130 = .ok (.aload_n 0, 1) := by decide +kernel
theorem dX0_couple_131 : decode cX0_couple 131 = .ok (.dup, 1) := by decide +kernel
theorem dX0_couple_132 : decode cX0_couple 132 = .ok (.getfield 18, 3) := by decide +kernel
theorem dX0_couple_135 : decode cX0_couple 135 = .ok (.iconst 1, 1) := by decide +kernel
theorem dX0_couple_136 : decode cX0_couple 136 = .ok (.iadd, 1) := by decide +kernel
theorem dX0_couple_137 : decode cX0_couple 137 = .ok (.putfield 18, 3) := by decide +kernel
theorem dX0_couple_140 : decode cX0_couple 140 = .ok (.iinc 4 1, 3) := by decide +kernel
theorem dX0_couple_143 : decode cX0_couple 143 = .ok (.goto (-84), 3) := by decide +kernel
theorem dX0_couple_146 : decode cX0_couple 146 = .ok (.return_, 1) := by decide +kernel
theorem dX0_bestOf_0 : decode cX0_bestOf 0 = .ok (.iload_n 2, 1) := by decide +kernel
theorem dX0_bestOf_1 : decode cX0_bestOf 1 = .ok (.invokestatic 41, 3) := by decide +kernel
theorem dX0_bestOf_4 : decode cX0_bestOf 4 = .ok (.istore_n 3, 1) := by decide +kernel
theorem dX0_bestOf_5 : decode cX0_bestOf 5 = .ok (.aload_n 0, 1) := by decide +kernel
theorem dX0_bestOf_6 : decode cX0_bestOf 6 = .ok (.getfield 9, 3) := by decide +kernel
theorem dX0_bestOf_9 : decode cX0_bestOf 9 = .ok (.iload_n 2, 1) := by decide +kernel
theorem dX0_bestOf_10 : decode cX0_bestOf 10 = .ok (.iconst 1, 1) := by decide +kernel
theorem dX0_bestOf_11 : decode cX0_bestOf 11 = .ok (.iload_n 3, 1) := by decide +kernel
theorem dX0_bestOf_12 : decode cX0_bestOf 12 = .ok (.ishl, 1) := by decide +kernel
theorem dX0_bestOf_13 : decode cX0_bestOf 13 = .ok (.iconst (-1), 1) := by decide +kernel
theorem dX0_bestOf_14 : decode cX0_bestOf 14 = .ok (.ixor, 1) := by decide +kernel
theorem dX0_bestOf_15 : decode cX0_bestOf 15 = .ok (.iand, 1) := by decide +kernel
theorem dX0_bestOf_16 : decode cX0_bestOf 16 = .ok (.iaload, 1) := by decide +kernel
theorem dX0_bestOf_17 : decode cX0_bestOf 17 = .ok (.istore 4, 2) := by decide +kernel
theorem dX0_bestOf_19 : decode cX0_bestOf 19 = .ok (.iload_n 3, 1) := by decide +kernel
theorem dX0_bestOf_20 : decode cX0_bestOf 20 = .ok (.iconst 1, 1) := by decide +kernel
theorem dX0_bestOf_21 : decode cX0_bestOf 21 = .ok (.iadd, 1) := by decide +kernel
theorem dX0_bestOf_22 : decode cX0_bestOf 22 = .ok (.istore 5, 2) := by decide +kernel
theorem dX0_bestOf_24 : decode cX0_bestOf 24 = .ok (.iload 5, 2) := by decide +kernel
theorem dX0_bestOf_26 : decode cX0_bestOf 26 = .ok (.aload_n 1, 1) := by decide +kernel
theorem dX0_bestOf_27 : decode cX0_bestOf 27 = .ok (.getfield 22, 3) := by decide +kernel
theorem dX0_bestOf_30 : decode cX0_bestOf 30 = .ok (.if_icmp .ge 25, 3) := by decide +kernel
theorem dX0_bestOf_33 : decode cX0_bestOf 33 = .ok (.iload 4, 2) := by decide +kernel
theorem dX0_bestOf_35 : decode cX0_bestOf 35 = .ok (.aload_n 0, 1) := by decide +kernel
theorem dX0_bestOf_36 : decode cX0_bestOf 36 = .ok (.aload_n 1, 1) := by decide +kernel
theorem dX0_bestOf_37 : decode cX0_bestOf 37 = .ok (.iload_n 3, 1) := by decide +kernel
theorem dX0_bestOf_38 : decode cX0_bestOf 38 = .ok (.iload 5, 2) := by decide +kernel
theorem dX0_bestOf_40 : decode cX0_bestOf 40 = .ok (.iload_n 2, 1) := by decide +kernel
theorem dX0_bestOf_41 : decode cX0_bestOf 41 = .ok (.invokevirtual 45, 3) := by decide +kernel
theorem dX0_bestOf_44 : decode cX0_bestOf 44 = .ok (.invokestatic 49, 3) := by decide +kernel
theorem dX0_bestOf_47 : decode cX0_bestOf 47 = .ok (.istore 4, 2) := by decide +kernel
theorem dX0_bestOf_49 : decode cX0_bestOf 49 = .ok (.iinc 5 1, 3) := by decide +kernel
theorem dX0_bestOf_52 : decode cX0_bestOf 52 = .ok (.goto (-28), 3) := by decide +kernel
theorem dX0_bestOf_55 : decode cX0_bestOf 55 = .ok (.iload 4, 2) := by decide +kernel
theorem dX0_bestOf_57 : decode cX0_bestOf 57 = .ok (.ireturn, 1) := by decide +kernel
theorem dX0_firstOf_0 : decode cX0_firstOf 0 = .ok (.iconst 0, 1) := by decide +kernel
theorem dX0_firstOf_1 : decode cX0_firstOf 1 = .ok (.istore_n 1, 1) := by decide +kernel
theorem dX0_firstOf_2 : decode cX0_firstOf 2 = .ok (.iload_n 1, 1) := by decide +kernel
theorem dX0_firstOf_3 : decode cX0_firstOf 3 = .ok (.bipush 6, 2) := by decide +kernel
theorem dX0_firstOf_5 : decode cX0_firstOf 5 = .ok (.if_icmp .ge 17, 3) := by decide +kernel
theorem dX0_firstOf_8 : decode cX0_firstOf 8 = .ok (.iload_n 0, 1) := by decide +kernel
theorem dX0_firstOf_9 : decode cX0_firstOf 9 = .ok (.iload_n 1, 1) := by decide +kernel
theorem dX0_firstOf_10 : decode cX0_firstOf 10 = .ok (.ishr, 1) := by decide +kernel
theorem dX0_firstOf_11 : decode cX0_firstOf 11 = .ok (.iconst 1, 1) := by decide +kernel
theorem dX0_firstOf_12 : decode cX0_firstOf 12 = .ok (.iand, 1) := by decide +kernel
theorem dX0_firstOf_13 : decode cX0_firstOf 13 = .ok (.ifCond .ne 9, 3) := by decide +kernel
theorem dX0_firstOf_16 : decode cX0_firstOf 16 = .ok (.iinc 1 1, 3) := by decide +kernel
theorem dX0_firstOf_19 : decode cX0_firstOf 19 = .ok (.goto (-17), 3) := by decide +kernel
theorem dX0_firstOf_22 : decode cX0_firstOf 22 = .ok (.iload_n 1, 1) := by decide +kernel
theorem dX0_firstOf_23 : decode cX0_firstOf 23 = .ok (.ireturn, 1) := by decide +kernel
theorem dX0_firstBest_0 : decode cX0_firstBest 0 = .ok (.iload_n 2, 1) := by decide +kernel
theorem dX0_firstBest_1 : decode cX0_firstBest 1 = .ok (.iconst 1, 1) := by decide +kernel
theorem dX0_firstBest_2 : decode cX0_firstBest 2 = .ok (.iadd, 1) := by decide +kernel
theorem dX0_firstBest_3 : decode cX0_firstBest 3 = .ok (.istore 4, 2) := by decide +kernel
theorem dX0_firstBest_5 : decode cX0_firstBest 5 = .ok (.iload 4, 2) := by decide +kernel
theorem dX0_firstBest_7 : decode cX0_firstBest 7 = .ok (.aload_n 1, 1) := by decide +kernel
theorem dX0_firstBest_8 : decode cX0_firstBest 8 = .ok (.getfield 22, 3) := by decide +kernel
theorem dX0_firstBest_11 : decode cX0_firstBest 11 = .ok (.if_icmp .ge 30, 3) := by decide +kernel
theorem dX0_firstBest_14 : decode cX0_firstBest 14 = .ok (.aload_n 0, 1) := by decide +kernel
theorem dX0_firstBest_15 : decode cX0_firstBest 15 = .ok (.aload_n 1, 1) := by decide +kernel
theorem dX0_firstBest_16 : decode cX0_firstBest 16 = .ok (.iload_n 2, 1) := by decide +kernel
theorem dX0_firstBest_17 : decode cX0_firstBest 17 = .ok (.iload 4, 2) := by decide +kernel
theorem dX0_firstBest_19 : decode cX0_firstBest 19 = .ok (.iload_n 3, 1) := by decide +kernel
theorem dX0_firstBest_20 : decode cX0_firstBest 20 = .ok (.invokevirtual 45, 3) := by decide +kernel
theorem dX0_firstBest_23 : decode cX0_firstBest 23 = .ok (.aload_n 0, 1) := by decide +kernel
theorem dX0_firstBest_24 : decode cX0_firstBest 24 = .ok (.getfield 9, 3) := by decide +kernel
theorem dX0_firstBest_27 : decode cX0_firstBest 27 = .ok (.iload_n 3, 1) := by decide +kernel
theorem dX0_firstBest_28 : decode cX0_firstBest 28 = .ok (.iaload, 1) := by decide +kernel
theorem dX0_firstBest_29 : decode cX0_firstBest 29 = .ok (.if_icmp .ne 6, 3) := by decide +kernel
theorem dX0_firstBest_32 : decode cX0_firstBest 32 = .ok (.iload 4, 2) := by decide +kernel
theorem dX0_firstBest_34 : decode cX0_firstBest 34 = .ok (.ireturn, 1) := by decide +kernel
theorem dX0_firstBest_35 : decode cX0_firstBest 35 = .ok (.iinc 4 1, 3) := by decide +kernel
theorem dX0_firstBest_38 : decode cX0_firstBest 38 = .ok (.goto (-33), 3) := by decide +kernel
theorem dX0_firstBest_41 : decode cX0_firstBest 41 = .ok (.iconst (-1), 1) := by decide +kernel
theorem dX0_firstBest_42 : decode cX0_firstBest 42 = .ok (.ireturn, 1) := by decide +kernel
theorem dX0_worthWith_0 : decode cX0_worthWith 0 = .ok (.aload_n 1, 1) := by decide +kernel
theorem dX0_worthWith_1 : decode cX0_worthWith 1 = .ok (.getfield 55, 3) := by decide +kernel
theorem dX0_worthWith_4 : decode cX0_worthWith 4 = .ok (.iload_n 2, 1) := by decide +kernel
theorem dX0_worthWith_5 : decode cX0_worthWith 5 = .ok (.iaload, 1) := by decide +kernel
theorem dX0_worthWith_6 : decode cX0_worthWith 6 = .ok (.iload_n 3, 1) := by decide +kernel
theorem dX0_worthWith_7 : decode cX0_worthWith 7 = .ok (.ishr, 1) := by decide +kernel
theorem dX0_worthWith_8 : decode cX0_worthWith 8 = .ok (.iconst 1, 1) := by decide +kernel
theorem dX0_worthWith_9 : decode cX0_worthWith 9 = .ok (.iand, 1) := by decide +kernel
theorem dX0_worthWith_10 : decode cX0_worthWith 10 = .ok (.iconst 1, 1) := by decide +kernel
theorem dX0_worthWith_11 : decode cX0_worthWith 11 = .ok (.if_icmp .eq 17, 3) := by decide +kernel
theorem dX0_worthWith_14 : decode cX0_worthWith 14 = .ok (.aload_n 1, 1) := by decide +kernel
theorem dX0_worthWith_15 : decode cX0_worthWith 15 = .ok (.getfield 55, 3) := by decide +kernel
theorem dX0_worthWith_18 : decode cX0_worthWith 18 = .ok (.iload_n 3, 1) := by decide +kernel
theorem dX0_worthWith_19 : decode cX0_worthWith 19 = .ok (.iaload, 1) := by decide +kernel
theorem dX0_worthWith_20 : decode cX0_worthWith 20 = .ok (.iload_n 2, 1) := by decide +kernel
theorem dX0_worthWith_21 : decode cX0_worthWith 21 = .ok (.ishr, 1) := by decide +kernel
theorem dX0_worthWith_22 : decode cX0_worthWith 22 = .ok (.iconst 1, 1) := by decide +kernel
theorem dX0_worthWith_23 : decode cX0_worthWith 23 = .ok (.iand, 1) := by decide +kernel
theorem dX0_worthWith_24 : decode cX0_worthWith 24 = .ok (.iconst 1, 1) := by decide +kernel
theorem dX0_worthWith_25 : decode cX0_worthWith 25 = .ok (.if_icmp .ne 7, 3) := by decide +kernel
theorem dX0_worthWith_28 : decode cX0_worthWith 28 = .ok (.iconst 1, 1) := by decide +kernel
theorem dX0_worthWith_29 : decode cX0_worthWith 29 = .ok (.goto 4, 3) := by decide +kernel
theorem dX0_worthWith_32 : decode cX0_worthWith 32 = .ok (.iconst 0, 1) := by decide +kernel
theorem dX0_worthWith_33 : decode cX0_worthWith 33 = .ok (.istore 5, 2) := by decide +kernel
theorem dX0_worthWith_35 : decode cX0_worthWith 35 = .ok (.iload 4, 2) := by decide +kernel
theorem dX0_worthWith_37 : decode cX0_worthWith 37 = .ok (.iload_n 3, 1) := by decide +kernel
theorem dX0_worthWith_38 : decode cX0_worthWith 38 = .ok (.ishr, 1) := by decide +kernel
theorem dX0_worthWith_39 : decode cX0_worthWith 39 = .ok (.iconst 1, 1) := by decide +kernel
theorem dX0_worthWith_40 : decode cX0_worthWith 40 = .ok (.iand, 1) := by decide +kernel
theorem dX0_worthWith_41 : decode cX0_worthWith 41 = .ok (.ifCond .eq 8, 3) := by decide +kernel
theorem dX0_worthWith_44 : decode cX0_worthWith 44 = .ok (.iload 5, 2) := by decide +kernel
theorem dX0_worthWith_46 : decode cX0_worthWith 46 = .ok (.ifCond .eq 5, 3) := by decide +kernel
theorem dX0_worthWith_49 : decode cX0_worthWith 49 = .ok (.iconst (-1), 1) := by decide +kernel
theorem dX0_worthWith_50 : decode cX0_worthWith 50 = .ok (.ireturn, 1) := by decide +kernel
theorem dX0_worthWith_51 : decode cX0_worthWith 51 = .ok (.aload_n 1, 1) := by decide +kernel
theorem dX0_worthWith_52 : decode cX0_worthWith 52 = .ok (.aload_n 1, 1) := by decide +kernel
theorem dX0_worthWith_53 : decode cX0_worthWith 53 = .ok (.getfield 58, 3) := by decide +kernel
theorem dX0_worthWith_56 : decode cX0_worthWith 56 = .ok (.iload_n 2, 1) := by decide +kernel
theorem dX0_worthWith_57 : decode cX0_worthWith 57 = .ok (.iaload, 1) := by decide +kernel
theorem dX0_worthWith_58 : decode cX0_worthWith 58 = .ok (.aload_n 1, 1) := by decide +kernel
theorem dX0_worthWith_59 : decode cX0_worthWith 59 = .ok (.getfield 58, 3) := by decide +kernel
theorem dX0_worthWith_62 : decode cX0_worthWith 62 = .ok (.iload_n 3, 1) := by decide +kernel
theorem dX0_worthWith_63 : decode cX0_worthWith 63 = .ok (.iaload, 1) := by decide +kernel
theorem dX0_worthWith_64 : decode cX0_worthWith 64 = .ok (.invokevirtual 61, 3) := by decide +kernel
theorem dX0_worthWith_67 : decode cX0_worthWith 67 = .ok (.istore 6, 2) := by decide +kernel
theorem dX0_worthWith_69 : decode cX0_worthWith 69 = .ok (.aload_n 1, 1) := by decide +kernel
theorem dX0_worthWith_70 : decode cX0_worthWith 70 = .ok (.aload_n 1, 1) := by decide +kernel
theorem dX0_worthWith_71 : decode cX0_worthWith 71 = .ok (.getfield 58, 3) := by decide +kernel
theorem dX0_worthWith_74 : decode cX0_worthWith 74 = .ok (.iload_n 3, 1) := by decide +kernel
theorem dX0_worthWith_75 : decode cX0_worthWith 75 = .ok (.iaload, 1) := by decide +kernel
theorem dX0_worthWith_76 : decode cX0_worthWith 76 = .ok (.aload_n 1, 1) := by decide +kernel
theorem dX0_worthWith_77 : decode cX0_worthWith 77 = .ok (.getfield 58, 3) := by decide +kernel
theorem dX0_worthWith_80 : decode cX0_worthWith 80 = .ok (.iload_n 2, 1) := by decide +kernel
theorem dX0_worthWith_81 : decode cX0_worthWith 81 = .ok (.iaload, 1) := by decide +kernel
theorem dX0_worthWith_82 : decode cX0_worthWith 82 = .ok (.invokevirtual 61, 3) := by decide +kernel
theorem dX0_worthWith_85 : decode cX0_worthWith 85 = .ok (.istore 7, 2) := by decide +kernel
theorem dX0_worthWith_87 : decode cX0_worthWith 87 = .ok (.sipush 10000, 3) := by decide +kernel
theorem dX0_worthWith_90 : decode cX0_worthWith 90 = .ok (.iload 6, 2) := by decide +kernel
theorem dX0_worthWith_92 : decode cX0_worthWith 92 = .ok (.iload 7, 2) := by decide +kernel
theorem dX0_worthWith_94 : decode cX0_worthWith 94 = .ok (.invokestatic 64, 3) := by decide +kernel
theorem dX0_worthWith_97 : decode cX0_worthWith 97 = .ok (.isub, 1) := by decide +kernel
theorem dX0_worthWith_98 : decode cX0_worthWith 98 = .ok (.aload_n 0, 1) := by decide +kernel
theorem dX0_worthWith_99 : decode cX0_worthWith 99 = .ok (.getfield 9, 3) := by decide +kernel
theorem dX0_worthWith_102 : decode cX0_worthWith 102 = .ok (.iload 4, 2) := by decide +kernel
theorem dX0_worthWith_104 : decode cX0_worthWith 104 = .ok (.iconst 1, 1) := by decide +kernel
theorem dX0_worthWith_105 : decode cX0_worthWith 105 = .ok (.iload_n 2, 1) := by decide +kernel
theorem dX0_worthWith_106 : decode cX0_worthWith 106 = .ok (.ishl, 1) := by decide +kernel
theorem dX0_worthWith_107 : decode cX0_worthWith 107 = .ok (.iconst (-1), 1) := by decide +kernel
theorem dX0_worthWith_108 : decode cX0_worthWith 108 = .ok (.ixor, 1) := by decide +kernel
theorem dX0_worthWith_109 : decode cX0_worthWith 109 = .ok (.iand, 1) := by decide +kernel
theorem dX0_worthWith_110 : decode cX0_worthWith 110 = .ok (.iconst 1, 1) := by decide +kernel
theorem dX0_worthWith_111 : decode cX0_worthWith 111 = .ok (.iload_n 3, 1) := by decide +kernel
theorem dX0_worthWith_112 : decode cX0_worthWith 112 = .ok (.ishl, 1) := by decide +kernel
theorem dX0_worthWith_113 : decode cX0_worthWith 113 = .ok (.iconst (-1), 1) := by decide +kernel
theorem dX0_worthWith_114 : decode cX0_worthWith 114 = .ok (.ixor, 1) := by decide +kernel
theorem dX0_worthWith_115 : decode cX0_worthWith 115 = .ok (.iand, 1) := by decide +kernel
theorem dX0_worthWith_116 : decode cX0_worthWith 116 = .ok (.iaload, 1) := by decide +kernel
theorem dX0_worthWith_117 : decode cX0_worthWith 117 = .ok (.iadd, 1) := by decide +kernel
theorem dX0_worthWith_118 : decode cX0_worthWith 118 = .ok (.ireturn, 1) := by decide +kernel
theorem dX1_init_0 : decode cX1_init 0 = .ok (.aload_n 0, 1) := by decide +kernel
theorem dX1_init_1 : decode cX1_init 1 = .ok (.invokespecial 3, 3) := by decide +kernel
theorem dX1_init_4 : decode cX1_init 4 = .ok (.aload_n 0, 1) := by decide +kernel
theorem dX1_init_5 : decode cX1_init 5 = .ok (.sipush 400, 3) := by decide +kernel
theorem dX1_init_8 : decode cX1_init 8 = .ok (.newarray .int, 2) := by decide +kernel
theorem dX1_init_10 : decode cX1_init 10 = .ok (.putfield 9, 3) := by decide +kernel
theorem dX1_init_13 : decode cX1_init 13 = .ok (.aload_n 0, 1) := by decide +kernel
theorem dX1_init_14 : decode cX1_init 14 = .ok (.bipush 32, 2) := by decide +kernel
theorem dX1_init_16 : decode cX1_init 16 = .ok (.newarray .int, 2) := by decide +kernel
theorem dX1_init_18 : decode cX1_init 18 = .ok (.putfield 15, 3) := by decide +kernel
theorem dX1_init_21 : decode cX1_init 21 = .ok (.aload_n 0, 1) := by decide +kernel
theorem dX1_init_22 : decode cX1_init 22 = .ok (.iconst 0, 1) := by decide +kernel
theorem dX1_init_23 : decode cX1_init 23 = .ok (.putfield 18, 3) := by decide +kernel
theorem dX1_init_26 : decode cX1_init 26 = .ok (.aload_n 0, 1) := by decide +kernel
theorem dX1_init_27 : decode cX1_init 27 = .ok (.iconst (-1), 1) := by decide +kernel
theorem dX1_init_28 : decode cX1_init 28 = .ok (.putfield 22, 3) := by decide +kernel
theorem dX1_init_31 : decode cX1_init 31 = .ok (.return_, 1) := by decide +kernel
theorem dX1_become_0 : decode cX1_become 0 = .ok (.aload_n 1, 1) := by decide +kernel
theorem dX1_become_1 : decode cX1_become 1 = .ok (.getfield 9, 3) := by decide +kernel
theorem dX1_become_4 : decode cX1_become 4 = .ok (.iconst 0, 1) := by decide +kernel
theorem dX1_become_5 : decode cX1_become 5 = .ok (.aload_n 0, 1) := by decide +kernel
theorem dX1_become_6 : decode cX1_become 6 = .ok (.getfield 9, 3) := by decide +kernel
theorem dX1_become_9 : decode cX1_become 9 = .ok (.iconst 0, 1) := by decide +kernel
theorem dX1_become_10 : decode cX1_become 10 = .ok (.aload_n 0, 1) := by decide +kernel
theorem dX1_become_11 : decode cX1_become 11 = .ok (.getfield 9, 3) := by decide +kernel
theorem dX1_become_14 : decode cX1_become 14 = .ok (.arraylength, 1) := by decide +kernel
theorem dX1_become_15 : decode cX1_become 15 = .ok (.invokestatic 25, 3) := by decide +kernel
theorem dX1_become_18 : decode cX1_become 18 = .ok (.aload_n 0, 1) := by decide +kernel
theorem dX1_become_19 : decode cX1_become 19 = .ok (.aload_n 1, 1) := by decide +kernel
theorem dX1_become_20 : decode cX1_become 20 = .ok (.getfield 18, 3) := by decide +kernel
theorem dX1_become_23 : decode cX1_become 23 = .ok (.putfield 18, 3) := by decide +kernel
theorem dX1_become_26 : decode cX1_become 26 = .ok (.aload_n 0, 1) := by decide +kernel
theorem dX1_become_27 : decode cX1_become 27 = .ok (.aload_n 1, 1) := by decide +kernel
theorem dX1_become_28 : decode cX1_become 28 = .ok (.getfield 22, 3) := by decide +kernel
theorem dX1_become_31 : decode cX1_become 31 = .ok (.putfield 22, 3) := by decide +kernel
theorem dX1_become_34 : decode cX1_become 34 = .ok (.return_, 1) := by decide +kernel
theorem dX1_clear_0 : decode cX1_clear 0 = .ok (.aload_n 0, 1) := by decide +kernel
theorem dX1_clear_1 : decode cX1_clear 1 = .ok (.iconst 0, 1) := by decide +kernel
theorem dX1_clear_2 : decode cX1_clear 2 = .ok (.putfield 18, 3) := by decide +kernel
theorem dX1_clear_5 : decode cX1_clear 5 = .ok (.aload_n 0, 1) := by decide +kernel
theorem dX1_clear_6 : decode cX1_clear 6 = .ok (.iconst 0, 1) := by decide +kernel
theorem dX1_clear_7 : decode cX1_clear 7 = .ok (.putfield 22, 3) := by decide +kernel
theorem dX1_clear_10 : decode cX1_clear 10 = .ok (.return_, 1) := by decide +kernel
theorem dX1_emit_0 : decode cX1_emit 0 = .ok (.aload_n 0, 1) := by decide +kernel
theorem dX1_emit_1 : decode cX1_emit 1 = .ok (.getfield 18, 3) := by decide +kernel
theorem dX1_emit_4 : decode cX1_emit 4 = .ok (.aload_n 0, 1) := by decide +kernel
theorem dX1_emit_5 : decode cX1_emit 5 = .ok (.getfield 9, 3) := by decide +kernel
theorem dX1_emit_8 : decode cX1_emit 8 = .ok (.arraylength, 1) := by decide +kernel
theorem dX1_emit_9 : decode cX1_emit 9 = .ok (.if_icmp .ge 23, 3) := by decide +kernel
theorem dX1_emit_12 : decode cX1_emit 12 = .ok (.aload_n 0, 1) := by decide +kernel
theorem dX1_emit_13 : decode cX1_emit 13 = .ok (.getfield 9, 3) := by decide +kernel
theorem dX1_emit_16 : decode cX1_emit 16 = .ok (.aload_n 0, 1) := by decide +kernel
theorem dX1_emit_17 : decode cX1_emit 17 = .ok (.getfield 18, 3) := by decide +kernel
theorem dX1_emit_20 : decode cX1_emit 20 = .ok (.iload_n 1, 1) := by decide +kernel
theorem dX1_emit_21 : decode cX1_emit 21 = .ok (.iastore, 1) := by decide +kernel
theorem dX1_emit_22 : decode cX1_emit 22 = .ok (.aload_n 0, 1) := by decide +kernel
theorem dX1_emit_23 : decode cX1_emit 23 = .ok (.dup, 1) := by decide +kernel
theorem dX1_emit_24 : decode cX1_emit 24 = .ok (.getfield 18, 3) := by decide +kernel
theorem dX1_emit_27 : decode cX1_emit 27 = .ok (.iconst 1, 1) := by decide +kernel
theorem dX1_emit_28 : decode cX1_emit 28 = .ok (.iadd, 1) := by decide +kernel
theorem dX1_emit_29 : decode cX1_emit 29 = .ok (.putfield 18, 3) := by decide +kernel
theorem dX1_emit_32 : decode cX1_emit 32 = .ok (.return_, 1) := by decide +kernel
theorem dX1_closeLine_0 : decode cX1_closeLine 0 = .ok (.iload_n 1, 1) := by decide +kernel
theorem dX1_closeLine_1 : decode cX1_closeLine 1 = .ok (.ifCond .lt 35, 3) := by decide +kernel
theorem dX1_closeLine_4 : decode cX1_closeLine 4 = .ok (.iload_n 1, 1) := by decide +kernel
theorem dX1_closeLine_5 : decode cX1_closeLine 5 = .ok (.iconst 1, 1) := by decide +kernel
theorem dX1_closeLine_6 : decode cX1_closeLine 6 = .ok (.iadd, 1) := by decide +kernel
theorem dX1_closeLine_7 : decode cX1_closeLine 7 = .ok (.aload_n 0, 1) := by decide +kernel
theorem dX1_closeLine_8 : decode cX1_closeLine 8 = .ok (.getfield 18, 3) := by decide +kernel
theorem dX1_closeLine_11 : decode cX1_closeLine 11 = .ok (.if_icmp .ge 25, 3) := by decide +kernel
theorem dX1_closeLine_14 : decode cX1_closeLine 14 = .ok (.aload_n 0, 1) := by decide +kernel
theorem dX1_closeLine_15 : decode cX1_closeLine 15 = .ok (.getfield 9, 3) := by decide +kernel
theorem dX1_closeLine_18 : decode cX1_closeLine 18 = .ok (.iload_n 1, 1) := by decide +kernel
theorem dX1_closeLine_19 : decode cX1_closeLine 19 = .ok (.iconst 1, 1) := by decide +kernel
theorem dX1_closeLine_20 : decode cX1_closeLine 20 = .ok (.iadd, 1) := by decide +kernel
theorem dX1_closeLine_21 : decode cX1_closeLine 21 = .ok (.aload_n 0, 1) := by decide +kernel
theorem dX1_closeLine_22 : decode cX1_closeLine 22 = .ok (.getfield 18, 3) := by decide +kernel
theorem dX1_closeLine_25 : decode cX1_closeLine 25 = .ok (.iastore, 1) := by decide +kernel
theorem dX1_closeLine_26 : decode cX1_closeLine 26 = .ok (.aload_n 0, 1) := by decide +kernel
theorem dX1_closeLine_27 : decode cX1_closeLine 27 = .ok (.dup, 1) := by decide +kernel
theorem dX1_closeLine_28 : decode cX1_closeLine 28 = .ok (.getfield 22, 3) := by decide +kernel
theorem dX1_closeLine_31 : decode cX1_closeLine 31 = .ok (.iconst 1, 1) := by decide +kernel
theorem dX1_closeLine_32 : decode cX1_closeLine 32 = .ok (.iadd, 1) := by decide +kernel
theorem dX1_closeLine_33 : decode cX1_closeLine 33 = .ok (.putfield 22, 3) := by decide +kernel
theorem dX1_closeLine_36 : decode cX1_closeLine 36 = .ok (.return_, 1) := by decide +kernel
theorem dX1_strideOf_0 : decode cX1_strideOf 0 = .ok (.iload_n 2, 1) := by decide +kernel
theorem dX1_strideOf_1 : decode cX1_strideOf 1 = .ok (.ifCond .lt 12, 3) := by decide +kernel
theorem dX1_strideOf_4 : decode cX1_strideOf 4 = .ok (.iload_n 2, 1) := by decide +kernel
theorem dX1_strideOf_5 : decode cX1_strideOf 5 = .ok (.aload_n 1, 1) := by decide +kernel
theorem dX1_strideOf_6 : decode cX1_strideOf 6 = .ok (.getfield 31, 3) := by decide +kernel
theorem dX1_strideOf_9 : decode cX1_strideOf 9 = .ok (.arraylength, 1) := by decide +kernel
theorem dX1_strideOf_10 : decode cX1_strideOf 10 = .ok (.if_icmp .lt 5, 3) := by decide +kernel
theorem dX1_strideOf_13 : decode cX1_strideOf 13 = .ok (.iconst 0, 1) := by decide +kernel
theorem dX1_strideOf_14 : decode cX1_strideOf 14 = .ok (.ireturn, 1) := by decide +kernel
theorem dX1_strideOf_15 : decode cX1_strideOf 15 = .ok (.aload_n 1, 1) := by decide +kernel
theorem dX1_strideOf_16 : decode cX1_strideOf 16 = .ok (.getfield 31, 3) := by decide +kernel
theorem dX1_strideOf_19 : decode cX1_strideOf 19 = .ok (.iload_n 2, 1) := by decide +kernel
theorem dX1_strideOf_20 : decode cX1_strideOf 20 = .ok (.iaload, 1) := by decide +kernel
theorem dX1_strideOf_21 : decode cX1_strideOf 21 = .ok (.istore_n 3, 1) := by decide +kernel
theorem dX1_strideOf_22 : decode cX1_strideOf 22 = .ok (.iconst 0, 1) := by decide +kernel
theorem dX1_strideOf_23 : decode cX1_strideOf 23 = .ok (.istore 4, 2) := by decide +kernel
theorem dX1_strideOf_25 : decode cX1_strideOf 25 = .ok (.iconst 0, 1) := by decide +kernel
theorem dX1_strideOf_26 : decode cX1_strideOf 26 = .ok (.istore 5, 2) := by decide +kernel
theorem dX1_strideOf_28 : decode cX1_strideOf 28 = .ok (.iload 5, 2) := by decide +kernel
theorem dX1_strideOf_30 : decode cX1_strideOf 30 = .ok (.aload_n 0, 1) := by decide +kernel
theorem dX1_strideOf_31 : decode cX1_strideOf 31 = .ok (.getfield 22, 3) := by decide +kernel
theorem dX1_strideOf_34 : decode cX1_strideOf 34 = .ok (.if_icmp .ge 81, 3) := by decide +kernel
theorem dX1_strideOf_37 : decode cX1_strideOf 37 = .ok (.iload 4, 2) := by decide +kernel
theorem dX1_strideOf_39 : decode cX1_strideOf 39 = .ok (.ifCond .lt 76, 3) := by decide +kernel
theorem dX1_strideOf_42 : decode cX1_strideOf 42 = .ok (.iload 4, 2) := by decide +kernel
theorem dX1_strideOf_44 : decode cX1_strideOf 44 = .ok (.iconst 1, 1) := by decide +kernel
theorem dX1_strideOf_45 : decode cX1_strideOf 45 = .ok (.iadd, 1) := by decide +kernel
theorem dX1_strideOf_46 : decode cX1_strideOf 46 = .ok (.aload_n 0, 1) := by decide +kernel
theorem dX1_strideOf_47 : decode cX1_strideOf 47 = .ok (.getfield 9, 3) := by decide +kernel
theorem dX1_strideOf_50 : decode cX1_strideOf 50 = .ok (.arraylength, 1) := by decide +kernel
theorem dX1_strideOf_51 : decode cX1_strideOf 51 = .ok (.if_icmp .ge 64, 3) := by decide +kernel
theorem dX1_strideOf_54 : decode cX1_strideOf 54 = .ok (.aload_n 0, 1) := by decide +kernel
theorem dX1_strideOf_55 : decode cX1_strideOf 55 = .ok (.getfield 9, 3) := by decide +kernel
theorem dX1_strideOf_58 : decode cX1_strideOf 58 = .ok (.iload 4, 2) := by decide +kernel
theorem dX1_strideOf_60 : decode cX1_strideOf 60 = .ok (.iconst 1, 1) := by decide +kernel
theorem dX1_strideOf_61 : decode cX1_strideOf 61 = .ok (.iadd, 1) := by decide +kernel
theorem dX1_strideOf_62 : decode cX1_strideOf 62 = .ok (.iaload, 1) := by decide +kernel
theorem dX1_strideOf_63 : decode cX1_strideOf 63 = .ok (.istore 6, 2) := by decide +kernel
theorem dX1_strideOf_65 : decode cX1_strideOf 65 = .ok (.aload_n 0, 1) := by decide +kernel
theorem dX1_strideOf_66 : decode cX1_strideOf 66 = .ok (.iload 4, 2) := by decide +kernel
theorem dX1_strideOf_68 : decode cX1_strideOf 68 = .ok (.iconst 2, 1) := by decide +kernel
theorem dX1_strideOf_69 : decode cX1_strideOf 69 = .ok (.iadd, 1) := by decide +kernel
theorem dX1_strideOf_70 : decode cX1_strideOf 70 = .ok (.iload 6, 2) := by decide +kernel
theorem dX1_strideOf_72 : decode cX1_strideOf 72 = .ok (.aload_n 1, 1) := by decide +kernel
theorem dX1_strideOf_73 : decode cX1_strideOf 73 = .ok (.iload_n 2, 1) := by decide +kernel
theorem dX1_strideOf_74 : decode cX1_strideOf 74 = .ok (.invokevirtual 36, 3) := by decide +kernel
theorem dX1_strideOf_77 : decode cX1_strideOf 77 = .ok (.ifCond .eq 28, 3) := by decide +kernel
theorem dX1_strideOf_80 : decode cX1_strideOf 80 = .ok (.aload_n 0, 1) := by decide +kernel
theorem dX1_strideOf_81 : decode cX1_strideOf 81 = .ok (.getfield 9, 3) := by decide +kernel
theorem dX1_strideOf_84 : decode cX1_strideOf 84 = .ok (.iload 4, 2) := by decide +kernel
theorem dX1_strideOf_86 : decode cX1_strideOf 86 = .ok (.iaload, 1) := by decide +kernel
theorem dX1_strideOf_87 : decode cX1_strideOf 87 = .ok (.sipush 1000, 3) := by decide +kernel
theorem dX1_strideOf_90 : decode cX1_strideOf 90 = .ok (.if_icmp .ne 5, 3) := by decide +kernel
theorem dX1_strideOf_93 : decode cX1_strideOf 93 = .ok (.iconst 0, 1) := by decide +kernel
theorem dX1_strideOf_94 : decode cX1_strideOf 94 = .ok (.ireturn, 1) := by decide +kernel
theorem dX1_strideOf_95 : decode cX1_strideOf 95 = .ok (.iload_n 3, 1) := by decide +kernel
theorem dX1_strideOf_96 : decode cX1_strideOf 96 = .ok (.aload_n 0, 1) := by decide +kernel
theorem dX1_strideOf_97 : decode cX1_strideOf 97 = .ok (.getfield 9, 3) := by decide +kernel
theorem dX1_strideOf_100 : decode cX1_strideOf 100 = .ok (.iload 4, 2) := by decide +kernel
theorem dX1_strideOf_102 : decode cX1_strideOf 102 = .ok (.iaload, 1) := by decide +kernel
theorem dX1_strideOf_103 : decode cX1_strideOf 103 = .ok (.iadd, 1) := by decide +kernel
theorem dX1_strideOf_104 : decode cX1_strideOf 104 = .ok (.istore_n 3, 1) := by decide +kernel
theorem dX1_strideOf_105 : decode cX1_strideOf 105 = .ok (.iload 6, 2) := by decide +kernel
theorem dX1_strideOf_107 : decode cX1_strideOf 107 = .ok (.istore 4, 2) := by decide +kernel
theorem dX1_strideOf_109 : decode cX1_strideOf 109 = .ok (.iinc 5 1, 3) := by decide +kernel
theorem dX1_strideOf_112 : decode cX1_strideOf 112 = .ok (.goto (-84), 3) := by decide +kernel
theorem dX1_strideOf_115 : decode cX1_strideOf 115 = .ok (.iconst 0, 1) := by decide +kernel
theorem dX1_strideOf_116 : decode cX1_strideOf 116 = .ok (.iload_n 3, 1) := by decide +kernel
theorem dX1_strideOf_117 : decode cX1_strideOf 117 = .ok (.aload_n 1, 1) := by decide +kernel
theorem dX1_strideOf_118 : decode cX1_strideOf 118 = .ok (.getfield 40, 3) := by decide +kernel
theorem dX1_strideOf_121 : decode cX1_strideOf 121 = .ok (.iconst 1, 1) := by decide +kernel
theorem dX1_strideOf_122 : decode cX1_strideOf 122 = .ok (.isub, 1) := by decide +kernel
theorem dX1_strideOf_123 : decode cX1_strideOf 123 = .ok (.invokestatic 43, 3) := by decide +kernel
theorem dX1_strideOf_126 : decode cX1_strideOf 126 = .ok (.invokestatic 49, 3) := by decide +kernel
theorem dX1_strideOf_129 : decode cX1_strideOf 129 = .ok (.ireturn, 1) := by decide +kernel
theorem dX1_holds_0 : decode cX1_holds 0 = .ok (.iconst 0, 1) := by decide +kernel
theorem dX1_holds_1 : decode cX1_holds 1 = .ok (.istore 5, 2) := by decide +kernel
theorem dX1_holds_3 : decode cX1_holds 3 = .ok (.iload_n 1, 1) := by decide +kernel
theorem dX1_holds_4 : decode cX1_holds 4 = .ok (.istore 6, 2) := by decide +kernel
theorem dX1_holds_6 : decode cX1_holds 6 = .ok (.iload 6, 2) := by decide +kernel
theorem dX1_holds_8 : decode cX1_holds 8 = .ok (.iload_n 2, 1) := by decide +kernel
theorem dX1_holds_9 : decode cX1_holds 9 = .ok (.if_icmp .ge 162, 3) := by decide +kernel
theorem dX1_holds_12 : decode cX1_holds 12 = .ok (.iload 6, 2) := by decide +kernel
theorem dX1_holds_14 : decode cX1_holds 14 = .ok (.aload_n 0, 1) := by decide +kernel
theorem dX1_holds_15 : decode cX1_holds 15 = .ok (.getfield 9, 3) := by decide +kernel
theorem dX1_holds_18 : decode cX1_holds 18 = .ok (.arraylength, 1) := by decide +kernel
theorem dX1_holds_19 : decode cX1_holds 19 = .ok (.if_icmp .ge 152, 3) := by decide +kernel
theorem dX1_holds_22 : decode cX1_holds 22 = .ok (.aload_n 0, 1) := by decide +kernel
theorem dX1_holds_23 : decode cX1_holds 23 = .ok (.getfield 9, 3) := by decide +kernel
theorem dX1_holds_26 : decode cX1_holds 26 = .ok (.iload 6, 2) := by decide +kernel
theorem dX1_holds_28 : decode cX1_holds 28 = .ok (.iaload, 1) := by decide +kernel
theorem dX1_holds_29 : decode cX1_holds 29 = .ok (.istore 7, 2) := by decide +kernel
theorem dX1_holds_31 : decode cX1_holds 31 = .ok (.iload 7, 2) := by decide +kernel
theorem dX1_holds_33 : decode cX1_holds 33 = .ok (.sipush 1010, 3) := by decide +kernel
theorem dX1_holds_36 : decode cX1_holds 36 = .ok (.if_icmp .ge 49, 3) := by decide +kernel
theorem dX1_holds_39 : decode cX1_holds 39 = .ok (.iload 5, 2) := by decide +kernel
theorem dX1_holds_41 : decode cX1_holds 41 = .ok (.aload_n 0, 1) := by decide +kernel
theorem dX1_holds_42 : decode cX1_holds 42 = .ok (.getfield 15, 3) := by decide +kernel
theorem dX1_holds_45 : decode cX1_holds 45 = .ok (.arraylength, 1) := by decide +kernel
theorem dX1_holds_46 : decode cX1_holds 46 = .ok (.if_icmp .lt 5, 3) := by decide +kernel
theorem dX1_holds_49 : decode cX1_holds 49 = .ok (.iconst 0, 1) := by decide +kernel
theorem dX1_holds_50 : decode cX1_holds 50 = .ok (.ireturn, 1) := by decide +kernel
theorem dX1_holds_51 : decode cX1_holds 51 = .ok (.aload_n 0, 1) := by decide +kernel
theorem dX1_holds_52 : decode cX1_holds 52 = .ok (.getfield 15, 3) := by decide +kernel
theorem dX1_holds_55 : decode cX1_holds 55 = .ok (.iload 5, 2) := by decide +kernel
theorem dX1_holds_57 : decode cX1_holds 57 = .ok (.iload 7, 2) := by decide +kernel
theorem dX1_holds_59 : decode cX1_holds 59 = .ok (.sipush 1000, 3) := by decide +kernel
theorem dX1_holds_62 : decode cX1_holds 62 = .ok (.if_icmp .ge 8, 3) := by decide +kernel
theorem dX1_holds_65 : decode cX1_holds 65 = .ok (.iload 7, 2) := by decide +kernel
theorem dX1_holds_67 : decode cX1_holds 67 = .ok (.goto 11, 3) := by decide +kernel
theorem dX1_holds_70 : decode cX1_holds 70 = .ok (.aload_n 3, 1) := by decide +kernel
theorem dX1_holds_71 : decode cX1_holds 71 = .ok (.iload 4, 2) := by decide +kernel
theorem dX1_holds_73 : decode cX1_holds 73 = .ok (.iload 7, 2) := by decide +kernel
theorem dX1_holds_75 : decode cX1_holds 75 = .ok (.invokevirtual 52, 3) := by decide +kernel
theorem dX1_holds_78 : decode cX1_holds 78 = .ok (.iastore, 1) := by decide +kernel
theorem dX1_holds_79 : decode cX1_holds 79 = .ok (.iinc 5 1, 3) := by decide +kernel
theorem dX1_holds_82 : decode cX1_holds 82 = .ok (.goto 83, 3) := by decide +kernel
theorem dX1_holds_85 : decode cX1_holds 85 = .ok (.iload 7, 2) := by decide +kernel
theorem dX1_holds_87 : decode cX1_holds 87 = .ok (.sipush 1010, 3) := by decide +kernel
theorem dX1_holds_90 : decode cX1_holds 90 = .ok (.if_icmp .ne 34, 3) := by decide +kernel
theorem dX1_holds_93 : decode cX1_holds 93 = .ok (.iload 5, 2) := by decide +kernel
theorem dX1_holds_95 : decode cX1_holds 95 = .ok (.iconst 1, 1) := by decide +kernel
theorem dX1_holds_96 : decode cX1_holds 96 = .ok (.if_icmp .ge 5, 3) := by decide +kernel
theorem dX1_holds_99 : decode cX1_holds 99 = .ok (.iconst 0, 1) := by decide +kernel
theorem dX1_holds_100 : decode cX1_holds 100 = .ok (.ireturn, 1) := by decide +kernel
theorem dX1_holds_101 : decode cX1_holds 101 = .ok (.aload_n 0, 1) := by decide +kernel
theorem dX1_holds_102 : decode cX1_holds 102 = .ok (.getfield 15, 3) := by decide +kernel
theorem dX1_holds_105 : decode cX1_holds 105 = .ok (.iload 5, 2) := by decide +kernel
theorem dX1_holds_107 : decode cX1_holds 107 = .ok (.iconst 1, 1) := by decide +kernel
theorem dX1_holds_108 : decode cX1_holds 108 = .ok (.isub, 1) := by decide +kernel
theorem dX1_holds_109 : decode cX1_holds 109 = .ok (.iconst 1, 1) := by decide +kernel
theorem dX1_holds_110 : decode cX1_holds 110 = .ok (.aload_n 0, 1) := by decide +kernel
theorem dX1_holds_111 : decode cX1_holds 111 = .ok (.getfield 15, 3) := by decide +kernel
theorem dX1_holds_114 : decode cX1_holds 114 = .ok (.iload 5, 2) := by decide +kernel
theorem dX1_holds_116 : decode cX1_holds 116 = .ok (.iconst 1, 1) := by decide +kernel
theorem dX1_holds_117 : decode cX1_holds 117 = .ok (.isub, 1) := by decide +kernel
theorem dX1_holds_118 : decode cX1_holds 118 = .ok (.iaload, 1) := by decide +kernel
theorem dX1_holds_119 : decode cX1_holds 119 = .ok (.isub, 1) := by decide +kernel
theorem dX1_holds_120 : decode cX1_holds 120 = .ok (.iastore, 1) := by decide +kernel
theorem dX1_holds_121 : decode cX1_holds 121 = .ok (.goto 44, 3) := by decide +kernel
theorem dX1_holds_124 : decode cX1_holds 124 = .ok (.iload 5, 2) := by decide +kernel
theorem dX1_holds_126 : decode cX1_holds 126 = .ok (.iconst 2, 1) := by decide +kernel
theorem dX1_holds_127 : decode cX1_holds 127 = .ok (.if_icmp .ge 5, 3) := by decide +kernel
theorem dX1_holds_130 : decode cX1_holds 130 = .ok (.iconst 0, 1) := by decide +kernel
theorem dX1_holds_131 : decode cX1_holds 131 = .ok (.ireturn, 1) := by decide +kernel
theorem dX1_holds_132 : decode cX1_holds 132 = .ok (.iinc 5 (-1), 3) := by decide +kernel
theorem dX1_holds_135 : decode cX1_holds 135 = .ok (.aload_n 0, 1) := by decide +kernel
theorem dX1_holds_136 : decode cX1_holds 136 = .ok (.getfield 15, 3) := by decide +kernel
theorem dX1_holds_139 : decode cX1_holds 139 = .ok (.iload 5, 2) := by decide +kernel
theorem dX1_holds_141 : decode cX1_holds 141 = .ok (.iconst 1, 1) := by decide +kernel
theorem dX1_holds_142 : decode cX1_holds 142 = .ok (.isub, 1) := by decide +kernel
theorem dX1_holds_143 : decode cX1_holds 143 = .ok (.iload 7, 2) := by decide +kernel
theorem dX1_holds_145 : decode cX1_holds 145 = .ok (.aload_n 0, 1) := by decide +kernel
theorem dX1_holds_146 : decode cX1_holds 146 = .ok (.getfield 15, 3) := by decide +kernel
theorem dX1_holds_149 : decode cX1_holds 149 = .ok (.iload 5, 2) := by decide +kernel
theorem dX1_holds_151 : decode cX1_holds 151 = .ok (.iconst 1, 1) := by decide +kernel
theorem dX1_holds_152 : decode cX1_holds 152 = .ok (.isub, 1) := by decide +kernel
theorem dX1_holds_153 : decode cX1_holds 153 = .ok (.iaload, 1) := by decide +kernel
theorem dX1_holds_154 : decode cX1_holds 154 = .ok (.aload_n 0, 1) := by decide +kernel
theorem dX1_holds_155 : decode cX1_holds 155 = .ok (.getfield 15, 3) := by decide +kernel
theorem dX1_holds_158 : decode cX1_holds 158 = .ok (.iload 5, 2) := by decide +kernel
theorem dX1_holds_160 : decode cX1_holds 160 = .ok (.iaload, 1) := by decide +kernel
theorem dX1_holds_161 : decode cX1_holds 161 = .ok (.invokestatic 55, 3) := by decide +kernel
theorem dX1_holds_164 : decode cX1_holds 164 = .ok (.iastore, 1) := by decide +kernel
theorem dX1_holds_165 : decode cX1_holds 165 = .ok (.iinc 6 1, 3) := by decide +kernel
theorem dX1_holds_168 : decode cX1_holds 168 = .ok (.goto (-162), 3) := by decide +kernel
theorem dX1_holds_171 : decode cX1_holds 171 = .ok (.iload 5, 2) := by decide +kernel
theorem dX1_holds_173 : decode cX1_holds 173 = .ok (.ifCond .eq 13, 3) := by decide +kernel
theorem dX1_holds_176 : decode cX1_holds 176 = .ok (.aload_n 0, 1) := by decide +kernel
theorem dX1_holds_177 : decode cX1_holds 177 = .ok (.getfield 15, 3) := by decide +kernel
theorem dX1_holds_180 : decode cX1_holds 180 = .ok (.iconst 0, 1) := by decide +kernel
theorem dX1_holds_181 : decode cX1_holds 181 = .ok (.iaload, 1) := by decide +kernel
theorem dX1_holds_182 : decode cX1_holds 182 = .ok (.iconst 1, 1) := by decide +kernel
theorem dX1_holds_183 : decode cX1_holds 183 = .ok (.if_icmp .ne 7, 3) := by decide +kernel
theorem dX1_holds_186 : decode cX1_holds 186 = .ok (.iconst 1, 1) := by decide +kernel
theorem dX1_holds_187 : decode cX1_holds 187 = .ok (.goto 4, 3) := by decide +kernel
theorem dX1_holds_190 : decode cX1_holds 190 = .ok (.iconst 0, 1) := by decide +kernel
theorem dX1_holds_191 : decode cX1_holds 191 = .ok (.ireturn, 1) := by decide +kernel
theorem dX1_joined_0 : decode cX1_joined 0 = .ok (.iload_n 0, 1) := by decide +kernel
theorem dX1_joined_1 : decode cX1_joined 1 = .ok (.tableswitch 61 1011 1014 #[31, 35, 39, 50], 31) := by decide +kernel
theorem dX1_joined_32 : decode cX1_joined 32 = .ok (.iload_n 1, 1) := by decide +kernel
theorem dX1_joined_33 : decode cX1_joined 33 = .ok (.iload_n 2, 1) := by decide +kernel
theorem dX1_joined_34 : decode cX1_joined 34 = .ok (.iand, 1) := by decide +kernel
theorem dX1_joined_35 : decode cX1_joined 35 = .ok (.ireturn, 1) := by decide +kernel
theorem dX1_joined_36 : decode cX1_joined 36 = .ok (.iload_n 1, 1) := by decide +kernel
theorem dX1_joined_37 : decode cX1_joined 37 = .ok (.iload_n 2, 1) := by decide +kernel
theorem dX1_joined_38 : decode cX1_joined 38 = .ok (.ior, 1) := by decide +kernel
theorem dX1_joined_39 : decode cX1_joined 39 = .ok (.ireturn, 1) := by decide +kernel
theorem dX1_joined_40 : decode cX1_joined 40 = .ok (.iload_n 1, 1) := by decide +kernel
theorem dX1_joined_41 : decode cX1_joined 41 = .ok (.iload_n 2, 1) := by decide +kernel
theorem dX1_joined_42 : decode cX1_joined 42 = .ok (.if_icmp .ge 7, 3) := by decide +kernel
theorem dX1_joined_45 : decode cX1_joined 45 = .ok (.iconst 1, 1) := by decide +kernel
theorem dX1_joined_46 : decode cX1_joined 46 = .ok (.goto 4, 3) := by decide +kernel
theorem dX1_joined_49 : decode cX1_joined 49 = .ok (.iconst 0, 1) := by decide +kernel
theorem dX1_joined_50 : decode cX1_joined 50 = .ok (.ireturn, 1) := by decide +kernel
theorem dX1_joined_51 : decode cX1_joined 51 = .ok (.iload_n 1, 1) := by decide +kernel
theorem dX1_joined_52 : decode cX1_joined 52 = .ok (.iload_n 2, 1) := by decide +kernel
theorem dX1_joined_53 : decode cX1_joined 53 = .ok (.if_icmp .le 7, 3) := by decide +kernel
theorem dX1_joined_56 : decode cX1_joined 56 = .ok (.iconst 1, 1) := by decide +kernel
theorem dX1_joined_57 : decode cX1_joined 57 = .ok (.goto 4, 3) := by decide +kernel
theorem dX1_joined_60 : decode cX1_joined 60 = .ok (.iconst 0, 1) := by decide +kernel
theorem dX1_joined_61 : decode cX1_joined 61 = .ok (.ireturn, 1) := by decide +kernel
theorem dX1_joined_62 : decode cX1_joined 62 = .ok (.iload_n 1, 1) := by decide +kernel
theorem dX1_joined_63 : decode cX1_joined 63 = .ok (.iload_n 2, 1) := by decide +kernel
theorem dX1_joined_64 : decode cX1_joined 64 = .ok (.iadd, 1) := by decide +kernel
theorem dX1_joined_65 : decode cX1_joined 65 = .ok (.ireturn, 1) := by decide +kernel
theorem dX2_init_0 : decode cX2_init 0 = .ok (.aload_n 0, 1) := by decide +kernel
theorem dX2_init_1 : decode cX2_init 1 = .ok (.invokespecial 3, 3) := by decide +kernel
theorem dX2_init_4 : decode cX2_init 4 = .ok (.aload_n 0, 1) := by decide +kernel
theorem dX2_init_5 : decode cX2_init 5 = .ok (.new 9, 3) := by decide +kernel
theorem dX2_init_8 : decode cX2_init 8 = .ok (.dup, 1) := by decide +kernel
theorem dX2_init_9 : decode cX2_init 9 = .ok (.invokespecial 11, 3) := by decide +kernel
theorem dX2_init_12 : decode cX2_init 12 = .ok (.putfield 12, 3) := by decide +kernel
theorem dX2_init_15 : decode cX2_init 15 = .ok (.return_, 1) := by decide +kernel
theorem dX2_readLine_0 : decode cX2_readLine 0 = .ok (.sipush 1000, 3) := by decide +kernel
theorem dX2_readLine_3 : decode cX2_readLine 3 = .ok (.istore_n 1, 1) := by decide +kernel
theorem dX2_readLine_4 : decode cX2_readLine 4 = .ok (.aload_n 0, 1) := by decide +kernel
theorem dX2_readLine_5 : decode cX2_readLine 5 = .ok (.getstatic 18, 3) := by decide +kernel
theorem dX2_readLine_8 : decode cX2_readLine 8 = .ok (.invokevirtual 24, 3) := by decide +kernel
theorem dX2_readLine_11 : decode cX2_readLine 11 = .ok (.ifCond .ne 57, 3) := by decide +kernel
theorem dX2_readLine_14 : decode cX2_readLine 14 = .ok (.aload_n 0, 1) := by decide +kernel
theorem dX2_readLine_15 : decode cX2_readLine 15 = .ok (.getstatic 28, 3) := by decide +kernel
theorem dX2_readLine_18 : decode cX2_readLine 18 = .ok (.invokevirtual 31, 3) := by decide +kernel
theorem dX2_readLine_21 : decode cX2_readLine 21 = .ok (.istore_n 2, 1) := by decide +kernel
theorem dX2_readLine_22 : decode cX2_readLine 22 = .ok (.iload_n 2, 1) := by decide +kernel
theorem dX2_readLine_23 : decode cX2_readLine 23 = .ok (.ifCond .ne 15, 3) := by decide +kernel
theorem dX2_readLine_26 : decode cX2_readLine 26 = .ok (.aload_n 0, 1) := by decide +kernel
theorem dX2_readLine_27 : decode cX2_readLine 27 = .ok (.getstatic 34, 3) := by decide +kernel
theorem dX2_readLine_30 : decode cX2_readLine 30 = .ok (.invokevirtual 31, 3) := by decide +kernel
theorem dX2_readLine_33 : decode cX2_readLine 33 = .ok (.ifCond .ne 5, 3) := by decide +kernel
theorem dX2_readLine_36 : decode cX2_readLine 36 = .ok (.iconst 0, 1) := by decide +kernel
theorem dX2_readLine_37 : decode cX2_readLine 37 = .ok (.ireturn, 1) := by decide +kernel
theorem dX2_readLine_38 : decode cX2_readLine 38 = .ok (.aload_n 0, 1) := by decide +kernel
theorem dX2_readLine_39 : decode cX2_readLine 39 = .ok (.invokevirtual 37, 3) := by decide +kernel
theorem dX2_readLine_42 : decode cX2_readLine 42 = .ok (.aload_n 0, 1) := by decide +kernel
theorem dX2_readLine_43 : decode cX2_readLine 43 = .ok (.iconst 0, 1) := by decide +kernel
theorem dX2_readLine_44 : decode cX2_readLine 44 = .ok (.bipush 99, 2) := by decide +kernel
theorem dX2_readLine_46 : decode cX2_readLine 46 = .ok (.invokevirtual 40, 3) := by decide +kernel
theorem dX2_readLine_49 : decode cX2_readLine 49 = .ok (.istore_n 1, 1) := by decide +kernel
theorem dX2_readLine_50 : decode cX2_readLine 50 = .ok (.iload_n 1, 1) := by decide +kernel
theorem dX2_readLine_51 : decode cX2_readLine 51 = .ok (.iconst (-1), 1) := by decide +kernel
theorem dX2_readLine_52 : decode cX2_readLine 52 = .ok (.if_icmp .ne 5, 3) := by decide +kernel
theorem dX2_readLine_55 : decode cX2_readLine 55 = .ok (.iconst 0, 1) := by decide +kernel
theorem dX2_readLine_56 : decode cX2_readLine 56 = .ok (.ireturn, 1) := by decide +kernel
theorem dX2_readLine_57 : decode cX2_readLine 57 = .ok (.iload_n 2, 1) := by decide +kernel
theorem dX2_readLine_58 : decode cX2_readLine 58 = .ok (.ifCond .eq 8, 3) := by decide +kernel
theorem dX2_readLine_61 : decode cX2_readLine 61 = .ok (.iload_n 1, 1) := by decide +kernel
theorem dX2_readLine_62 : decode cX2_readLine 62 = .ok (.ineg, 1) := by decide +kernel
theorem dX2_readLine_63 : decode cX2_readLine 63 = .ok (.goto 4, 3) := by decide +kernel
theorem dX2_readLine_66 : decode cX2_readLine 66 = .ok (.iload_n 1, 1) := by decide +kernel
theorem dX2_readLine_67 : decode cX2_readLine 67 = .ok (.istore_n 1, 1) := by decide +kernel
theorem dX2_readLine_68 : decode cX2_readLine 68 = .ok (.aload_n 0, 1) := by decide +kernel
theorem dX2_readLine_69 : decode cX2_readLine 69 = .ok (.getfield 12, 3) := by decide +kernel
theorem dX2_readLine_72 : decode cX2_readLine 72 = .ok (.getfield 44, 3) := by decide +kernel
theorem dX2_readLine_75 : decode cX2_readLine 75 = .ok (.istore_n 2, 1) := by decide +kernel
theorem dX2_readLine_76 : decode cX2_readLine 76 = .ok (.aload_n 0, 1) := by decide +kernel
theorem dX2_readLine_77 : decode cX2_readLine 77 = .ok (.getfield 12, 3) := by decide +kernel
theorem dX2_readLine_80 : decode cX2_readLine 80 = .ok (.iload_n 1, 1) := by decide +kernel
theorem dX2_readLine_81 : decode cX2_readLine 81 = .ok (.invokevirtual 48, 3) := by decide +kernel
theorem dX2_readLine_84 : decode cX2_readLine 84 = .ok (.aload_n 0, 1) := by decide +kernel
theorem dX2_readLine_85 : decode cX2_readLine 85 = .ok (.getfield 12, 3) := by decide +kernel
theorem dX2_readLine_88 : decode cX2_readLine 88 = .ok (.iconst 0, 1) := by decide +kernel
theorem dX2_readLine_89 : decode cX2_readLine 89 = .ok (.invokevirtual 48, 3) := by decide +kernel
theorem dX2_readLine_92 : decode cX2_readLine 92 = .ok (.aload_n 0, 1) := by decide +kernel
theorem dX2_readLine_93 : decode cX2_readLine 93 = .ok (.getstatic 52, 3) := by decide +kernel
theorem dX2_readLine_96 : decode cX2_readLine 96 = .ok (.invokevirtual 24, 3) := by decide +kernel
theorem dX2_readLine_99 : decode cX2_readLine 99 = .ok (.ifCond .eq 13, 3) := by decide +kernel
theorem dX2_readLine_102 : decode cX2_readLine 102 = .ok (.aload_n 0, 1) := by decide +kernel
theorem dX2_readLine_103 : decode cX2_readLine 103 = .ok (.iconst 0, 1) := by decide +kernel
theorem dX2_readLine_104 : decode cX2_readLine 104 = .ok (.invokevirtual 55, 3) := by decide +kernel
theorem dX2_readLine_107 : decode cX2_readLine 107 = .ok (.ifCond .ne 5, 3) := by decide +kernel
theorem dX2_readLine_110 : decode cX2_readLine 110 = .ok (.iconst 0, 1) := by decide +kernel
theorem dX2_readLine_111 : decode cX2_readLine 111 = .ok (.ireturn, 1) := by decide +kernel
theorem dX2_readLine_112 : decode cX2_readLine 112 = .ok (.aload_n 0, 1) := by decide +kernel
theorem dX2_readLine_113 : decode cX2_readLine 113 = .ok (.getfield 12, 3) := by decide +kernel
theorem dX2_readLine_116 : decode cX2_readLine 116 = .ok (.iload_n 2, 1) := by decide +kernel
theorem dX2_readLine_117 : decode cX2_readLine 117 = .ok (.invokevirtual 59, 3) := by decide +kernel
theorem dX2_readLine_120 : decode cX2_readLine 120 = .ok (.iconst 1, 1) := by decide +kernel
theorem dX2_readLine_121 : decode cX2_readLine 121 = .ok (.ireturn, 1) := by decide +kernel
theorem dX2_readAny_0 : decode cX2_readAny 0 = .ok (.iconst 0, 1) := by decide +kernel
theorem dX2_readAny_1 : decode cX2_readAny 1 = .ok (.istore_n 2, 1) := by decide +kernel
theorem dX2_readAny_2 : decode cX2_readAny 2 = .ok (.iload_n 2, 1) := by decide +kernel
theorem dX2_readAny_3 : decode cX2_readAny 3 = .ok (.sipush 400, 3) := by decide +kernel
theorem dX2_readAny_6 : decode cX2_readAny 6 = .ok (.if_icmp .ge 88, 3) := by decide +kernel
theorem dX2_readAny_9 : decode cX2_readAny 9 = .ok (.iconst 0, 1) := by decide +kernel
theorem dX2_readAny_10 : decode cX2_readAny 10 = .ok (.istore_n 3, 1) := by decide +kernel
theorem dX2_readAny_11 : decode cX2_readAny 11 = .ok (.iload_n 3, 1) := by decide +kernel
theorem dX2_readAny_12 : decode cX2_readAny 12 = .ok (.sipush 400, 3) := by decide +kernel
theorem dX2_readAny_15 : decode cX2_readAny 15 = .ok (.if_icmp .ge 47, 3) := by decide +kernel
theorem dX2_readAny_18 : decode cX2_readAny 18 = .ok (.iload_n 3, 1) := by decide +kernel
theorem dX2_readAny_19 : decode cX2_readAny 19 = .ok (.ifCond .eq 13, 3) := by decide +kernel
theorem dX2_readAny_22 : decode cX2_readAny 22 = .ok (.aload_n 0, 1) := by decide +kernel
theorem dX2_readAny_23 : decode cX2_readAny 23 = .ok (.getstatic 62, 3) := by decide +kernel
theorem dX2_readAny_26 : decode cX2_readAny 26 = .ok (.invokevirtual 24, 3) := by decide +kernel
theorem dX2_readAny_29 : decode cX2_readAny 29 = .ok (.ifCond .eq 33, 3) := by decide +kernel
theorem dX2_readAny_32 : decode cX2_readAny 32 = .ok (.aload_n 0, 1) := by decide +kernel
theorem dX2_readAny_33 : decode cX2_readAny 33 = .ok (.iload_n 1, 1) := by decide +kernel
theorem dX2_readAny_34 : decode cX2_readAny 34 = .ok (.invokevirtual 65, 3) := by decide +kernel
theorem dX2_readAny_37 : decode cX2_readAny 37 = .ok (.ifCond .ne 5, 3) := by decide +kernel
theorem dX2_readAny_40 : decode cX2_readAny 40 = .ok (.iconst 0, 1) := by decide +kernel
theorem dX2_readAny_41 : decode cX2_readAny 41 = .ok (.ireturn, 1) := by decide +kernel
theorem dX2_readAny_42 : decode cX2_readAny 42 = .ok (.iload_n 3, 1) := by decide +kernel
theorem dX2_readAny_43 : decode cX2_readAny 43 = .ok (.ifCond .le 13, 3) := by decide +kernel
theorem dX2_readAny_46 : decode cX2_readAny 46 = .ok (.aload_n 0, 1) := by decide +kernel
theorem dX2_readAny_47 : decode cX2_readAny 47 = .ok (.getfield 12, 3) := by decide +kernel
theorem dX2_readAny_50 : decode cX2_readAny 50 = .ok (.sipush 1011, 3) := by decide +kernel
theorem dX2_readAny_53 : decode cX2_readAny 53 = .ok (.invokevirtual 48, 3) := by decide +kernel
theorem dX2_readAny_56 : decode cX2_readAny 56 = .ok (.iinc 3 1, 3) := by decide +kernel
theorem dX2_readAny_59 : decode cX2_readAny 59 = .ok (.goto (-48), 3) := by decide +kernel
theorem dX2_readAny_62 : decode cX2_readAny 62 = .ok (.iload_n 2, 1) := by decide +kernel
theorem dX2_readAny_63 : decode cX2_readAny 63 = .ok (.ifCond .le 13, 3) := by decide +kernel
theorem dX2_readAny_66 : decode cX2_readAny 66 = .ok (.aload_n 0, 1) := by decide +kernel
theorem dX2_readAny_67 : decode cX2_readAny 67 = .ok (.getfield 12, 3) := by decide +kernel
theorem dX2_readAny_70 : decode cX2_readAny 70 = .ok (.sipush 1012, 3) := by decide +kernel
theorem dX2_readAny_73 : decode cX2_readAny 73 = .ok (.invokevirtual 48, 3) := by decide +kernel
theorem dX2_readAny_76 : decode cX2_readAny 76 = .ok (.aload_n 0, 1) := by decide +kernel
theorem dX2_readAny_77 : decode cX2_readAny 77 = .ok (.getstatic 68, 3) := by decide +kernel
theorem dX2_readAny_80 : decode cX2_readAny 80 = .ok (.invokevirtual 24, 3) := by decide +kernel
theorem dX2_readAny_83 : decode cX2_readAny 83 = .ok (.ifCond .ne 5, 3) := by decide +kernel
theorem dX2_readAny_86 : decode cX2_readAny 86 = .ok (.iconst 1, 1) := by decide +kernel
theorem dX2_readAny_87 : decode cX2_readAny 87 = .ok (.ireturn, 1) := by decide +kernel
theorem dX2_readAny_88 : decode cX2_readAny 88 = .ok (.iinc 2 1, 3) := by decide +kernel
theorem dX2_readAny_91 : decode cX2_readAny 91 = .ok (.goto (-89), 3) := by decide +kernel
theorem dX2_readAny_94 : decode cX2_readAny 94 = .ok (.iconst 0, 1) := by decide +kernel
theorem dX2_readAny_95 : decode cX2_readAny 95 = .ok (.ireturn, 1) := by decide +kernel
theorem dX2_readAtom_0 : decode cX2_readAtom 0 = .ok (.aload_n 0, 1) := by decide +kernel
theorem dX2_readAtom_1 : decode cX2_readAtom 1 = .ok (.getstatic 71, 3) := by decide +kernel
theorem dX2_readAtom_4 : decode cX2_readAtom 4 = .ok (.invokevirtual 31, 3) := by decide +kernel
theorem dX2_readAtom_7 : decode cX2_readAtom 7 = .ok (.ifCond .ne 12, 3) := by decide +kernel
theorem dX2_readAtom_10 : decode cX2_readAtom 10 = .ok (.aload_n 0, 1) := by decide +kernel
theorem dX2_readAtom_11 : decode cX2_readAtom 11 = .ok (.bipush 40, 2) := by decide +kernel
theorem dX2_readAtom_13 : decode cX2_readAtom 13 = .ok (.invokevirtual 74, 3) := by decide +kernel
theorem dX2_readAtom_16 : decode cX2_readAtom 16 = .ok (.ifCond .eq 11, 3) := by decide +kernel
theorem dX2_readAtom_19 : decode cX2_readAtom 19 = .ok (.aload_n 0, 1) := by decide +kernel
theorem dX2_readAtom_20 : decode cX2_readAtom 20 = .ok (.iload_n 1, 1) := by decide +kernel
theorem dX2_readAtom_21 : decode cX2_readAtom 21 = .ok (.iconst 1, 1) := by decide +kernel
theorem dX2_readAtom_22 : decode cX2_readAtom 22 = .ok (.iadd, 1) := by decide +kernel
theorem dX2_readAtom_23 : decode cX2_readAtom 23 = .ok (.invokevirtual 78, 3) := by decide +kernel
theorem dX2_readAtom_26 : decode cX2_readAtom 26 = .ok (.ireturn, 1) := by decide +kernel
theorem dX2_readAtom_27 : decode cX2_readAtom 27 = .ok (.aload_n 0, 1) := by decide +kernel
theorem dX2_readAtom_28 : decode cX2_readAtom 28 = .ok (.invokevirtual 81, 3) := by decide +kernel
theorem dX2_readAtom_31 : decode cX2_readAtom 31 = .ok (.istore_n 2, 1) := by decide +kernel
theorem dX2_readAtom_32 : decode cX2_readAtom 32 = .ok (.iload_n 2, 1) := by decide +kernel
theorem dX2_readAtom_33 : decode cX2_readAtom 33 = .ok (.sipush 1007, 3) := by decide +kernel
theorem dX2_readAtom_36 : decode cX2_readAtom 36 = .ok (.if_icmp .lt 17, 3) := by decide +kernel
theorem dX2_readAtom_39 : decode cX2_readAtom 39 = .ok (.aload_n 0, 1) := by decide +kernel
theorem dX2_readAtom_40 : decode cX2_readAtom 40 = .ok (.invokevirtual 37, 3) := by decide +kernel
theorem dX2_readAtom_43 : decode cX2_readAtom 43 = .ok (.aload_n 0, 1) := by decide +kernel
theorem dX2_readAtom_44 : decode cX2_readAtom 44 = .ok (.getfield 12, 3) := by decide +kernel
theorem dX2_readAtom_47 : decode cX2_readAtom 47 = .ok (.iload_n 2, 1) := by decide +kernel
theorem dX2_readAtom_48 : decode cX2_readAtom 48 = .ok (.invokevirtual 48, 3) := by decide +kernel
theorem dX2_readAtom_51 : decode cX2_readAtom 51 = .ok (.iconst 1, 1) := by decide +kernel
theorem dX2_readAtom_52 : decode cX2_readAtom 52 = .ok (.ireturn, 1) := by decide +kernel
theorem dX2_readAtom_53 : decode cX2_readAtom 53 = .ok (.aload_n 0, 1) := by decide +kernel
theorem dX2_readAtom_54 : decode cX2_readAtom 54 = .ok (.invokevirtual 85, 3) := by decide +kernel
theorem dX2_readAtom_57 : decode cX2_readAtom 57 = .ok (.ifCond .ne 5, 3) := by decide +kernel
theorem dX2_readAtom_60 : decode cX2_readAtom 60 = .ok (.iconst 0, 1) := by decide +kernel
theorem dX2_readAtom_61 : decode cX2_readAtom 61 = .ok (.ireturn, 1) := by decide +kernel
theorem dX2_readAtom_62 : decode cX2_readAtom 62 = .ok (.aload_n 0, 1) := by decide +kernel
theorem dX2_readAtom_63 : decode cX2_readAtom 63 = .ok (.bipush 60, 2) := by decide +kernel
theorem dX2_readAtom_65 : decode cX2_readAtom 65 = .ok (.invokevirtual 74, 3) := by decide +kernel
theorem dX2_readAtom_68 : decode cX2_readAtom 68 = .ok (.istore_n 3, 1) := by decide +kernel
theorem dX2_readAtom_69 : decode cX2_readAtom 69 = .ok (.iload_n 3, 1) := by decide +kernel
theorem dX2_readAtom_70 : decode cX2_readAtom 70 = .ok (.ifCond .ne 14, 3) := by decide +kernel
theorem dX2_readAtom_73 : decode cX2_readAtom 73 = .ok (.aload_n 0, 1) := by decide +kernel
theorem dX2_readAtom_74 : decode cX2_readAtom 74 = .ok (.bipush 62, 2) := by decide +kernel
theorem dX2_readAtom_76 : decode cX2_readAtom 76 = .ok (.invokevirtual 74, 3) := by decide +kernel
theorem dX2_readAtom_79 : decode cX2_readAtom 79 = .ok (.ifCond .ne 5, 3) := by decide +kernel
theorem dX2_readAtom_82 : decode cX2_readAtom 82 = .ok (.iconst 0, 1) := by decide +kernel
theorem dX2_readAtom_83 : decode cX2_readAtom 83 = .ok (.ireturn, 1) := by decide +kernel
theorem dX2_readAtom_84 : decode cX2_readAtom 84 = .ok (.aload_n 0, 1) := by decide +kernel
theorem dX2_readAtom_85 : decode cX2_readAtom 85 = .ok (.invokevirtual 37, 3) := by decide +kernel
theorem dX2_readAtom_88 : decode cX2_readAtom 88 = .ok (.aload_n 0, 1) := by decide +kernel
theorem dX2_readAtom_89 : decode cX2_readAtom 89 = .ok (.invokevirtual 85, 3) := by decide +kernel
theorem dX2_readAtom_92 : decode cX2_readAtom 92 = .ok (.ifCond .ne 5, 3) := by decide +kernel
theorem dX2_readAtom_95 : decode cX2_readAtom 95 = .ok (.iconst 0, 1) := by decide +kernel
theorem dX2_readAtom_96 : decode cX2_readAtom 96 = .ok (.ireturn, 1) := by decide +kernel
theorem dX2_readAtom_97 : decode cX2_readAtom 97 = .ok (.aload_n 0, 1) := by decide +kernel
theorem dX2_readAtom_98 : decode cX2_readAtom 98 = .ok (.getfield 12, 3) := by decide +kernel
theorem dX2_readAtom_101 : decode cX2_readAtom 101 = .ok (.iload_n 3, 1) := by decide +kernel
theorem dX2_readAtom_102 : decode cX2_readAtom 102 = .ok (.ifCond .eq 9, 3) := by decide +kernel
theorem dX2_readAtom_105 : decode cX2_readAtom 105 = .ok (.sipush 1013, 3) := by decide +kernel
theorem dX2_readAtom_108 : decode cX2_readAtom 108 = .ok (.goto 6, 3) := by decide +kernel
theorem dX2_readAtom_111 : decode cX2_readAtom 111 = .ok (.sipush 1014, 3) := by decide +kernel
theorem dX2_readAtom_114 : decode cX2_readAtom 114 = .ok (.invokevirtual 48, 3) := by decide +kernel
theorem dX2_readAtom_117 : decode cX2_readAtom 117 = .ok (.iconst 1, 1) := by decide +kernel
theorem dX2_readAtom_118 : decode cX2_readAtom 118 = .ok (.ireturn, 1) := by decide +kernel
theorem dX2_readDeeper_0 : decode cX2_readDeeper 0 = .ok (.iload_n 1, 1) := by decide +kernel
theorem dX2_readDeeper_1 : decode cX2_readDeeper 1 = .ok (.bipush 6, 2) := by decide +kernel
theorem dX2_readDeeper_3 : decode cX2_readDeeper 3 = .ok (.if_icmp .le 5, 3) := by decide +kernel
theorem dX2_readDeeper_6 : decode cX2_readDeeper 6 = .ok (.iconst 0, 1) := by decide +kernel
theorem dX2_readDeeper_7 : decode cX2_readDeeper 7 = .ok (.ireturn, 1) := by decide +kernel
theorem dX2_readDeeper_8 : decode cX2_readDeeper 8 = .ok (.aload_n 0, 1) := by decide +kernel
theorem dX2_readDeeper_9 : decode cX2_readDeeper 9 = .ok (.bipush 40, 2) := by decide +kernel
theorem dX2_readDeeper_11 : decode cX2_readDeeper 11 = .ok (.invokevirtual 89, 3) := by decide +kernel
theorem dX2_readDeeper_14 : decode cX2_readDeeper 14 = .ok (.ifCond .eq 26, 3) := by decide +kernel
theorem dX2_readDeeper_17 : decode cX2_readDeeper 17 = .ok (.aload_n 0, 1) := by decide +kernel
theorem dX2_readDeeper_18 : decode cX2_readDeeper 18 = .ok (.iload_n 1, 1) := by decide +kernel
theorem dX2_readDeeper_19 : decode cX2_readDeeper 19 = .ok (.invokevirtual 55, 3) := by decide +kernel
theorem dX2_readDeeper_22 : decode cX2_readDeeper 22 = .ok (.ifCond .eq 16, 3) := by decide +kernel
theorem dX2_readDeeper_25 : decode cX2_readDeeper 25 = .ok (.aload_n 0, 1) := by decide +kernel
theorem dX2_readDeeper_26 : decode cX2_readDeeper 26 = .ok (.bipush 41, 2) := by decide +kernel
theorem dX2_readDeeper_28 : decode cX2_readDeeper 28 = .ok (.invokevirtual 89, 3) := by decide +kernel
theorem dX2_readDeeper_31 : decode cX2_readDeeper 31 = .ok (.ifCond .eq 7, 3) := by decide +kernel
theorem dX2_readDeeper_34 : decode cX2_readDeeper 34 = .ok (.iconst 1, 1) := by decide +kernel
theorem dX2_readDeeper_35 : decode cX2_readDeeper 35 = .ok (.goto 4, 3) := by decide +kernel
theorem dX2_readDeeper_38 : decode cX2_readDeeper 38 = .ok (.iconst 0, 1) := by decide +kernel
theorem dX2_readDeeper_39 : decode cX2_readDeeper 39 = .ok (.ireturn, 1) := by decide +kernel
theorem dX2_readDeeper_40 : decode cX2_readDeeper 40 = .ok (.aload_n 0, 1) := by decide +kernel
theorem dX2_readDeeper_41 : decode cX2_readDeeper 41 = .ok (.invokevirtual 37, 3) := by decide +kernel
theorem dX2_readDeeper_44 : decode cX2_readDeeper 44 = .ok (.aload_n 0, 1) := by decide +kernel
theorem dX2_readDeeper_45 : decode cX2_readDeeper 45 = .ok (.iload_n 1, 1) := by decide +kernel
theorem dX2_readDeeper_46 : decode cX2_readDeeper 46 = .ok (.invokevirtual 65, 3) := by decide +kernel
theorem dX2_readDeeper_49 : decode cX2_readDeeper 49 = .ok (.ifCond .ne 5, 3) := by decide +kernel
theorem dX2_readDeeper_52 : decode cX2_readDeeper 52 = .ok (.iconst 0, 1) := by decide +kernel
theorem dX2_readDeeper_53 : decode cX2_readDeeper 53 = .ok (.ireturn, 1) := by decide +kernel
theorem dX2_readDeeper_54 : decode cX2_readDeeper 54 = .ok (.aload_n 0, 1) := by decide +kernel
theorem dX2_readDeeper_55 : decode cX2_readDeeper 55 = .ok (.getfield 12, 3) := by decide +kernel
theorem dX2_readDeeper_58 : decode cX2_readDeeper 58 = .ok (.sipush 1010, 3) := by decide +kernel
theorem dX2_readDeeper_61 : decode cX2_readDeeper 61 = .ok (.invokevirtual 48, 3) := by decide +kernel
theorem dX2_readDeeper_64 : decode cX2_readDeeper 64 = .ok (.iconst 1, 1) := by decide +kernel
theorem dX2_readDeeper_65 : decode cX2_readDeeper 65 = .ok (.ireturn, 1) := by decide +kernel
theorem dX2_readSum_0 : decode cX2_readSum 0 = .ok (.iconst 0, 1) := by decide +kernel
theorem dX2_readSum_1 : decode cX2_readSum 1 = .ok (.istore_n 1, 1) := by decide +kernel
theorem dX2_readSum_2 : decode cX2_readSum 2 = .ok (.iload_n 1, 1) := by decide +kernel
theorem dX2_readSum_3 : decode cX2_readSum 3 = .ok (.sipush 400, 3) := by decide +kernel
theorem dX2_readSum_6 : decode cX2_readSum 6 = .ok (.if_icmp .ge 90, 3) := by decide +kernel
theorem dX2_readSum_9 : decode cX2_readSum 9 = .ok (.iload_n 1, 1) := by decide +kernel
theorem dX2_readSum_10 : decode cX2_readSum 10 = .ok (.ifCond .eq 12, 3) := by decide +kernel
theorem dX2_readSum_13 : decode cX2_readSum 13 = .ok (.aload_n 0, 1) := by decide +kernel
theorem dX2_readSum_14 : decode cX2_readSum 14 = .ok (.bipush 43, 2) := by decide +kernel
theorem dX2_readSum_16 : decode cX2_readSum 16 = .ok (.invokevirtual 89, 3) := by decide +kernel
theorem dX2_readSum_19 : decode cX2_readSum 19 = .ok (.ifCond .eq 77, 3) := by decide +kernel
theorem dX2_readSum_22 : decode cX2_readSum 22 = .ok (.aload_n 0, 1) := by decide +kernel
theorem dX2_readSum_23 : decode cX2_readSum 23 = .ok (.invokevirtual 81, 3) := by decide +kernel
theorem dX2_readSum_26 : decode cX2_readSum 26 = .ok (.istore_n 2, 1) := by decide +kernel
theorem dX2_readSum_27 : decode cX2_readSum 27 = .ok (.iload_n 2, 1) := by decide +kernel
theorem dX2_readSum_28 : decode cX2_readSum 28 = .ok (.iconst (-1), 1) := by decide +kernel
theorem dX2_readSum_29 : decode cX2_readSum 29 = .ok (.if_icmp .eq 17, 3) := by decide +kernel
theorem dX2_readSum_32 : decode cX2_readSum 32 = .ok (.iload_n 2, 1) := by decide +kernel
theorem dX2_readSum_33 : decode cX2_readSum 33 = .ok (.sipush 1007, 3) := by decide +kernel
theorem dX2_readSum_36 : decode cX2_readSum 36 = .ok (.if_icmp .ge 10, 3) := by decide +kernel
theorem dX2_readSum_39 : decode cX2_readSum 39 = .ok (.aload_n 0, 1) := by decide +kernel
theorem dX2_readSum_40 : decode cX2_readSum 40 = .ok (.invokevirtual 37, 3) := by decide +kernel
theorem dX2_readSum_43 : decode cX2_readSum 43 = .ok (.goto 12, 3) := by decide +kernel
theorem dX2_readSum_46 : decode cX2_readSum 46 = .ok (.aload_n 0, 1) := by decide +kernel
theorem dX2_readSum_47 : decode cX2_readSum 47 = .ok (.iconst 0, 1) := by decide +kernel
theorem dX2_readSum_48 : decode cX2_readSum 48 = .ok (.sipush 999, 3) := by decide +kernel
theorem dX2_readSum_51 : decode cX2_readSum 51 = .ok (.invokevirtual 40, 3) := by decide +kernel
theorem dX2_readSum_54 : decode cX2_readSum 54 = .ok (.istore_n 2, 1) := by decide +kernel
theorem dX2_readSum_55 : decode cX2_readSum 55 = .ok (.iload_n 2, 1) := by decide +kernel
theorem dX2_readSum_56 : decode cX2_readSum 56 = .ok (.ifCond .lt 10, 3) := by decide +kernel
theorem dX2_readSum_59 : decode cX2_readSum 59 = .ok (.iload_n 2, 1) := by decide +kernel
theorem dX2_readSum_60 : decode cX2_readSum 60 = .ok (.sipush 1007, 3) := by decide +kernel
theorem dX2_readSum_63 : decode cX2_readSum 63 = .ok (.if_icmp .lt 5, 3) := by decide +kernel
theorem dX2_readSum_66 : decode cX2_readSum 66 = .ok (.iconst 0, 1) := by decide +kernel
theorem dX2_readSum_67 : decode cX2_readSum 67 = .ok (.ireturn, 1) := by decide +kernel
theorem dX2_readSum_68 : decode cX2_readSum 68 = .ok (.aload_n 0, 1) := by decide +kernel
theorem dX2_readSum_69 : decode cX2_readSum 69 = .ok (.getfield 12, 3) := by decide +kernel
theorem dX2_readSum_72 : decode cX2_readSum 72 = .ok (.iload_n 2, 1) := by decide +kernel
theorem dX2_readSum_73 : decode cX2_readSum 73 = .ok (.invokevirtual 48, 3) := by decide +kernel
theorem dX2_readSum_76 : decode cX2_readSum 76 = .ok (.iload_n 1, 1) := by decide +kernel
theorem dX2_readSum_77 : decode cX2_readSum 77 = .ok (.ifCond .le 13, 3) := by decide +kernel
theorem dX2_readSum_80 : decode cX2_readSum 80 = .ok (.aload_n 0, 1) := by decide +kernel
theorem dX2_readSum_81 : decode cX2_readSum 81 = .ok (.getfield 12, 3) := by decide +kernel
theorem dX2_readSum_84 : decode cX2_readSum 84 = .ok (.sipush 1015, 3) := by decide +kernel
theorem dX2_readSum_87 : decode cX2_readSum 87 = .ok (.invokevirtual 48, 3) := by decide +kernel
theorem dX2_readSum_90 : decode cX2_readSum 90 = .ok (.iinc 1 1, 3) := by decide +kernel
theorem dX2_readSum_93 : decode cX2_readSum 93 = .ok (.goto (-91), 3) := by decide +kernel
theorem dX2_readSum_96 : decode cX2_readSum 96 = .ok (.iconst 1, 1) := by decide +kernel
theorem dX2_readSum_97 : decode cX2_readSum 97 = .ok (.ireturn, 1) := by decide +kernel
theorem dX3_init_0 : decode cX3_init 0 = .ok (.aload_n 0, 1) := by decide +kernel
theorem dX3_init_1 : decode cX3_init 1 = .ok (.invokespecial 3, 3) := by decide +kernel
theorem dX3_init_4 : decode cX3_init 4 = .ok (.aload_n 0, 1) := by decide +kernel
theorem dX3_init_5 : decode cX3_init 5 = .ok (.sipush 201, 3) := by decide +kernel
theorem dX3_init_8 : decode cX3_init 8 = .ok (.newarray .int, 2) := by decide +kernel
theorem dX3_init_10 : decode cX3_init 10 = .ok (.putfield 9, 3) := by decide +kernel
theorem dX3_init_13 : decode cX3_init 13 = .ok (.aload_n 0, 1) := by decide +kernel
theorem dX3_init_14 : decode cX3_init 14 = .ok (.sipush 256, 3) := by decide +kernel
theorem dX3_init_17 : decode cX3_init 17 = .ok (.newarray .int, 2) := by decide +kernel
theorem dX3_init_19 : decode cX3_init 19 = .ok (.putfield 15, 3) := by decide +kernel
theorem dX3_init_22 : decode cX3_init 22 = .ok (.aload_n 0, 1) := by decide +kernel
theorem dX3_init_23 : decode cX3_init 23 = .ok (.iconst 0, 1) := by decide +kernel
theorem dX3_init_24 : decode cX3_init 24 = .ok (.putfield 18, 3) := by decide +kernel
theorem dX3_init_27 : decode cX3_init 27 = .ok (.return_, 1) := by decide +kernel
theorem dX3_readRows_0 : decode cX3_readRows 0 = .ok (.aload_n 0, 1) := by decide +kernel
theorem dX3_readRows_1 : decode cX3_readRows 1 = .ok (.iconst 0, 1) := by decide +kernel
theorem dX3_readRows_2 : decode cX3_readRows 2 = .ok (.putfield 18, 3) := by decide +kernel
theorem dX3_readRows_5 : decode cX3_readRows 5 = .ok (.iload_n 2, 1) := by decide +kernel
theorem dX3_readRows_6 : decode cX3_readRows 6 = .ok (.iconst 2, 1) := by decide +kernel
theorem dX3_readRows_7 : decode cX3_readRows 7 = .ok (.irem, 1) := by decide +kernel
theorem dX3_readRows_8 : decode cX3_readRows 8 = .ok (.ifCond .ne 14, 3) := by decide +kernel
theorem dX3_readRows_11 : decode cX3_readRows 11 = .ok (.iload_n 2, 1) := by decide +kernel
theorem dX3_readRows_12 : decode cX3_readRows 12 = .ok (.bipush 40, 2) := by decide +kernel
theorem dX3_readRows_14 : decode cX3_readRows 14 = .ok (.aload_n 1, 1) := by decide +kernel
theorem dX3_readRows_15 : decode cX3_readRows 15 = .ok (.arraylength, 1) := by decide +kernel
theorem dX3_readRows_16 : decode cX3_readRows 16 = .ok (.invokestatic 22, 3) := by decide +kernel
theorem dX3_readRows_19 : decode cX3_readRows 19 = .ok (.if_icmp .le 5, 3) := by decide +kernel
theorem dX3_readRows_22 : decode cX3_readRows 22 = .ok (.iconst 0, 1) := by decide +kernel
theorem dX3_readRows_23 : decode cX3_readRows 23 = .ok (.ireturn, 1) := by decide +kernel
theorem dX3_readRows_24 : decode cX3_readRows 24 = .ok (.iconst 1, 1) := by decide +kernel
theorem dX3_readRows_25 : decode cX3_readRows 25 = .ok (.istore_n 3, 1) := by decide +kernel
theorem dX3_readRows_26 : decode cX3_readRows 26 = .ok (.iload_n 3, 1) := by decide +kernel
theorem dX3_readRows_27 : decode cX3_readRows 27 = .ok (.iload_n 2, 1) := by decide +kernel
theorem dX3_readRows_28 : decode cX3_readRows 28 = .ok (.if_icmp .ge 24, 3) := by decide +kernel
theorem dX3_readRows_31 : decode cX3_readRows 31 = .ok (.aload_n 1, 1) := by decide +kernel
theorem dX3_readRows_32 : decode cX3_readRows 32 = .ok (.iload_n 3, 1) := by decide +kernel
theorem dX3_readRows_33 : decode cX3_readRows 33 = .ok (.iaload, 1) := by decide +kernel
theorem dX3_readRows_34 : decode cX3_readRows 34 = .ok (.ifCond .eq 12, 3) := by decide +kernel
theorem dX3_readRows_37 : decode cX3_readRows 37 = .ok (.aload_n 1, 1) := by decide +kernel
theorem dX3_readRows_38 : decode cX3_readRows 38 = .ok (.iload_n 3, 1) := by decide +kernel
theorem dX3_readRows_39 : decode cX3_readRows 39 = .ok (.iaload, 1) := by decide +kernel
theorem dX3_readRows_40 : decode cX3_readRows 40 = .ok (.iconst 1, 1) := by decide +kernel
theorem dX3_readRows_41 : decode cX3_readRows 41 = .ok (.if_icmp .eq 5, 3) := by decide +kernel
theorem dX3_readRows_44 : decode cX3_readRows 44 = .ok (.iconst 0, 1) := by decide +kernel
theorem dX3_readRows_45 : decode cX3_readRows 45 = .ok (.ireturn, 1) := by decide +kernel
theorem dX3_readRows_46 : decode cX3_readRows 46 = .ok (.iinc 3 2, 3) := by decide +kernel
theorem dX3_readRows_49 : decode cX3_readRows 49 = .ok (.goto (-23), 3) := by decide +kernel
theorem dX3_readRows_52 : decode cX3_readRows 52 = .ok (.bipush 10, 2) := by decide +kernel
theorem dX3_readRows_54 : decode cX3_readRows 54 = .ok (.istore_n 3, 1) := by decide +kernel
theorem dX3_readRows_55 : decode cX3_readRows 55 = .ok (.iload_n 3, 1) := by decide +kernel
theorem dX3_readRows_56 : decode cX3_readRows 56 = .ok (.sipush 200, 3) := by decide +kernel
theorem dX3_readRows_59 : decode cX3_readRows 59 = .ok (.if_icmp .gt 44, 3) := by decide +kernel
theorem dX3_readRows_62 : decode cX3_readRows 62 = .ok (.aload_n 0, 1) := by decide +kernel
theorem dX3_readRows_63 : decode cX3_readRows 63 = .ok (.getfield 9, 3) := by decide +kernel
theorem dX3_readRows_66 : decode cX3_readRows 66 = .ok (.iload_n 3, 1) := by decide +kernel
theorem dX3_readRows_67 : decode cX3_readRows 67 = .ok (.aload_n 1, 1) := by decide +kernel
theorem dX3_readRows_68 : decode cX3_readRows 68 = .ok (.iload_n 2, 1) := by decide +kernel
theorem dX3_readRows_69 : decode cX3_readRows 69 = .ok (.iload_n 3, 1) := by decide +kernel
theorem dX3_readRows_70 : decode cX3_readRows 70 = .ok (.invokestatic 28, 3) := by decide +kernel
theorem dX3_readRows_73 : decode cX3_readRows 73 = .ok (.ifCond .eq 7, 3) := by decide +kernel
theorem dX3_readRows_76 : decode cX3_readRows 76 = .ok (.iconst 1, 1) := by decide +kernel
theorem dX3_readRows_77 : decode cX3_readRows 77 = .ok (.goto 4, 3) := by decide +kernel
theorem dX3_readRows_80 : decode cX3_readRows 80 = .ok (.iconst 0, 1) := by decide +kernel
theorem dX3_readRows_81 : decode cX3_readRows 81 = .ok (.iastore, 1) := by decide +kernel
theorem dX3_readRows_82 : decode cX3_readRows 82 = .ok (.aload_n 0, 1) := by decide +kernel
theorem dX3_readRows_83 : decode cX3_readRows 83 = .ok (.dup, 1) := by decide +kernel
theorem dX3_readRows_84 : decode cX3_readRows 84 = .ok (.getfield 18, 3) := by decide +kernel
theorem dX3_readRows_87 : decode cX3_readRows 87 = .ok (.aload_n 0, 1) := by decide +kernel
theorem dX3_readRows_88 : decode cX3_readRows 88 = .ok (.getfield 9, 3) := by decide +kernel
theorem dX3_readRows_91 : decode cX3_readRows 91 = .ok (.iload_n 3, 1) := by decide +kernel
theorem dX3_readRows_92 : decode cX3_readRows 92 = .ok (.iaload, 1) := by decide +kernel
theorem dX3_readRows_93 : decode cX3_readRows 93 = .ok (.iadd, 1) := by decide +kernel
theorem dX3_readRows_94 : decode cX3_readRows 94 = .ok (.putfield 18, 3) := by decide +kernel
theorem dX3_readRows_97 : decode cX3_readRows 97 = .ok (.iinc 3 1, 3) := by decide +kernel
theorem dX3_readRows_100 : decode cX3_readRows 100 = .ok (.goto (-45), 3) := by decide +kernel
theorem dX3_readRows_103 : decode cX3_readRows 103 = .ok (.iconst 1, 1) := by decide +kernel
theorem dX3_readRows_104 : decode cX3_readRows 104 = .ok (.ireturn, 1) := by decide +kernel
theorem dX3_fitsRows_0 : decode cX3_fitsRows 0 = .ok (.iconst 0, 1) := by decide +kernel
theorem dX3_fitsRows_1 : decode cX3_fitsRows 1 = .ok (.istore_n 3, 1) := by decide +kernel
theorem dX3_fitsRows_2 : decode cX3_fitsRows 2 = .ok (.iload_n 3, 1) := by decide +kernel
theorem dX3_fitsRows_3 : decode cX3_fitsRows 3 = .ok (.iconst 1, 1) := by decide +kernel
theorem dX3_fitsRows_4 : decode cX3_fitsRows 4 = .ok (.iadd, 1) := by decide +kernel
theorem dX3_fitsRows_5 : decode cX3_fitsRows 5 = .ok (.iload_n 1, 1) := by decide +kernel
theorem dX3_fitsRows_6 : decode cX3_fitsRows 6 = .ok (.if_icmp .ge 53, 3) := by decide +kernel
theorem dX3_fitsRows_9 : decode cX3_fitsRows 9 = .ok (.iload_n 2, 1) := by decide +kernel
theorem dX3_fitsRows_10 : decode cX3_fitsRows 10 = .ok (.ifCond .le 11, 3) := by decide +kernel
theorem dX3_fitsRows_13 : decode cX3_fitsRows 13 = .ok (.aload_n 0, 1) := by decide +kernel
theorem dX3_fitsRows_14 : decode cX3_fitsRows 14 = .ok (.iload_n 3, 1) := by decide +kernel
theorem dX3_fitsRows_15 : decode cX3_fitsRows 15 = .ok (.iaload, 1) := by decide +kernel
theorem dX3_fitsRows_16 : decode cX3_fitsRows 16 = .ok (.iload_n 2, 1) := by decide +kernel
theorem dX3_fitsRows_17 : decode cX3_fitsRows 17 = .ok (.irem, 1) := by decide +kernel
theorem dX3_fitsRows_18 : decode cX3_fitsRows 18 = .ok (.goto 4, 3) := by decide +kernel
theorem dX3_fitsRows_21 : decode cX3_fitsRows 21 = .ok (.iconst 0, 1) := by decide +kernel
theorem dX3_fitsRows_22 : decode cX3_fitsRows 22 = .ok (.istore 4, 2) := by decide +kernel
theorem dX3_fitsRows_24 : decode cX3_fitsRows 24 = .ok (.iload 4, 2) := by decide +kernel
theorem dX3_fitsRows_26 : decode cX3_fitsRows 26 = .ok (.ifCond .ne 7, 3) := by decide +kernel
theorem dX3_fitsRows_29 : decode cX3_fitsRows 29 = .ok (.iconst 1, 1) := by decide +kernel
theorem dX3_fitsRows_30 : decode cX3_fitsRows 30 = .ok (.goto 4, 3) := by decide +kernel
theorem dX3_fitsRows_33 : decode cX3_fitsRows 33 = .ok (.iconst 0, 1) := by decide +kernel
theorem dX3_fitsRows_34 : decode cX3_fitsRows 34 = .ok (.aload_n 0, 1) := by decide +kernel
theorem dX3_fitsRows_35 : decode cX3_fitsRows 35 = .ok (.iload_n 3, 1) := by decide +kernel
theorem dX3_fitsRows_36 : decode cX3_fitsRows 36 = .ok (.iconst 1, 1) := by decide +kernel
theorem dX3_fitsRows_37 : decode cX3_fitsRows 37 = .ok (.iadd, 1) := by decide +kernel
theorem dX3_fitsRows_38 : decode cX3_fitsRows 38 = .ok (.iaload, 1) := by decide +kernel
theorem dX3_fitsRows_39 : decode cX3_fitsRows 39 = .ok (.iconst 1, 1) := by decide +kernel
theorem dX3_fitsRows_40 : decode cX3_fitsRows 40 = .ok (.if_icmp .ne 7, 3) := by decide +kernel
theorem dX3_fitsRows_43 : decode cX3_fitsRows 43 = .ok (.iconst 1, 1) := by decide +kernel
theorem dX3_fitsRows_44 : decode cX3_fitsRows 44 = .ok (.goto 4, 3) := by decide +kernel
theorem dX3_fitsRows_47 : decode cX3_fitsRows 47 = .ok (.iconst 0, 1) := by decide +kernel
theorem dX3_fitsRows_48 : decode cX3_fitsRows 48 = .ok (.if_icmp .eq 5, 3) := by decide +kernel
theorem dX3_fitsRows_51 : decode cX3_fitsRows 51 = .ok (.iconst 0, 1) := by decide +kernel
theorem dX3_fitsRows_52 : decode cX3_fitsRows 52 = .ok (.ireturn, 1) := by decide +kernel
theorem dX3_fitsRows_53 : decode cX3_fitsRows 53 = .ok (.iinc 3 2, 3) := by decide +kernel
theorem dX3_fitsRows_56 : decode cX3_fitsRows 56 = .ok (.goto (-54), 3) := by decide +kernel
theorem dX3_fitsRows_59 : decode cX3_fitsRows 59 = .ok (.iconst 1, 1) := by decide +kernel
theorem dX3_fitsRows_60 : decode cX3_fitsRows 60 = .ok (.ireturn, 1) := by decide +kernel
theorem dX3_least_0 : decode cX3_least 0 = .ok (.bipush 10, 2) := by decide +kernel
theorem dX3_least_2 : decode cX3_least 2 = .ok (.istore_n 1, 1) := by decide +kernel
theorem dX3_least_3 : decode cX3_least 3 = .ok (.iload_n 1, 1) := by decide +kernel
theorem dX3_least_4 : decode cX3_least 4 = .ok (.sipush 200, 3) := by decide +kernel
theorem dX3_least_7 : decode cX3_least 7 = .ok (.if_icmp .gt 21, 3) := by decide +kernel
theorem dX3_least_10 : decode cX3_least 10 = .ok (.aload_n 0, 1) := by decide +kernel
theorem dX3_least_11 : decode cX3_least 11 = .ok (.getfield 9, 3) := by decide +kernel
theorem dX3_least_14 : decode cX3_least 14 = .ok (.iload_n 1, 1) := by decide +kernel
theorem dX3_least_15 : decode cX3_least 15 = .ok (.iaload, 1) := by decide +kernel
theorem dX3_least_16 : decode cX3_least 16 = .ok (.iconst 1, 1) := by decide +kernel
theorem dX3_least_17 : decode cX3_least 17 = .ok (.if_icmp .ne 5, 3) := by decide +kernel
theorem dX3_least_20 : decode cX3_least 20 = .ok (.iload_n 1, 1) := by decide +kernel
theorem dX3_least_21 : decode cX3_least 21 = .ok (.ireturn, 1) := by decide +kernel
theorem dX3_least_22 : decode cX3_least 22 = .ok (.iinc 1 1, 3) := by decide +kernel
theorem dX3_least_25 : decode cX3_least 25 = .ok (.goto (-22), 3) := by decide +kernel
theorem dX3_least_28 : decode cX3_least 28 = .ok (.iconst (-1), 1) := by decide +kernel
theorem dX3_least_29 : decode cX3_least 29 = .ok (.ireturn, 1) := by decide +kernel
theorem dX3_bestYards_0 : decode cX3_bestYards 0 = .ok (.aload_n 0, 1) := by decide +kernel
theorem dX3_bestYards_1 : decode cX3_bestYards 1 = .ok (.getfield 18, 3) := by decide +kernel
theorem dX3_bestYards_4 : decode cX3_bestYards 4 = .ok (.iconst 2, 1) := by decide +kernel
theorem dX3_bestYards_5 : decode cX3_bestYards 5 = .ok (.if_icmp .ge 5, 3) := by decide +kernel
theorem dX3_bestYards_8 : decode cX3_bestYards 8 = .ok (.iconst (-1), 1) := by decide +kernel
theorem dX3_bestYards_9 : decode cX3_bestYards 9 = .ok (.ireturn, 1) := by decide +kernel
theorem dX3_bestYards_10 : decode cX3_bestYards 10 = .ok (.aload_n 0, 1) := by decide +kernel
theorem dX3_bestYards_11 : decode cX3_bestYards 11 = .ok (.getfield 15, 3) := by decide +kernel
theorem dX3_bestYards_14 : decode cX3_bestYards 14 = .ok (.iconst 0, 1) := by decide +kernel
theorem dX3_bestYards_15 : decode cX3_bestYards 15 = .ok (.invokestatic 32, 3) := by decide +kernel
theorem dX3_bestYards_18 : decode cX3_bestYards 18 = .ok (.bipush 10, 2) := by decide +kernel
theorem dX3_bestYards_20 : decode cX3_bestYards 20 = .ok (.istore_n 1, 1) := by decide +kernel
theorem dX3_bestYards_21 : decode cX3_bestYards 21 = .ok (.iload_n 1, 1) := by decide +kernel
theorem dX3_bestYards_22 : decode cX3_bestYards 22 = .ok (.sipush 200, 3) := by decide +kernel
theorem dX3_bestYards_25 : decode cX3_bestYards 25 = .ok (.if_icmp .gt 45, 3) := by decide +kernel
theorem dX3_bestYards_28 : decode cX3_bestYards 28 = .ok (.iload_n 1, 1) := by decide +kernel
theorem dX3_bestYards_29 : decode cX3_bestYards 29 = .ok (.istore_n 2, 1) := by decide +kernel
theorem dX3_bestYards_30 : decode cX3_bestYards 30 = .ok (.iload_n 2, 1) := by decide +kernel
theorem dX3_bestYards_31 : decode cX3_bestYards 31 = .ok (.sipush 255, 3) := by decide +kernel
theorem dX3_bestYards_34 : decode cX3_bestYards 34 = .ok (.if_icmp .gt 30, 3) := by decide +kernel
theorem dX3_bestYards_37 : decode cX3_bestYards 37 = .ok (.aload_n 0, 1) := by decide +kernel
theorem dX3_bestYards_38 : decode cX3_bestYards 38 = .ok (.getfield 9, 3) := by decide +kernel
theorem dX3_bestYards_41 : decode cX3_bestYards 41 = .ok (.iload_n 1, 1) := by decide +kernel
theorem dX3_bestYards_42 : decode cX3_bestYards 42 = .ok (.iaload, 1) := by decide +kernel
theorem dX3_bestYards_43 : decode cX3_bestYards 43 = .ok (.iconst 1, 1) := by decide +kernel
theorem dX3_bestYards_44 : decode cX3_bestYards 44 = .ok (.if_icmp .ne 20, 3) := by decide +kernel
theorem dX3_bestYards_47 : decode cX3_bestYards 47 = .ok (.aload_n 0, 1) := by decide +kernel
theorem dX3_bestYards_48 : decode cX3_bestYards 48 = .ok (.getfield 15, 3) := by decide +kernel
theorem dX3_bestYards_51 : decode cX3_bestYards 51 = .ok (.iload_n 2, 1) := by decide +kernel
theorem dX3_bestYards_52 : decode cX3_bestYards 52 = .ok (.dup2, 1) := by decide +kernel
theorem dX3_bestYards_53 : decode cX3_bestYards 53 = .ok (.iaload, 1) := by decide +kernel
theorem dX3_bestYards_54 : decode cX3_bestYards 54 = .ok (.iconst 1, 1) := by decide +kernel
theorem dX3_bestYards_55 : decode cX3_bestYards 55 = .ok (.iadd, 1) := by decide +kernel
theorem dX3_bestYards_56 : decode cX3_bestYards 56 = .ok (.iastore, 1) := by decide +kernel
theorem dX3_bestYards_57 : decode cX3_bestYards 57 = .ok (.iload_n 2, 1) := by decide +kernel
theorem dX3_bestYards_58 : decode cX3_bestYards 58 = .ok (.iload_n 1, 1) := by decide +kernel
theorem dX3_bestYards_59 : decode cX3_bestYards 59 = .ok (.iadd, 1) := by decide +kernel
theorem dX3_bestYards_60 : decode cX3_bestYards 60 = .ok (.istore_n 2, 1) := by decide +kernel
theorem dX3_bestYards_61 : decode cX3_bestYards 61 = .ok (.goto (-31), 3) := by decide +kernel
theorem dX3_bestYards_64 : decode cX3_bestYards 64 = .ok (.iinc 1 1, 3) := by decide +kernel
theorem dX3_bestYards_67 : decode cX3_bestYards 67 = .ok (.goto (-46), 3) := by decide +kernel
theorem dX3_bestYards_70 : decode cX3_bestYards 70 = .ok (.iconst 1, 1) := by decide +kernel
theorem dX3_bestYards_71 : decode cX3_bestYards 71 = .ok (.istore_n 1, 1) := by decide +kernel
theorem dX3_bestYards_72 : decode cX3_bestYards 72 = .ok (.iconst 2, 1) := by decide +kernel
theorem dX3_bestYards_73 : decode cX3_bestYards 73 = .ok (.istore_n 2, 1) := by decide +kernel
theorem dX3_bestYards_74 : decode cX3_bestYards 74 = .ok (.iload_n 2, 1) := by decide +kernel
theorem dX3_bestYards_75 : decode cX3_bestYards 75 = .ok (.sipush 255, 3) := by decide +kernel
theorem dX3_bestYards_78 : decode cX3_bestYards 78 = .ok (.if_icmp .gt 24, 3) := by decide +kernel
theorem dX3_bestYards_81 : decode cX3_bestYards 81 = .ok (.aload_n 0, 1) := by decide +kernel
theorem dX3_bestYards_82 : decode cX3_bestYards 82 = .ok (.iload_n 2, 1) := by decide +kernel
theorem dX3_bestYards_83 : decode cX3_bestYards 83 = .ok (.invokevirtual 38, 3) := by decide +kernel
theorem dX3_bestYards_86 : decode cX3_bestYards 86 = .ok (.aload_n 0, 1) := by decide +kernel
theorem dX3_bestYards_87 : decode cX3_bestYards 87 = .ok (.iload_n 1, 1) := by decide +kernel
theorem dX3_bestYards_88 : decode cX3_bestYards 88 = .ok (.invokevirtual 38, 3) := by decide +kernel
theorem dX3_bestYards_91 : decode cX3_bestYards 91 = .ok (.if_icmp .ge 5, 3) := by decide +kernel
theorem dX3_bestYards_94 : decode cX3_bestYards 94 = .ok (.iload_n 2, 1) := by decide +kernel
theorem dX3_bestYards_95 : decode cX3_bestYards 95 = .ok (.istore_n 1, 1) := by decide +kernel
theorem dX3_bestYards_96 : decode cX3_bestYards 96 = .ok (.iinc 2 1, 3) := by decide +kernel
theorem dX3_bestYards_99 : decode cX3_bestYards 99 = .ok (.goto (-25), 3) := by decide +kernel
theorem dX3_bestYards_102 : decode cX3_bestYards 102 = .ok (.iload_n 1, 1) := by decide +kernel
theorem dX3_bestYards_103 : decode cX3_bestYards 103 = .ok (.ireturn, 1) := by decide +kernel
theorem dX3_greaterPart_0 : decode cX3_greaterPart 0 = .ok (.aload_n 0, 1) := by decide +kernel
theorem dX3_greaterPart_1 : decode cX3_greaterPart 1 = .ok (.getfield 15, 3) := by decide +kernel
theorem dX3_greaterPart_4 : decode cX3_greaterPart 4 = .ok (.iload_n 1, 1) := by decide +kernel
theorem dX3_greaterPart_5 : decode cX3_greaterPart 5 = .ok (.iaload, 1) := by decide +kernel
theorem dX3_greaterPart_6 : decode cX3_greaterPart 6 = .ok (.aload_n 0, 1) := by decide +kernel
theorem dX3_greaterPart_7 : decode cX3_greaterPart 7 = .ok (.getfield 18, 3) := by decide +kernel
theorem dX3_greaterPart_10 : decode cX3_greaterPart 10 = .ok (.aload_n 0, 1) := by decide +kernel
theorem dX3_greaterPart_11 : decode cX3_greaterPart 11 = .ok (.getfield 15, 3) := by decide +kernel
theorem dX3_greaterPart_14 : decode cX3_greaterPart 14 = .ok (.iload_n 1, 1) := by decide +kernel
theorem dX3_greaterPart_15 : decode cX3_greaterPart 15 = .ok (.iaload, 1) := by decide +kernel
theorem dX3_greaterPart_16 : decode cX3_greaterPart 16 = .ok (.isub, 1) := by decide +kernel
theorem dX3_greaterPart_17 : decode cX3_greaterPart 17 = .ok (.invokestatic 42, 3) := by decide +kernel
theorem dX3_greaterPart_20 : decode cX3_greaterPart 20 = .ok (.ireturn, 1) := by decide +kernel
theorem dX4_init_0 : decode cX4_init 0 = .ok (.aload_n 0, 1) := by decide +kernel
theorem dX4_init_1 : decode cX4_init 1 = .ok (.invokespecial 3, 3) := by decide +kernel
theorem dX4_init_4 : decode cX4_init 4 = .ok (.aload_n 0, 1) := by decide +kernel
theorem dX4_init_5 : decode cX4_init 5 = .ok (.iconst 0, 1) := by decide +kernel
theorem dX4_init_6 : decode cX4_init 6 = .ok (.newarray .int, 2) := by decide +kernel
theorem dX4_init_8 : decode cX4_init 8 = .ok (.putfield 9, 3) := by decide +kernel
theorem dX4_init_11 : decode cX4_init 11 = .ok (.aload_n 0, 1) := by decide +kernel
theorem dX4_init_12 : decode cX4_init 12 = .ok (.iconst 0, 1) := by decide +kernel
theorem dX4_init_13 : decode cX4_init 13 = .ok (.putfield 15, 3) := by decide +kernel
theorem dX4_init_16 : decode cX4_init 16 = .ok (.aload_n 0, 1) := by decide +kernel
theorem dX4_init_17 : decode cX4_init 17 = .ok (.iconst 0, 1) := by decide +kernel
theorem dX4_init_18 : decode cX4_init 18 = .ok (.putfield 19, 3) := by decide +kernel
theorem dX4_init_21 : decode cX4_init 21 = .ok (.aload_n 0, 1) := by decide +kernel
theorem dX4_init_22 : decode cX4_init 22 = .ok (.iconst 0, 1) := by decide +kernel
theorem dX4_init_23 : decode cX4_init 23 = .ok (.putfield 22, 3) := by decide +kernel
theorem dX4_init_26 : decode cX4_init 26 = .ok (.aload_n 0, 1) := by decide +kernel
theorem dX4_init_27 : decode cX4_init 27 = .ok (.iconst 0, 1) := by decide +kernel
theorem dX4_init_28 : decode cX4_init 28 = .ok (.putfield 25, 3) := by decide +kernel
theorem dX4_init_31 : decode cX4_init 31 = .ok (.aload_n 0, 1) := by decide +kernel
theorem dX4_init_32 : decode cX4_init 32 = .ok (.iconst 0, 1) := by decide +kernel
theorem dX4_init_33 : decode cX4_init 33 = .ok (.putfield 28, 3) := by decide +kernel
theorem dX4_init_36 : decode cX4_init 36 = .ok (.return_, 1) := by decide +kernel
theorem dX4_readLines_0 : decode cX4_readLines 0 = .ok (.aload_n 0, 1) := by decide +kernel
theorem dX4_readLines_1 : decode cX4_readLines 1 = .ok (.aload_n 1, 1) := by decide +kernel
theorem dX4_readLines_2 : decode cX4_readLines 2 = .ok (.putfield 9, 3) := by decide +kernel
theorem dX4_readLines_5 : decode cX4_readLines 5 = .ok (.aload_n 0, 1) := by decide +kernel
theorem dX4_readLines_6 : decode cX4_readLines 6 = .ok (.iload_n 2, 1) := by decide +kernel
theorem dX4_readLines_7 : decode cX4_readLines 7 = .ok (.aload_n 1, 1) := by decide +kernel
theorem dX4_readLines_8 : decode cX4_readLines 8 = .ok (.arraylength, 1) := by decide +kernel
theorem dX4_readLines_9 : decode cX4_readLines 9 = .ok (.invokestatic 31, 3) := by decide +kernel
theorem dX4_readLines_12 : decode cX4_readLines 12 = .ok (.putfield 15, 3) := by decide +kernel
theorem dX4_readLines_15 : decode cX4_readLines 15 = .ok (.aload_n 0, 1) := by decide +kernel
theorem dX4_readLines_16 : decode cX4_readLines 16 = .ok (.iconst 0, 1) := by decide +kernel
theorem dX4_readLines_17 : decode cX4_readLines 17 = .ok (.putfield 25, 3) := by decide +kernel
theorem dX4_readLines_20 : decode cX4_readLines 20 = .ok (.aload_n 0, 1) := by decide +kernel
theorem dX4_readLines_21 : decode cX4_readLines 21 = .ok (.invokevirtual 37, 3) := by decide +kernel
theorem dX4_readLines_24 : decode cX4_readLines 24 = .ok (.aload_n 0, 1) := by decide +kernel
theorem dX4_readLines_25 : decode cX4_readLines 25 = .ok (.getfield 19, 3) := by decide +kernel
theorem dX4_readLines_28 : decode cX4_readLines 28 = .ok (.ifCond .ne 5, 3) := by decide +kernel
theorem dX4_readLines_31 : decode cX4_readLines 31 = .ok (.iconst (-1), 1) := by decide +kernel
theorem dX4_readLines_32 : decode cX4_readLines 32 = .ok (.ireturn, 1) := by decide +kernel
theorem dX4_readLines_33 : decode cX4_readLines 33 = .ok (.iconst 0, 1) := by decide +kernel
theorem dX4_readLines_34 : decode cX4_readLines 34 = .ok (.istore 4, 2) := by decide +kernel
theorem dX4_readLines_36 : decode cX4_readLines 36 = .ok (.iload 4, 2) := by decide +kernel
theorem dX4_readLines_38 : decode cX4_readLines 38 = .ok (.iload_n 3, 1) := by decide +kernel
theorem dX4_readLines_39 : decode cX4_readLines 39 = .ok (.if_icmp .ge 44, 3) := by decide +kernel
theorem dX4_readLines_42 : decode cX4_readLines 42 = .ok (.aload_n 0, 1) := by decide +kernel
theorem dX4_readLines_43 : decode cX4_readLines 43 = .ok (.invokevirtual 40, 3) := by decide +kernel
theorem dX4_readLines_46 : decode cX4_readLines 46 = .ok (.ifCond .ne 8, 3) := by decide +kernel
theorem dX4_readLines_49 : decode cX4_readLines 49 = .ok (.aload_n 0, 1) := by decide +kernel
theorem dX4_readLines_50 : decode cX4_readLines 50 = .ok (.getfield 22, 3) := by decide +kernel
theorem dX4_readLines_53 : decode cX4_readLines 53 = .ok (.ireturn, 1) := by decide +kernel
theorem dX4_readLines_54 : decode cX4_readLines 54 = .ok (.aload_n 0, 1) := by decide +kernel
theorem dX4_readLines_55 : decode cX4_readLines 55 = .ok (.getfield 19, 3) := by decide +kernel
theorem dX4_readLines_58 : decode cX4_readLines 58 = .ok (.ifCond .ne 5, 3) := by decide +kernel
theorem dX4_readLines_61 : decode cX4_readLines 61 = .ok (.iconst (-1), 1) := by decide +kernel
theorem dX4_readLines_62 : decode cX4_readLines 62 = .ok (.ireturn, 1) := by decide +kernel
theorem dX4_readLines_63 : decode cX4_readLines 63 = .ok (.aload_n 0, 1) := by decide +kernel
theorem dX4_readLines_64 : decode cX4_readLines 64 = .ok (.bipush 59, 2) := by decide +kernel
theorem dX4_readLines_66 : decode cX4_readLines 66 = .ok (.invokevirtual 44, 3) := by decide +kernel
theorem dX4_readLines_69 : decode cX4_readLines 69 = .ok (.ifCond .ne 8, 3) := by decide +kernel
theorem dX4_readLines_72 : decode cX4_readLines 72 = .ok (.aload_n 0, 1) := by decide +kernel
theorem dX4_readLines_73 : decode cX4_readLines 73 = .ok (.getfield 22, 3) := by decide +kernel
theorem dX4_readLines_76 : decode cX4_readLines 76 = .ok (.ireturn, 1) := by decide +kernel
theorem dX4_readLines_77 : decode cX4_readLines 77 = .ok (.iinc 4 1, 3) := by decide +kernel
theorem dX4_readLines_80 : decode cX4_readLines 80 = .ok (.goto (-44), 3) := by decide +kernel
theorem dX4_readLines_83 : decode cX4_readLines 83 = .ok (.aload_n 0, 1) := by decide +kernel
theorem dX4_readLines_84 : decode cX4_readLines 84 = .ok (.getfield 22, 3) := by decide +kernel
theorem dX4_readLines_87 : decode cX4_readLines 87 = .ok (.ireturn, 1) := by decide +kernel
theorem dX4_advance_0 : decode cX4_advance 0 = .ok (.aload_n 0, 1) := by decide +kernel
theorem dX4_advance_1 : decode cX4_advance 1 = .ok (.aload_n 0, 1) := by decide +kernel
theorem dX4_advance_2 : decode cX4_advance 2 = .ok (.getfield 25, 3) := by decide +kernel
theorem dX4_advance_5 : decode cX4_advance 5 = .ok (.putfield 22, 3) := by decide +kernel
theorem dX4_advance_8 : decode cX4_advance 8 = .ok (.aload_n 0, 1) := by decide +kernel
theorem dX4_advance_9 : decode cX4_advance 9 = .ok (.getfield 22, 3) := by decide +kernel
theorem dX4_advance_12 : decode cX4_advance 12 = .ok (.aload_n 0, 1) := by decide +kernel
theorem dX4_advance_13 : decode cX4_advance 13 = .ok (.getfield 15, 3) := by decide +kernel
theorem dX4_advance_16 : decode cX4_advance 16 = .ok (.if_icmp .ge 30, 3) := by decide +kernel
theorem dX4_advance_19 : decode cX4_advance 19 = .ok (.aload_n 0, 1) := by decide +kernel
theorem dX4_advance_20 : decode cX4_advance 20 = .ok (.getfield 9, 3) := by decide +kernel
theorem dX4_advance_23 : decode cX4_advance 23 = .ok (.aload_n 0, 1) := by decide +kernel
theorem dX4_advance_24 : decode cX4_advance 24 = .ok (.getfield 22, 3) := by decide +kernel
theorem dX4_advance_27 : decode cX4_advance 27 = .ok (.iaload, 1) := by decide +kernel
theorem dX4_advance_28 : decode cX4_advance 28 = .ok (.bipush 32, 2) := by decide +kernel
theorem dX4_advance_30 : decode cX4_advance 30 = .ok (.if_icmp .ne 16, 3) := by decide +kernel
theorem dX4_advance_33 : decode cX4_advance 33 = .ok (.aload_n 0, 1) := by decide +kernel
theorem dX4_advance_34 : decode cX4_advance 34 = .ok (.dup, 1) := by decide +kernel
theorem dX4_advance_35 : decode cX4_advance 35 = .ok (.getfield 22, 3) := by decide +kernel
theorem dX4_advance_38 : decode cX4_advance 38 = .ok (.iconst 1, 1) := by decide +kernel
theorem dX4_advance_39 : decode cX4_advance 39 = .ok (.iadd, 1) := by decide +kernel
theorem dX4_advance_40 : decode cX4_advance 40 = .ok (.putfield 22, 3) := by decide +kernel
theorem dX4_advance_43 : decode cX4_advance 43 = .ok (.goto (-35), 3) := by decide +kernel
theorem dX4_advance_46 : decode cX4_advance 46 = .ok (.aload_n 0, 1) := by decide +kernel
theorem dX4_advance_47 : decode cX4_advance 47 = .ok (.aload_n 0, 1) := by decide +kernel
theorem dX4_advance_48 : decode cX4_advance 48 = .ok (.getfield 22, 3) := by decide +kernel
theorem dX4_advance_51 : decode cX4_advance 51 = .ok (.putfield 25, 3) := by decide +kernel
theorem dX4_advance_54 : decode cX4_advance 54 = .ok (.aload_n 0, 1) := by decide +kernel
theorem dX4_advance_55 : decode cX4_advance 55 = .ok (.getfield 22, 3) := by decide +kernel
theorem dX4_advance_58 : decode cX4_advance 58 = .ok (.aload_n 0, 1) := by decide +kernel
theorem dX4_advance_59 : decode cX4_advance 59 = .ok (.getfield 15, 3) := by decide +kernel
theorem dX4_advance_62 : decode cX4_advance 62 = .ok (.if_icmp .lt 9, 3) := by decide +kernel
theorem dX4_advance_65 : decode cX4_advance 65 = .ok (.aload_n 0, 1) := by decide +kernel
theorem dX4_advance_66 : decode cX4_advance 66 = .ok (.iconst 0, 1) := by decide +kernel
theorem dX4_advance_67 : decode cX4_advance 67 = .ok (.putfield 19, 3) := by decide +kernel
theorem dX4_advance_70 : decode cX4_advance 70 = .ok (.return_, 1) := by decide +kernel
theorem dX4_advance_71 : decode cX4_advance 71 = .ok (.aload_n 0, 1) := by decide +kernel
theorem dX4_advance_72 : decode cX4_advance 72 = .ok (.aload_n 0, 1) := by decide +kernel
theorem dX4_advance_73 : decode cX4_advance 73 = .ok (.getfield 9, 3) := by decide +kernel
theorem dX4_advance_76 : decode cX4_advance 76 = .ok (.aload_n 0, 1) := by decide +kernel
theorem dX4_advance_77 : decode cX4_advance 77 = .ok (.getfield 22, 3) := by decide +kernel
theorem dX4_advance_80 : decode cX4_advance 80 = .ok (.iaload, 1) := by decide +kernel
theorem dX4_advance_81 : decode cX4_advance 81 = .ok (.putfield 28, 3) := by decide +kernel
theorem dX4_advance_84 : decode cX4_advance 84 = .ok (.aload_n 0, 1) := by decide +kernel
theorem dX4_advance_85 : decode cX4_advance 85 = .ok (.getfield 28, 3) := by decide +kernel
theorem dX4_advance_88 : decode cX4_advance 88 = .ok (.bipush 97, 2) := by decide +kernel
theorem dX4_advance_90 : decode cX4_advance 90 = .ok (.if_icmp .lt 69, 3) := by decide +kernel
theorem dX4_advance_93 : decode cX4_advance 93 = .ok (.aload_n 0, 1) := by decide +kernel
theorem dX4_advance_94 : decode cX4_advance 94 = .ok (.getfield 28, 3) := by decide +kernel
theorem dX4_advance_97 : decode cX4_advance 97 = .ok (.bipush 122, 2) := by decide +kernel
theorem dX4_advance_99 : decode cX4_advance 99 = .ok (.if_icmp .gt 60, 3) := by decide +kernel
theorem dX4_advance_102 : decode cX4_advance 102 = .ok (.aload_n 0, 1) := by decide +kernel
theorem dX4_advance_103 : decode cX4_advance 103 = .ok (.iconst 1, 1) := by decide +kernel
theorem dX4_advance_104 : decode cX4_advance 104 = .ok (.putfield 19, 3) := by decide +kernel
theorem dX4_advance_107 : decode cX4_advance 107 = .ok (.aload_n 0, 1) := by decide +kernel
theorem dX4_advance_108 : decode cX4_advance 108 = .ok (.getfield 25, 3) := by decide +kernel
theorem dX4_advance_111 : decode cX4_advance 111 = .ok (.aload_n 0, 1) := by decide +kernel
theorem dX4_advance_112 : decode cX4_advance 112 = .ok (.getfield 15, 3) := by decide +kernel
theorem dX4_advance_115 : decode cX4_advance 115 = .ok (.if_icmp .ge 182, 3) := by decide +kernel
theorem dX4_advance_118 : decode cX4_advance 118 = .ok (.aload_n 0, 1) := by decide +kernel
theorem dX4_advance_119 : decode cX4_advance 119 = .ok (.getfield 9, 3) := by decide +kernel
theorem dX4_advance_122 : decode cX4_advance 122 = .ok (.aload_n 0, 1) := by decide +kernel
theorem dX4_advance_123 : decode cX4_advance 123 = .ok (.getfield 25, 3) := by decide +kernel
theorem dX4_advance_126 : decode cX4_advance 126 = .ok (.iaload, 1) := by decide +kernel
theorem dX4_advance_127 : decode cX4_advance 127 = .ok (.bipush 97, 2) := by decide +kernel
theorem dX4_advance_129 : decode cX4_advance 129 = .ok (.if_icmp .lt 168, 3) := by decide +kernel
theorem dX4_advance_132 : decode cX4_advance 132 = .ok (.aload_n 0, 1) := by decide +kernel
theorem dX4_advance_133 : decode cX4_advance 133 = .ok (.getfield 9, 3) := by decide +kernel
theorem dX4_advance_136 : decode cX4_advance 136 = .ok (.aload_n 0, 1) := by decide +kernel
theorem dX4_advance_137 : decode cX4_advance 137 = .ok (.getfield 25, 3) := by decide +kernel
theorem dX4_advance_140 : decode cX4_advance 140 = .ok (.iaload, 1) := by decide +kernel
theorem dX4_advance_141 : decode cX4_advance 141 = .ok (.bipush 122, 2) := by decide +kernel
theorem dX4_advance_143 : decode cX4_advance 143 = .ok (.if_icmp .gt 154, 3) := by decide +kernel
theorem dX4_advance_146 : decode cX4_advance 146 = .ok (.aload_n 0, 1) := by decide +kernel
theorem dX4_advance_147 : decode cX4_advance 147 = .ok (.dup, 1) := by decide +kernel
theorem dX4_advance_148 : decode cX4_advance 148 = .ok (.getfield 25, 3) := by decide +kernel
theorem dX4_advance_151 : decode cX4_advance 151 = .ok (.iconst 1, 1) := by decide +kernel
theorem dX4_advance_152 : decode cX4_advance 152 = .ok (.iadd, 1) := by decide +kernel
theorem dX4_advance_153 : decode cX4_advance 153 = .ok (.putfield 25, 3) := by decide +kernel
theorem dX4_advance_156 : decode cX4_advance 156 = .ok (.goto (-49), 3) := by decide +kernel
theorem dX4_advance_159 : decode cX4_advance 159 = .ok (.aload_n 0, 1) := by decide +kernel
theorem dX4_advance_160 : decode cX4_advance 160 = .ok (.getfield 28, 3) := by decide +kernel
theorem dX4_advance_163 : decode cX4_advance 163 = .ok (.bipush 48, 2) := by decide +kernel
theorem dX4_advance_165 : decode cX4_advance 165 = .ok (.if_icmp .lt 117, 3) := by decide +kernel
theorem dX4_advance_168 : decode cX4_advance 168 = .ok (.aload_n 0, 1) := by decide +kernel
theorem dX4_advance_169 : decode cX4_advance 169 = .ok (.getfield 28, 3) := by decide +kernel
theorem dX4_advance_172 : decode cX4_advance 172 = .ok (.bipush 57, 2) := by decide +kernel
theorem dX4_advance_174 : decode cX4_advance 174 = .ok (.if_icmp .gt 108, 3) := by decide +kernel
theorem dX4_advance_177 : decode cX4_advance 177 = .ok (.aload_n 0, 1) := by decide +kernel
theorem dX4_advance_178 : decode cX4_advance 178 = .ok (.iconst 2, 1) := by decide +kernel
theorem dX4_advance_179 : decode cX4_advance 179 = .ok (.putfield 19, 3) := by decide +kernel
theorem dX4_advance_182 : decode cX4_advance 182 = .ok (.aload_n 0, 1) := by decide +kernel
theorem dX4_advance_183 : decode cX4_advance 183 = .ok (.iconst 0, 1) := by decide +kernel
theorem dX4_advance_184 : decode cX4_advance 184 = .ok (.putfield 28, 3) := by decide +kernel
theorem dX4_advance_187 : decode cX4_advance 187 = .ok (.aload_n 0, 1) := by decide +kernel
theorem dX4_advance_188 : decode cX4_advance 188 = .ok (.getfield 25, 3) := by decide +kernel
theorem dX4_advance_191 : decode cX4_advance 191 = .ok (.aload_n 0, 1) := by decide +kernel
theorem dX4_advance_192 : decode cX4_advance 192 = .ok (.getfield 15, 3) := by decide +kernel
theorem dX4_advance_195 : decode cX4_advance 195 = .ok (.if_icmp .ge 102, 3) := by decide +kernel
theorem dX4_advance_198 : decode cX4_advance 198 = .ok (.aload_n 0, 1) := by decide +kernel
theorem dX4_advance_199 : decode cX4_advance 199 = .ok (.getfield 9, 3) := by decide +kernel
theorem dX4_advance_202 : decode cX4_advance 202 = .ok (.aload_n 0, 1) := by decide +kernel
theorem dX4_advance_203 : decode cX4_advance 203 = .ok (.getfield 25, 3) := by decide +kernel
theorem dX4_advance_206 : decode cX4_advance 206 = .ok (.iaload, 1) := by decide +kernel
theorem dX4_advance_207 : decode cX4_advance 207 = .ok (.bipush 48, 2) := by decide +kernel
theorem dX4_advance_209 : decode cX4_advance 209 = .ok (.if_icmp .lt 88, 3) := by decide +kernel
theorem dX4_advance_212 : decode cX4_advance 212 = .ok (.aload_n 0, 1) := by decide +kernel
theorem dX4_advance_213 : decode cX4_advance 213 = .ok (.getfield 9, 3) := by decide +kernel
theorem dX4_advance_216 : decode cX4_advance 216 = .ok (.aload_n 0, 1) := by decide +kernel
theorem dX4_advance_217 : decode cX4_advance 217 = .ok (.getfield 25, 3) := by decide +kernel
theorem dX4_advance_220 : decode cX4_advance 220 = .ok (.iaload, 1) := by decide +kernel
theorem dX4_advance_221 : decode cX4_advance 221 = .ok (.bipush 57, 2) := by decide +kernel
theorem dX4_advance_223 : decode cX4_advance 223 = .ok (.if_icmp .gt 74, 3) := by decide +kernel
theorem dX4_advance_226 : decode cX4_advance 226 = .ok (.aload_n 0, 1) := by decide +kernel
theorem dX4_advance_227 : decode cX4_advance 227 = .ok (.aload_n 0, 1) := by decide +kernel
theorem dX4_advance_228 : decode cX4_advance 228 = .ok (.getfield 25, 3) := by decide +kernel
theorem dX4_advance_231 : decode cX4_advance 231 = .ok (.aload_n 0, 1) := by decide +kernel
theorem dX4_advance_232 : decode cX4_advance 232 = .ok (.getfield 22, 3) := by decide +kernel
theorem dX4_advance_235 : decode cX4_advance 235 = .ok (.isub, 1) := by decide +kernel
theorem dX4_advance_236 : decode cX4_advance 236 = .ok (.iconst 3, 1) := by decide +kernel
theorem dX4_advance_237 : decode cX4_advance 237 = .ok (.if_icmp .ge 26, 3) := by decide +kernel
theorem dX4_advance_240 : decode cX4_advance 240 = .ok (.aload_n 0, 1) := by decide +kernel
theorem dX4_advance_241 : decode cX4_advance 241 = .ok (.getfield 28, 3) := by decide +kernel
theorem dX4_advance_244 : decode cX4_advance 244 = .ok (.bipush 10, 2) := by decide +kernel
theorem dX4_advance_246 : decode cX4_advance 246 = .ok (.imul, 1) := by decide +kernel
theorem dX4_advance_247 : decode cX4_advance 247 = .ok (.aload_n 0, 1) := by decide +kernel
theorem dX4_advance_248 : decode cX4_advance 248 = .ok (.getfield 9, 3) := by decide +kernel
theorem dX4_advance_251 : decode cX4_advance 251 = .ok (.aload_n 0, 1) := by decide +kernel
theorem dX4_advance_252 : decode cX4_advance 252 = .ok (.getfield 25, 3) := by decide +kernel
theorem dX4_advance_255 : decode cX4_advance 255 = .ok (.iaload, 1) := by decide +kernel
theorem dX4_advance_256 : decode cX4_advance 256 = .ok (.iadd, 1) := by decide +kernel
theorem dX4_advance_257 : decode cX4_advance 257 = .ok (.bipush 48, 2) := by decide +kernel
theorem dX4_advance_259 : decode cX4_advance 259 = .ok (.isub, 1) := by decide +kernel
theorem dX4_advance_260 : decode cX4_advance 260 = .ok (.goto 6, 3) := by decide +kernel
theorem dX4_advance_263 : decode cX4_advance 263 = .ok (.sipush 1000, 3) := by decide +kernel
theorem dX4_advance_266 : decode cX4_advance 266 = .ok (.putfield 28, 3) := by decide +kernel
theorem dX4_advance_269 : decode cX4_advance 269 = .ok (.aload_n 0, 1) := by decide +kernel
theorem dX4_advance_270 : decode cX4_advance 270 = .ok (.dup, 1) := by decide +kernel
theorem dX4_advance_271 : decode cX4_advance 271 = .ok (.getfield 25, 3) := by decide +kernel
theorem dX4_advance_274 : decode cX4_advance 274 = .ok (.iconst 1, 1) := by decide +kernel
theorem dX4_advance_275 : decode cX4_advance 275 = .ok (.iadd, 1) := by decide +kernel
theorem dX4_advance_276 : decode cX4_advance 276 = .ok (.putfield 25, 3) := by decide +kernel
theorem dX4_advance_279 : decode cX4_advance 279 = .ok (.goto (-92), 3) := by decide +kernel
theorem dX4_advance_282 : decode cX4_advance 282 = .ok (.aload_n 0, 1) := by decide +kernel
theorem dX4_advance_283 : decode cX4_advance 283 = .ok (.iconst 3, 1) := by decide +kernel
theorem dX4_advance_284 : decode cX4_advance 284 = .ok (.putfield 19, 3) := by decide +kernel
theorem dX4_advance_287 : decode cX4_advance 287 = .ok (.aload_n 0, 1) := by decide +kernel
theorem dX4_advance_288 : decode cX4_advance 288 = .ok (.dup, 1) := by decide +kernel
theorem dX4_advance_289 : decode cX4_advance 289 = .ok (.getfield 25, 3) := by decide +kernel
theorem dX4_advance_292 : decode cX4_advance 292 = .ok (.iconst 1, 1) := by decide +kernel
theorem dX4_advance_293 : decode cX4_advance 293 = .ok (.iadd, 1) := by decide +kernel
theorem dX4_advance_294 : decode cX4_advance 294 = .ok (.putfield 25, 3) := by decide +kernel
theorem dX4_advance_297 : decode cX4_advance 297 = .ok (.return_, 1) := by decide +kernel
theorem dX4_isAt_0 : decode cX4_isAt 0 = .ok (.aload_n 0, 1) := by decide +kernel
theorem dX4_isAt_1 : decode cX4_isAt 1 = .ok (.getfield 19, 3) := by decide +kernel
theorem dX4_isAt_4 : decode cX4_isAt 4 = .ok (.iconst 1, 1) := by decide +kernel
theorem dX4_isAt_5 : decode cX4_isAt 5 = .ok (.if_icmp .ne 22, 3) := by decide +kernel
theorem dX4_isAt_8 : decode cX4_isAt 8 = .ok (.aload_n 0, 1) := by decide +kernel
theorem dX4_isAt_9 : decode cX4_isAt 9 = .ok (.getfield 25, 3) := by decide +kernel
theorem dX4_isAt_12 : decode cX4_isAt 12 = .ok (.aload_n 0, 1) := by decide +kernel
theorem dX4_isAt_13 : decode cX4_isAt 13 = .ok (.getfield 22, 3) := by decide +kernel
theorem dX4_isAt_16 : decode cX4_isAt 16 = .ok (.isub, 1) := by decide +kernel
theorem dX4_isAt_17 : decode cX4_isAt 17 = .ok (.aload_n 1, 1) := by decide +kernel
theorem dX4_isAt_18 : decode cX4_isAt 18 = .ok (.getfield 48, 3) := by decide +kernel
theorem dX4_isAt_21 : decode cX4_isAt 21 = .ok (.invokevirtual 53, 3) := by decide +kernel
theorem dX4_isAt_24 : decode cX4_isAt 24 = .ok (.if_icmp .eq 5, 3) := by decide +kernel
theorem dX4_isAt_27 : decode cX4_isAt 27 = .ok (.iconst 0, 1) := by decide +kernel
theorem dX4_isAt_28 : decode cX4_isAt 28 = .ok (.ireturn, 1) := by decide +kernel
theorem dX4_isAt_29 : decode cX4_isAt 29 = .ok (.iconst 0, 1) := by decide +kernel
theorem dX4_isAt_30 : decode cX4_isAt 30 = .ok (.istore_n 2, 1) := by decide +kernel
theorem dX4_isAt_31 : decode cX4_isAt 31 = .ok (.iload_n 2, 1) := by decide +kernel
theorem dX4_isAt_32 : decode cX4_isAt 32 = .ok (.aload_n 1, 1) := by decide +kernel
theorem dX4_isAt_33 : decode cX4_isAt 33 = .ok (.getfield 48, 3) := by decide +kernel
theorem dX4_isAt_36 : decode cX4_isAt 36 = .ok (.invokevirtual 53, 3) := by decide +kernel
theorem dX4_isAt_39 : decode cX4_isAt 39 = .ok (.if_icmp .ge 33, 3) := by decide +kernel
theorem dX4_isAt_42 : decode cX4_isAt 42 = .ok (.aload_n 0, 1) := by decide +kernel
theorem dX4_isAt_43 : decode cX4_isAt 43 = .ok (.getfield 9, 3) := by decide +kernel
theorem dX4_isAt_46 : decode cX4_isAt 46 = .ok (.aload_n 0, 1) := by decide +kernel
theorem dX4_isAt_47 : decode cX4_isAt 47 = .ok (.getfield 22, 3) := by decide +kernel
theorem dX4_isAt_50 : decode cX4_isAt 50 = .ok (.iload_n 2, 1) := by decide +kernel
theorem dX4_isAt_51 : decode cX4_isAt 51 = .ok (.iadd, 1) := by decide +kernel
theorem dX4_isAt_52 : decode cX4_isAt 52 = .ok (.iaload, 1) := by decide +kernel
theorem dX4_isAt_53 : decode cX4_isAt 53 = .ok (.aload_n 1, 1) := by decide +kernel
theorem dX4_isAt_54 : decode cX4_isAt 54 = .ok (.getfield 48, 3) := by decide +kernel
theorem dX4_isAt_57 : decode cX4_isAt 57 = .ok (.iload_n 2, 1) := by decide +kernel
theorem dX4_isAt_58 : decode cX4_isAt 58 = .ok (.invokevirtual 58, 3) := by decide +kernel
theorem dX4_isAt_61 : decode cX4_isAt 61 = .ok (.if_icmp .eq 5, 3) := by decide +kernel
theorem dX4_isAt_64 : decode cX4_isAt 64 = .ok (.iconst 0, 1) := by decide +kernel
theorem dX4_isAt_65 : decode cX4_isAt 65 = .ok (.ireturn, 1) := by decide +kernel
theorem dX4_isAt_66 : decode cX4_isAt 66 = .ok (.iinc 2 1, 3) := by decide +kernel
theorem dX4_isAt_69 : decode cX4_isAt 69 = .ok (.goto (-38), 3) := by decide +kernel
theorem dX4_isAt_72 : decode cX4_isAt 72 = .ok (.iconst 1, 1) := by decide +kernel
theorem dX4_isAt_73 : decode cX4_isAt 73 = .ok (.ireturn, 1) := by decide +kernel
theorem dX4_isAtSign_0 : decode cX4_isAtSign 0 = .ok (.aload_n 0, 1) := by decide +kernel
theorem dX4_isAtSign_1 : decode cX4_isAtSign 1 = .ok (.getfield 19, 3) := by decide +kernel
theorem dX4_isAtSign_4 : decode cX4_isAtSign 4 = .ok (.iconst 3, 1) := by decide +kernel
theorem dX4_isAtSign_5 : decode cX4_isAtSign 5 = .ok (.if_icmp .ne 15, 3) := by decide +kernel
theorem dX4_isAtSign_8 : decode cX4_isAtSign 8 = .ok (.aload_n 0, 1) := by decide +kernel
theorem dX4_isAtSign_9 : decode cX4_isAtSign 9 = .ok (.getfield 28, 3) := by decide +kernel
theorem dX4_isAtSign_12 : decode cX4_isAtSign 12 = .ok (.iload_n 1, 1) := by decide +kernel
theorem dX4_isAtSign_13 : decode cX4_isAtSign 13 = .ok (.if_icmp .ne 7, 3) := by decide +kernel
theorem dX4_isAtSign_16 : decode cX4_isAtSign 16 = .ok (.iconst 1, 1) := by decide +kernel
theorem dX4_isAtSign_17 : decode cX4_isAtSign 17 = .ok (.goto 4, 3) := by decide +kernel
theorem dX4_isAtSign_20 : decode cX4_isAtSign 20 = .ok (.iconst 0, 1) := by decide +kernel
theorem dX4_isAtSign_21 : decode cX4_isAtSign 21 = .ok (.ireturn, 1) := by decide +kernel
theorem dX4_isAtNumber_0 : decode cX4_isAtNumber 0 = .ok (.aload_n 0, 1) := by decide +kernel
theorem dX4_isAtNumber_1 : decode cX4_isAtNumber 1 = .ok (.getfield 19, 3) := by decide +kernel
theorem dX4_isAtNumber_4 : decode cX4_isAtNumber 4 = .ok (.iconst 2, 1) := by decide +kernel
theorem dX4_isAtNumber_5 : decode cX4_isAtNumber 5 = .ok (.if_icmp .ne 15, 3) := by decide +kernel
theorem dX4_isAtNumber_8 : decode cX4_isAtNumber 8 = .ok (.aload_n 0, 1) := by decide +kernel
theorem dX4_isAtNumber_9 : decode cX4_isAtNumber 9 = .ok (.getfield 28, 3) := by decide +kernel
theorem dX4_isAtNumber_12 : decode cX4_isAtNumber 12 = .ok (.iload_n 1, 1) := by decide +kernel
theorem dX4_isAtNumber_13 : decode cX4_isAtNumber 13 = .ok (.if_icmp .ne 7, 3) := by decide +kernel
theorem dX4_isAtNumber_16 : decode cX4_isAtNumber 16 = .ok (.iconst 1, 1) := by decide +kernel
theorem dX4_isAtNumber_17 : decode cX4_isAtNumber 17 = .ok (.goto 4, 3) := by decide +kernel
theorem dX4_isAtNumber_20 : decode cX4_isAtNumber 20 = .ok (.iconst 0, 1) := by decide +kernel
theorem dX4_isAtNumber_21 : decode cX4_isAtNumber 21 = .ok (.ireturn, 1) := by decide +kernel
theorem dX4_take_0 : decode cX4_take 0 = .ok (.aload_n 0, 1) := by decide +kernel
theorem dX4_take_1 : decode cX4_take 1 = .ok (.aload_n 1, 1) := by decide +kernel
theorem dX4_take_2 : decode cX4_take 2 = .ok (.invokevirtual 62, 3) := by decide +kernel
theorem dX4_take_5 : decode cX4_take 5 = .ok (.istore_n 2, 1) := by decide +kernel
theorem dX4_take_6 : decode cX4_take 6 = .ok (.iload_n 2, 1) := by decide +kernel
theorem dX4_take_7 : decode cX4_take 7 = .ok (.ifCond .eq 7, 3) := by decide +kernel
theorem dX4_take_10 : decode cX4_take 10 = .ok (.aload_n 0, 1) := by decide +kernel
theorem dX4_take_11 : decode cX4_take 11 = .ok (.invokevirtual 37, 3) := by decide +kernel
theorem dX4_take_14 : decode cX4_take 14 = .ok (.iload_n 2, 1) := by decide +kernel
theorem dX4_take_15 : decode cX4_take 15 = .ok (.ireturn, 1) := by decide +kernel
theorem dX4_takeSign_0 : decode cX4_takeSign 0 = .ok (.aload_n 0, 1) := by decide +kernel
theorem dX4_takeSign_1 : decode cX4_takeSign 1 = .ok (.iload_n 1, 1) := by decide +kernel
theorem dX4_takeSign_2 : decode cX4_takeSign 2 = .ok (.invokevirtual 66, 3) := by decide +kernel
theorem dX4_takeSign_5 : decode cX4_takeSign 5 = .ok (.istore_n 2, 1) := by decide +kernel
theorem dX4_takeSign_6 : decode cX4_takeSign 6 = .ok (.iload_n 2, 1) := by decide +kernel
theorem dX4_takeSign_7 : decode cX4_takeSign 7 = .ok (.ifCond .eq 7, 3) := by decide +kernel
theorem dX4_takeSign_10 : decode cX4_takeSign 10 = .ok (.aload_n 0, 1) := by decide +kernel
theorem dX4_takeSign_11 : decode cX4_takeSign 11 = .ok (.invokevirtual 37, 3) := by decide +kernel
theorem dX4_takeSign_14 : decode cX4_takeSign 14 = .ok (.iload_n 2, 1) := by decide +kernel
theorem dX4_takeSign_15 : decode cX4_takeSign 15 = .ok (.ireturn, 1) := by decide +kernel
theorem dX4_takeNumber_0 : decode cX4_takeNumber 0 = .ok (.aload_n 0, 1) := by decide +kernel
theorem dX4_takeNumber_1 : decode cX4_takeNumber 1 = .ok (.getfield 19, 3) := by decide +kernel
theorem dX4_takeNumber_4 : decode cX4_takeNumber 4 = .ok (.iconst 2, 1) := by decide +kernel
theorem dX4_takeNumber_5 : decode cX4_takeNumber 5 = .ok (.if_icmp .ne 19, 3) := by decide +kernel
theorem dX4_takeNumber_8 : decode cX4_takeNumber 8 = .ok (.aload_n 0, 1) := by decide +kernel
theorem dX4_takeNumber_9 : decode cX4_takeNumber 9 = .ok (.getfield 28, 3) := by decide +kernel
theorem dX4_takeNumber_12 : decode cX4_takeNumber 12 = .ok (.iload_n 1, 1) := by decide +kernel
theorem dX4_takeNumber_13 : decode cX4_takeNumber 13 = .ok (.if_icmp .lt 11, 3) := by decide +kernel
theorem dX4_takeNumber_16 : decode cX4_takeNumber 16 = .ok (.aload_n 0, 1) := by decide +kernel
theorem dX4_takeNumber_17 : decode cX4_takeNumber 17 = .ok (.getfield 28, 3) := by decide +kernel
theorem dX4_takeNumber_20 : decode cX4_takeNumber 20 = .ok (.iload_n 2, 1) := by decide +kernel
theorem dX4_takeNumber_21 : decode cX4_takeNumber 21 = .ok (.if_icmp .le 5, 3) := by decide +kernel
theorem dX4_takeNumber_24 : decode cX4_takeNumber 24 = .ok (.iconst (-1), 1) := by decide +kernel
theorem dX4_takeNumber_25 : decode cX4_takeNumber 25 = .ok (.ireturn, 1) := by decide +kernel
theorem dX4_takeNumber_26 : decode cX4_takeNumber 26 = .ok (.aload_n 0, 1) := by decide +kernel
theorem dX4_takeNumber_27 : decode cX4_takeNumber 27 = .ok (.getfield 28, 3) := by decide +kernel
theorem dX4_takeNumber_30 : decode cX4_takeNumber 30 = .ok (.istore_n 3, 1) := by decide +kernel
theorem dX4_takeNumber_31 : decode cX4_takeNumber 31 = .ok (.aload_n 0, 1) := by decide +kernel
theorem dX4_takeNumber_32 : decode cX4_takeNumber 32 = .ok (.invokevirtual 37, 3) := by decide +kernel
theorem dX4_takeNumber_35 : decode cX4_takeNumber 35 = .ok (.iload_n 3, 1) := by decide +kernel
theorem dX4_takeNumber_36 : decode cX4_takeNumber 36 = .ok (.ireturn, 1) := by decide +kernel
theorem dX4_codeHere_0 : decode cX4_codeHere 0 = .ok (.iconst 0, 1) := by decide +kernel
theorem dX4_codeHere_1 : decode cX4_codeHere 1 = .ok (.istore_n 1, 1) := by decide +kernel
theorem dX4_codeHere_2 : decode cX4_codeHere 2 = .ok (.iload_n 1, 1) := by decide +kernel
theorem dX4_codeHere_3 : decode cX4_codeHere 3 = .ok (.getstatic 69, 3) := by decide +kernel
theorem dX4_codeHere_6 : decode cX4_codeHere 6 = .ok (.arraylength, 1) := by decide +kernel
theorem dX4_codeHere_7 : decode cX4_codeHere 7 = .ok (.if_icmp .ge 42, 3) := by decide +kernel
theorem dX4_codeHere_10 : decode cX4_codeHere 10 = .ok (.getstatic 69, 3) := by decide +kernel
theorem dX4_codeHere_13 : decode cX4_codeHere 13 = .ok (.iload_n 1, 1) := by decide +kernel
theorem dX4_codeHere_14 : decode cX4_codeHere 14 = .ok (.aaload, 1) := by decide +kernel
theorem dX4_codeHere_15 : decode cX4_codeHere 15 = .ok (.getfield 73, 3) := by decide +kernel
theorem dX4_codeHere_18 : decode cX4_codeHere 18 = .ok (.iconst (-1), 1) := by decide +kernel
theorem dX4_codeHere_19 : decode cX4_codeHere 19 = .ok (.if_icmp .eq 24, 3) := by decide +kernel
theorem dX4_codeHere_22 : decode cX4_codeHere 22 = .ok (.aload_n 0, 1) := by decide +kernel
theorem dX4_codeHere_23 : decode cX4_codeHere 23 = .ok (.getstatic 69, 3) := by decide +kernel
theorem dX4_codeHere_26 : decode cX4_codeHere 26 = .ok (.iload_n 1, 1) := by decide +kernel
theorem dX4_codeHere_27 : decode cX4_codeHere 27 = .ok (.aaload, 1) := by decide +kernel
theorem dX4_codeHere_28 : decode cX4_codeHere 28 = .ok (.invokevirtual 62, 3) := by decide +kernel
theorem dX4_codeHere_31 : decode cX4_codeHere 31 = .ok (.ifCond .eq 12, 3) := by decide +kernel
theorem dX4_codeHere_34 : decode cX4_codeHere 34 = .ok (.getstatic 69, 3) := by decide +kernel
theorem dX4_codeHere_37 : decode cX4_codeHere 37 = .ok (.iload_n 1, 1) := by decide +kernel
theorem dX4_codeHere_38 : decode cX4_codeHere 38 = .ok (.aaload, 1) := by decide +kernel
theorem dX4_codeHere_39 : decode cX4_codeHere 39 = .ok (.getfield 73, 3) := by decide +kernel
theorem dX4_codeHere_42 : decode cX4_codeHere 42 = .ok (.ireturn, 1) := by decide +kernel
theorem dX4_codeHere_43 : decode cX4_codeHere 43 = .ok (.iinc 1 1, 3) := by decide +kernel
theorem dX4_codeHere_46 : decode cX4_codeHere 46 = .ok (.goto (-44), 3) := by decide +kernel
theorem dX4_codeHere_49 : decode cX4_codeHere 49 = .ok (.iconst (-1), 1) := by decide +kernel
theorem dX4_codeHere_50 : decode cX4_codeHere 50 = .ok (.ireturn, 1) := by decide +kernel
theorem dX5_init_0 : decode cX5_init 0 = .ok (.aload_n 0, 1) := by decide +kernel
theorem dX5_init_1 : decode cX5_init 1 = .ok (.invokespecial 3, 3) := by decide +kernel
theorem dX5_init_4 : decode cX5_init 4 = .ok (.aload_n 0, 1) := by decide +kernel
theorem dX5_init_5 : decode cX5_init 5 = .ok (.bipush 60, 2) := by decide +kernel
theorem dX5_init_7 : decode cX5_init 7 = .ok (.newarray .int, 2) := by decide +kernel
theorem dX5_init_9 : decode cX5_init 9 = .ok (.putfield 9, 3) := by decide +kernel
theorem dX5_init_12 : decode cX5_init 12 = .ok (.aload_n 0, 1) := by decide +kernel
theorem dX5_init_13 : decode cX5_init 13 = .ok (.iconst 0, 1) := by decide +kernel
theorem dX5_init_14 : decode cX5_init 14 = .ok (.putfield 15, 3) := by decide +kernel
theorem dX5_init_17 : decode cX5_init 17 = .ok (.aload_n 0, 1) := by decide +kernel
theorem dX5_init_18 : decode cX5_init 18 = .ok (.iconst 0, 1) := by decide +kernel
theorem dX5_init_19 : decode cX5_init 19 = .ok (.putfield 19, 3) := by decide +kernel
theorem dX5_init_22 : decode cX5_init 22 = .ok (.return_, 1) := by decide +kernel
theorem dX5_become_0 : decode cX5_become 0 = .ok (.aload_n 1, 1) := by decide +kernel
theorem dX5_become_1 : decode cX5_become 1 = .ok (.getfield 9, 3) := by decide +kernel
theorem dX5_become_4 : decode cX5_become 4 = .ok (.iconst 0, 1) := by decide +kernel
theorem dX5_become_5 : decode cX5_become 5 = .ok (.aload_n 0, 1) := by decide +kernel
theorem dX5_become_6 : decode cX5_become 6 = .ok (.getfield 9, 3) := by decide +kernel
theorem dX5_become_9 : decode cX5_become 9 = .ok (.iconst 0, 1) := by decide +kernel
theorem dX5_become_10 : decode cX5_become 10 = .ok (.aload_n 0, 1) := by decide +kernel
theorem dX5_become_11 : decode cX5_become 11 = .ok (.getfield 9, 3) := by decide +kernel
theorem dX5_become_14 : decode cX5_become 14 = .ok (.arraylength, 1) := by decide +kernel
theorem dX5_become_15 : decode cX5_become 15 = .ok (.invokestatic 22, 3) := by decide +kernel
theorem dX5_become_18 : decode cX5_become 18 = .ok (.aload_n 0, 1) := by decide +kernel
theorem dX5_become_19 : decode cX5_become 19 = .ok (.aload_n 1, 1) := by decide +kernel
theorem dX5_become_20 : decode cX5_become 20 = .ok (.getfield 15, 3) := by decide +kernel
theorem dX5_become_23 : decode cX5_become 23 = .ok (.putfield 15, 3) := by decide +kernel
theorem dX5_become_26 : decode cX5_become 26 = .ok (.aload_n 0, 1) := by decide +kernel
theorem dX5_become_27 : decode cX5_become 27 = .ok (.aload_n 1, 1) := by decide +kernel
theorem dX5_become_28 : decode cX5_become 28 = .ok (.getfield 19, 3) := by decide +kernel
theorem dX5_become_31 : decode cX5_become 31 = .ok (.putfield 19, 3) := by decide +kernel
theorem dX5_become_34 : decode cX5_become 34 = .ok (.return_, 1) := by decide +kernel
theorem dX5_write_0 : decode cX5_write 0 = .ok (.aload_n 0, 1) := by decide +kernel
theorem dX5_write_1 : decode cX5_write 1 = .ok (.getfield 19, 3) := by decide +kernel
theorem dX5_write_4 : decode cX5_write 4 = .ok (.ifCond .lt 15, 3) := by decide +kernel
theorem dX5_write_7 : decode cX5_write 7 = .ok (.aload_n 0, 1) := by decide +kernel
theorem dX5_write_8 : decode cX5_write 8 = .ok (.getfield 19, 3) := by decide +kernel
theorem dX5_write_11 : decode cX5_write 11 = .ok (.aload_n 0, 1) := by decide +kernel
theorem dX5_write_12 : decode cX5_write 12 = .ok (.getfield 9, 3) := by decide +kernel
theorem dX5_write_15 : decode cX5_write 15 = .ok (.arraylength, 1) := by decide +kernel
theorem dX5_write_16 : decode cX5_write 16 = .ok (.if_icmp .lt 8, 3) := by decide +kernel
theorem dX5_write_19 : decode cX5_write 19 = .ok (.aload_n 0, 1) := by decide +kernel
theorem dX5_write_20 : decode cX5_write 20 = .ok (.iconst 0, 1) := by decide +kernel
theorem dX5_write_21 : decode cX5_write 21 = .ok (.putfield 19, 3) := by decide +kernel
theorem dX5_write_24 : decode cX5_write 24 = .ok (.aload_n 0, 1) := by decide +kernel
theorem dX5_write_25 : decode cX5_write 25 = .ok (.getfield 9, 3) := by decide +kernel
theorem dX5_write_28 : decode cX5_write 28 = .ok (.aload_n 0, 1) := by decide +kernel
theorem dX5_write_29 : decode cX5_write 29 = .ok (.getfield 19, 3) := by decide +kernel
theorem dX5_write_32 : decode cX5_write 32 = .ok (.iload_n 1, 1) := by decide +kernel
theorem dX5_write_33 : decode cX5_write 33 = .ok (.bipush 14, 2) := by decide +kernel
theorem dX5_write_35 : decode cX5_write 35 = .ok (.ishl, 1) := by decide +kernel
theorem dX5_write_36 : decode cX5_write 36 = .ok (.iload_n 2, 1) := by decide +kernel
theorem dX5_write_37 : decode cX5_write 37 = .ok (.bipush 11, 2) := by decide +kernel
theorem dX5_write_39 : decode cX5_write 39 = .ok (.ishl, 1) := by decide +kernel
theorem dX5_write_40 : decode cX5_write 40 = .ok (.ior, 1) := by decide +kernel
theorem dX5_write_41 : decode cX5_write 41 = .ok (.iload_n 3, 1) := by decide +kernel
theorem dX5_write_42 : decode cX5_write 42 = .ok (.bipush 8, 2) := by decide +kernel
theorem dX5_write_44 : decode cX5_write 44 = .ok (.ishl, 1) := by decide +kernel
theorem dX5_write_45 : decode cX5_write 45 = .ok (.ior, 1) := by decide +kernel
theorem dX5_write_46 : decode cX5_write 46 = .ok (.iload 4, 2) := by decide +kernel
theorem dX5_write_48 : decode cX5_write 48 = .ok (.ior, 1) := by decide +kernel
theorem dX5_write_49 : decode cX5_write 49 = .ok (.iastore, 1) := by decide +kernel
theorem dX5_write_50 : decode cX5_write 50 = .ok (.aload_n 0, 1) := by decide +kernel
theorem dX5_write_51 : decode cX5_write 51 = .ok (.dup, 1) := by decide +kernel
theorem dX5_write_52 : decode cX5_write 52 = .ok (.getfield 19, 3) := by decide +kernel
theorem dX5_write_55 : decode cX5_write 55 = .ok (.iconst 1, 1) := by decide +kernel
theorem dX5_write_56 : decode cX5_write 56 = .ok (.iadd, 1) := by decide +kernel
theorem dX5_write_57 : decode cX5_write 57 = .ok (.putfield 19, 3) := by decide +kernel
theorem dX5_write_60 : decode cX5_write 60 = .ok (.aload_n 0, 1) := by decide +kernel
theorem dX5_write_61 : decode cX5_write 61 = .ok (.aload_n 0, 1) := by decide +kernel
theorem dX5_write_62 : decode cX5_write 62 = .ok (.getfield 15, 3) := by decide +kernel
theorem dX5_write_65 : decode cX5_write 65 = .ok (.iconst 1, 1) := by decide +kernel
theorem dX5_write_66 : decode cX5_write 66 = .ok (.iadd, 1) := by decide +kernel
theorem dX5_write_67 : decode cX5_write 67 = .ok (.aload_n 0, 1) := by decide +kernel
theorem dX5_write_68 : decode cX5_write 68 = .ok (.getfield 9, 3) := by decide +kernel
theorem dX5_write_71 : decode cX5_write 71 = .ok (.arraylength, 1) := by decide +kernel
theorem dX5_write_72 : decode cX5_write 72 = .ok (.invokestatic 28, 3) := by decide +kernel
theorem dX5_write_75 : decode cX5_write 75 = .ok (.putfield 15, 3) := by decide +kernel
theorem dX5_write_78 : decode cX5_write 78 = .ok (.return_, 1) := by decide +kernel
theorem dX5_read_0 : decode cX5_read 0 = .ok (.iload_n 1, 1) := by decide +kernel
theorem dX5_read_1 : decode cX5_read 1 = .ok (.ifCond .lt 11, 3) := by decide +kernel
theorem dX5_read_4 : decode cX5_read 4 = .ok (.iload_n 1, 1) := by decide +kernel
theorem dX5_read_5 : decode cX5_read 5 = .ok (.aload_n 0, 1) := by decide +kernel
theorem dX5_read_6 : decode cX5_read 6 = .ok (.getfield 15, 3) := by decide +kernel
theorem dX5_read_9 : decode cX5_read 9 = .ok (.if_icmp .lt 5, 3) := by decide +kernel
theorem dX5_read_12 : decode cX5_read 12 = .ok (.iconst (-1), 1) := by decide +kernel
theorem dX5_read_13 : decode cX5_read 13 = .ok (.ireturn, 1) := by decide +kernel
theorem dX5_read_14 : decode cX5_read 14 = .ok (.aload_n 0, 1) := by decide +kernel
theorem dX5_read_15 : decode cX5_read 15 = .ok (.getfield 9, 3) := by decide +kernel
theorem dX5_read_18 : decode cX5_read 18 = .ok (.aload_n 0, 1) := by decide +kernel
theorem dX5_read_19 : decode cX5_read 19 = .ok (.getfield 19, 3) := by decide +kernel
theorem dX5_read_22 : decode cX5_read 22 = .ok (.iconst 1, 1) := by decide +kernel
theorem dX5_read_23 : decode cX5_read 23 = .ok (.isub, 1) := by decide +kernel
theorem dX5_read_24 : decode cX5_read 24 = .ok (.iload_n 1, 1) := by decide +kernel
theorem dX5_read_25 : decode cX5_read 25 = .ok (.isub, 1) := by decide +kernel
theorem dX5_read_26 : decode cX5_read 26 = .ok (.bipush 60, 2) := by decide +kernel
theorem dX5_read_28 : decode cX5_read 28 = .ok (.invokestatic 34, 3) := by decide +kernel
theorem dX5_read_31 : decode cX5_read 31 = .ok (.iaload, 1) := by decide +kernel
theorem dX5_read_32 : decode cX5_read 32 = .ok (.istore_n 3, 1) := by decide +kernel
theorem dX5_read_33 : decode cX5_read 33 = .ok (.iload_n 2, 1) := by decide +kernel
theorem dX5_read_34 : decode cX5_read 34 = .ok (.tableswitch 47 0 2 #[26, 31, 39], 26) := by decide +kernel
theorem dX5_read_60 : decode cX5_read 60 = .ok (.iload_n 3, 1) := by decide +kernel
theorem dX5_read_61 : decode cX5_read 61 = .ok (.bipush 14, 2) := by decide +kernel
theorem dX5_read_63 : decode cX5_read 63 = .ok (.ishr, 1) := by decide +kernel
theorem dX5_read_64 : decode cX5_read 64 = .ok (.ireturn, 1) := by decide +kernel
theorem dX5_read_65 : decode cX5_read 65 = .ok (.iload_n 3, 1) := by decide +kernel
theorem dX5_read_66 : decode cX5_read 66 = .ok (.bipush 11, 2) := by decide +kernel
theorem dX5_read_68 : decode cX5_read 68 = .ok (.ishr, 1) := by decide +kernel
theorem dX5_read_69 : decode cX5_read 69 = .ok (.bipush 7, 2) := by decide +kernel
theorem dX5_read_71 : decode cX5_read 71 = .ok (.iand, 1) := by decide +kernel
theorem dX5_read_72 : decode cX5_read 72 = .ok (.ireturn, 1) := by decide +kernel
theorem dX5_read_73 : decode cX5_read 73 = .ok (.iload_n 3, 1) := by decide +kernel
theorem dX5_read_74 : decode cX5_read 74 = .ok (.bipush 8, 2) := by decide +kernel
theorem dX5_read_76 : decode cX5_read 76 = .ok (.ishr, 1) := by decide +kernel
theorem dX5_read_77 : decode cX5_read 77 = .ok (.bipush 7, 2) := by decide +kernel
theorem dX5_read_79 : decode cX5_read 79 = .ok (.iand, 1) := by decide +kernel
theorem dX5_read_80 : decode cX5_read 80 = .ok (.ireturn, 1) := by decide +kernel
theorem dX5_read_81 : decode cX5_read 81 = .ok (.iload_n 3, 1) := by decide +kernel
theorem dX5_read_82 : decode cX5_read 82 = .ok (.sipush 255, 3) := by decide +kernel
theorem dX5_read_85 : decode cX5_read 85 = .ok (.iand, 1) := by decide +kernel
theorem dX5_read_86 : decode cX5_read 86 = .ok (.ireturn, 1) := by decide +kernel
theorem dX6_init_0 : decode cX6_init 0 = .ok (.aload_n 0, 1) := by decide +kernel
theorem dX6_init_1 : decode cX6_init 1 = .ok (.invokespecial 3, 3) := by decide +kernel
theorem dX6_init_4 : decode cX6_init 4 = .ok (.aload_n 0, 1) := by decide +kernel
theorem dX6_init_5 : decode cX6_init 5 = .ok (.bipush 7, 2) := by decide +kernel
theorem dX6_init_7 : decode cX6_init 7 = .ok (.newarray .int, 2) := by decide +kernel
theorem dX6_init_9 : decode cX6_init 9 = .ok (.putfield 9, 3) := by decide +kernel
theorem dX6_init_12 : decode cX6_init 12 = .ok (.aload_n 0, 1) := by decide +kernel
theorem dX6_init_13 : decode cX6_init 13 = .ok (.sipush 128, 3) := by decide +kernel
theorem dX6_init_16 : decode cX6_init 16 = .ok (.newarray .int, 2) := by decide +kernel
theorem dX6_init_18 : decode cX6_init 18 = .ok (.putfield 15, 3) := by decide +kernel
theorem dX6_init_21 : decode cX6_init 21 = .ok (.aload_n 0, 1) := by decide +kernel
theorem dX6_init_22 : decode cX6_init 22 = .ok (.iconst 0, 1) := by decide +kernel
theorem dX6_init_23 : decode cX6_init 23 = .ok (.putfield 18, 3) := by decide +kernel
theorem dX6_init_26 : decode cX6_init 26 = .ok (.return_, 1) := by decide +kernel
theorem dX6_readRows_0 : decode cX6_readRows 0 = .ok (.aload_n 0, 1) := by decide +kernel
theorem dX6_readRows_1 : decode cX6_readRows 1 = .ok (.iconst 0, 1) := by decide +kernel
theorem dX6_readRows_2 : decode cX6_readRows 2 = .ok (.iload_n 3, 1) := by decide +kernel
theorem dX6_readRows_3 : decode cX6_readRows 3 = .ok (.bipush 7, 2) := by decide +kernel
theorem dX6_readRows_5 : decode cX6_readRows 5 = .ok (.invokestatic 22, 3) := by decide +kernel
theorem dX6_readRows_8 : decode cX6_readRows 8 = .ok (.invokestatic 28, 3) := by decide +kernel
theorem dX6_readRows_11 : decode cX6_readRows 11 = .ok (.putfield 18, 3) := by decide +kernel
theorem dX6_readRows_14 : decode cX6_readRows 14 = .ok (.aload_n 0, 1) := by decide +kernel
theorem dX6_readRows_15 : decode cX6_readRows 15 = .ok (.getfield 9, 3) := by decide +kernel
theorem dX6_readRows_18 : decode cX6_readRows 18 = .ok (.iconst 0, 1) := by decide +kernel
theorem dX6_readRows_19 : decode cX6_readRows 19 = .ok (.invokestatic 31, 3) := by decide +kernel
theorem dX6_readRows_22 : decode cX6_readRows 22 = .ok (.iload_n 2, 1) := by decide +kernel
theorem dX6_readRows_23 : decode cX6_readRows 23 = .ok (.iconst 2, 1) := by decide +kernel
theorem dX6_readRows_24 : decode cX6_readRows 24 = .ok (.irem, 1) := by decide +kernel
theorem dX6_readRows_25 : decode cX6_readRows 25 = .ok (.ifCond .ne 14, 3) := by decide +kernel
theorem dX6_readRows_28 : decode cX6_readRows 28 = .ok (.iload_n 2, 1) := by decide +kernel
theorem dX6_readRows_29 : decode cX6_readRows 29 = .ok (.bipush 40, 2) := by decide +kernel
theorem dX6_readRows_31 : decode cX6_readRows 31 = .ok (.aload_n 1, 1) := by decide +kernel
theorem dX6_readRows_32 : decode cX6_readRows 32 = .ok (.arraylength, 1) := by decide +kernel
theorem dX6_readRows_33 : decode cX6_readRows 33 = .ok (.invokestatic 22, 3) := by decide +kernel
theorem dX6_readRows_36 : decode cX6_readRows 36 = .ok (.if_icmp .le 5, 3) := by decide +kernel
theorem dX6_readRows_39 : decode cX6_readRows 39 = .ok (.iconst 0, 1) := by decide +kernel
theorem dX6_readRows_40 : decode cX6_readRows 40 = .ok (.ireturn, 1) := by decide +kernel
theorem dX6_readRows_41 : decode cX6_readRows 41 = .ok (.iconst 0, 1) := by decide +kernel
theorem dX6_readRows_42 : decode cX6_readRows 42 = .ok (.istore 4, 2) := by decide +kernel
theorem dX6_readRows_44 : decode cX6_readRows 44 = .ok (.iload 4, 2) := by decide +kernel
theorem dX6_readRows_46 : decode cX6_readRows 46 = .ok (.iconst 1, 1) := by decide +kernel
theorem dX6_readRows_47 : decode cX6_readRows 47 = .ok (.iadd, 1) := by decide +kernel
theorem dX6_readRows_48 : decode cX6_readRows 48 = .ok (.iload_n 2, 1) := by decide +kernel
theorem dX6_readRows_49 : decode cX6_readRows 49 = .ok (.if_icmp .ge 74, 3) := by decide +kernel
theorem dX6_readRows_52 : decode cX6_readRows 52 = .ok (.aload_n 1, 1) := by decide +kernel
theorem dX6_readRows_53 : decode cX6_readRows 53 = .ok (.iload 4, 2) := by decide +kernel
theorem dX6_readRows_55 : decode cX6_readRows 55 = .ok (.iaload, 1) := by decide +kernel
theorem dX6_readRows_56 : decode cX6_readRows 56 = .ok (.istore 5, 2) := by decide +kernel
theorem dX6_readRows_58 : decode cX6_readRows 58 = .ok (.aload_n 1, 1) := by decide +kernel
theorem dX6_readRows_59 : decode cX6_readRows 59 = .ok (.iload 4, 2) := by decide +kernel
theorem dX6_readRows_61 : decode cX6_readRows 61 = .ok (.iconst 1, 1) := by decide +kernel
theorem dX6_readRows_62 : decode cX6_readRows 62 = .ok (.iadd, 1) := by decide +kernel
theorem dX6_readRows_63 : decode cX6_readRows 63 = .ok (.iaload, 1) := by decide +kernel
theorem dX6_readRows_64 : decode cX6_readRows 64 = .ok (.istore 6, 2) := by decide +kernel
theorem dX6_readRows_66 : decode cX6_readRows 66 = .ok (.iload 5, 2) := by decide +kernel
theorem dX6_readRows_68 : decode cX6_readRows 68 = .ok (.ifCond .lt 33, 3) := by decide +kernel
theorem dX6_readRows_71 : decode cX6_readRows 71 = .ok (.iload 5, 2) := by decide +kernel
theorem dX6_readRows_73 : decode cX6_readRows 73 = .ok (.aload_n 0, 1) := by decide +kernel
theorem dX6_readRows_74 : decode cX6_readRows 74 = .ok (.getfield 18, 3) := by decide +kernel
theorem dX6_readRows_77 : decode cX6_readRows 77 = .ok (.if_icmp .ge 24, 3) := by decide +kernel
theorem dX6_readRows_80 : decode cX6_readRows 80 = .ok (.iload 6, 2) := by decide +kernel
theorem dX6_readRows_82 : decode cX6_readRows 82 = .ok (.ifCond .lt 19, 3) := by decide +kernel
theorem dX6_readRows_85 : decode cX6_readRows 85 = .ok (.iload 6, 2) := by decide +kernel
theorem dX6_readRows_87 : decode cX6_readRows 87 = .ok (.aload_n 0, 1) := by decide +kernel
theorem dX6_readRows_88 : decode cX6_readRows 88 = .ok (.getfield 18, 3) := by decide +kernel
theorem dX6_readRows_91 : decode cX6_readRows 91 = .ok (.if_icmp .ge 10, 3) := by decide +kernel
theorem dX6_readRows_94 : decode cX6_readRows 94 = .ok (.iload 5, 2) := by decide +kernel
theorem dX6_readRows_96 : decode cX6_readRows 96 = .ok (.iload 6, 2) := by decide +kernel
theorem dX6_readRows_98 : decode cX6_readRows 98 = .ok (.if_icmp .ne 5, 3) := by decide +kernel
theorem dX6_readRows_101 : decode cX6_readRows 101 = .ok (.iconst 0, 1) := by decide +kernel
theorem dX6_readRows_102 : decode cX6_readRows 102 = .ok (.ireturn, 1) := by decide +kernel
theorem dX6_readRows_103 : decode cX6_readRows 103 = .ok (.aload_n 0, 1) := by decide +kernel
theorem dX6_readRows_104 : decode cX6_readRows 104 = .ok (.getfield 9, 3) := by decide +kernel
theorem dX6_readRows_107 : decode cX6_readRows 107 = .ok (.iload 6, 2) := by decide +kernel
theorem dX6_readRows_109 : decode cX6_readRows 109 = .ok (.dup2, 1) := by decide +kernel
theorem dX6_readRows_110 : decode cX6_readRows 110 = .ok (.iaload, 1) := by decide +kernel
theorem dX6_readRows_111 : decode cX6_readRows 111 = .ok (.iconst 1, 1) := by decide +kernel
theorem dX6_readRows_112 : decode cX6_readRows 112 = .ok (.iload 5, 2) := by decide +kernel
theorem dX6_readRows_114 : decode cX6_readRows 114 = .ok (.ishl, 1) := by decide +kernel
theorem dX6_readRows_115 : decode cX6_readRows 115 = .ok (.ior, 1) := by decide +kernel
theorem dX6_readRows_116 : decode cX6_readRows 116 = .ok (.iastore, 1) := by decide +kernel
theorem dX6_readRows_117 : decode cX6_readRows 117 = .ok (.iinc 4 2, 3) := by decide +kernel
theorem dX6_readRows_120 : decode cX6_readRows 120 = .ok (.goto (-76), 3) := by decide +kernel
theorem dX6_readRows_123 : decode cX6_readRows 123 = .ok (.iconst 1, 1) := by decide +kernel
theorem dX6_readRows_124 : decode cX6_readRows 124 = .ok (.ireturn, 1) := by decide +kernel
theorem dX6_countAll_0 : decode cX6_countAll 0 = .ok (.aload_n 0, 1) := by decide +kernel
theorem dX6_countAll_1 : decode cX6_countAll 1 = .ok (.getfield 15, 3) := by decide +kernel
theorem dX6_countAll_4 : decode cX6_countAll 4 = .ok (.iconst 0, 1) := by decide +kernel
theorem dX6_countAll_5 : decode cX6_countAll 5 = .ok (.invokestatic 31, 3) := by decide +kernel
theorem dX6_countAll_8 : decode cX6_countAll 8 = .ok (.aload_n 0, 1) := by decide +kernel
theorem dX6_countAll_9 : decode cX6_countAll 9 = .ok (.getfield 15, 3) := by decide +kernel
theorem dX6_countAll_12 : decode cX6_countAll 12 = .ok (.iconst 0, 1) := by decide +kernel
theorem dX6_countAll_13 : decode cX6_countAll 13 = .ok (.iconst 1, 1) := by decide +kernel
theorem dX6_countAll_14 : decode cX6_countAll 14 = .ok (.iastore, 1) := by decide +kernel
theorem dX6_countAll_15 : decode cX6_countAll 15 = .ok (.iconst 1, 1) := by decide +kernel
theorem dX6_countAll_16 : decode cX6_countAll 16 = .ok (.istore_n 1, 1) := by decide +kernel
theorem dX6_countAll_17 : decode cX6_countAll 17 = .ok (.iload_n 1, 1) := by decide +kernel
theorem dX6_countAll_18 : decode cX6_countAll 18 = .ok (.iconst 1, 1) := by decide +kernel
theorem dX6_countAll_19 : decode cX6_countAll 19 = .ok (.aload_n 0, 1) := by decide +kernel
theorem dX6_countAll_20 : decode cX6_countAll 20 = .ok (.getfield 18, 3) := by decide +kernel
theorem dX6_countAll_23 : decode cX6_countAll 23 = .ok (.ishl, 1) := by decide +kernel
theorem dX6_countAll_24 : decode cX6_countAll 24 = .ok (.if_icmp .ge 66, 3) := by decide +kernel
theorem dX6_countAll_27 : decode cX6_countAll 27 = .ok (.iconst 0, 1) := by decide +kernel
theorem dX6_countAll_28 : decode cX6_countAll 28 = .ok (.istore_n 2, 1) := by decide +kernel
theorem dX6_countAll_29 : decode cX6_countAll 29 = .ok (.iload_n 2, 1) := by decide +kernel
theorem dX6_countAll_30 : decode cX6_countAll 30 = .ok (.aload_n 0, 1) := by decide +kernel
theorem dX6_countAll_31 : decode cX6_countAll 31 = .ok (.getfield 18, 3) := by decide +kernel
theorem dX6_countAll_34 : decode cX6_countAll 34 = .ok (.if_icmp .ge 50, 3) := by decide +kernel
theorem dX6_countAll_37 : decode cX6_countAll 37 = .ok (.iload_n 1, 1) := by decide +kernel
theorem dX6_countAll_38 : decode cX6_countAll 38 = .ok (.iconst 1, 1) := by decide +kernel
theorem dX6_countAll_39 : decode cX6_countAll 39 = .ok (.iload_n 2, 1) := by decide +kernel
theorem dX6_countAll_40 : decode cX6_countAll 40 = .ok (.ishl, 1) := by decide +kernel
theorem dX6_countAll_41 : decode cX6_countAll 41 = .ok (.iconst (-1), 1) := by decide +kernel
theorem dX6_countAll_42 : decode cX6_countAll 42 = .ok (.ixor, 1) := by decide +kernel
theorem dX6_countAll_43 : decode cX6_countAll 43 = .ok (.iand, 1) := by decide +kernel
theorem dX6_countAll_44 : decode cX6_countAll 44 = .ok (.istore_n 3, 1) := by decide +kernel
theorem dX6_countAll_45 : decode cX6_countAll 45 = .ok (.iload_n 3, 1) := by decide +kernel
theorem dX6_countAll_46 : decode cX6_countAll 46 = .ok (.iload_n 1, 1) := by decide +kernel
theorem dX6_countAll_47 : decode cX6_countAll 47 = .ok (.if_icmp .eq 31, 3) := by decide +kernel
theorem dX6_countAll_50 : decode cX6_countAll 50 = .ok (.aload_n 0, 1) := by decide +kernel
theorem dX6_countAll_51 : decode cX6_countAll 51 = .ok (.getfield 9, 3) := by decide +kernel
theorem dX6_countAll_54 : decode cX6_countAll 54 = .ok (.iload_n 2, 1) := by decide +kernel
theorem dX6_countAll_55 : decode cX6_countAll 55 = .ok (.iaload, 1) := by decide +kernel
theorem dX6_countAll_56 : decode cX6_countAll 56 = .ok (.iload_n 3, 1) := by decide +kernel
theorem dX6_countAll_57 : decode cX6_countAll 57 = .ok (.iconst (-1), 1) := by decide +kernel
theorem dX6_countAll_58 : decode cX6_countAll 58 = .ok (.ixor, 1) := by decide +kernel
theorem dX6_countAll_59 : decode cX6_countAll 59 = .ok (.iand, 1) := by decide +kernel
theorem dX6_countAll_60 : decode cX6_countAll 60 = .ok (.ifCond .ne 18, 3) := by decide +kernel
theorem dX6_countAll_63 : decode cX6_countAll 63 = .ok (.aload_n 0, 1) := by decide +kernel
theorem dX6_countAll_64 : decode cX6_countAll 64 = .ok (.getfield 15, 3) := by decide +kernel
theorem dX6_countAll_67 : decode cX6_countAll 67 = .ok (.iload_n 1, 1) := by decide +kernel
theorem dX6_countAll_68 : decode cX6_countAll 68 = .ok (.dup2, 1) := by decide +kernel
theorem dX6_countAll_69 : decode cX6_countAll 69 = .ok (.iaload, 1) := by decide +kernel
theorem dX6_countAll_70 : decode cX6_countAll 70 = .ok (.aload_n 0, 1) := by decide +kernel
theorem dX6_countAll_71 : decode cX6_countAll 71 = .ok (.getfield 15, 3) := by decide +kernel
theorem dX6_countAll_74 : decode cX6_countAll 74 = .ok (.iload_n 3, 1) := by decide +kernel
theorem dX6_countAll_75 : decode cX6_countAll 75 = .ok (.iaload, 1) := by decide +kernel
theorem dX6_countAll_76 : decode cX6_countAll 76 = .ok (.iadd, 1) := by decide +kernel
theorem dX6_countAll_77 : decode cX6_countAll 77 = .ok (.iastore, 1) := by decide +kernel
theorem dX6_countAll_78 : decode cX6_countAll 78 = .ok (.iinc 2 1, 3) := by decide +kernel
theorem dX6_countAll_81 : decode cX6_countAll 81 = .ok (.goto (-52), 3) := by decide +kernel
theorem dX6_countAll_84 : decode cX6_countAll 84 = .ok (.iinc 1 1, 3) := by decide +kernel
theorem dX6_countAll_87 : decode cX6_countAll 87 = .ok (.goto (-70), 3) := by decide +kernel
theorem dX6_countAll_90 : decode cX6_countAll 90 = .ok (.aload_n 0, 1) := by decide +kernel
theorem dX6_countAll_91 : decode cX6_countAll 91 = .ok (.getfield 15, 3) := by decide +kernel
theorem dX6_countAll_94 : decode cX6_countAll 94 = .ok (.iconst 1, 1) := by decide +kernel
theorem dX6_countAll_95 : decode cX6_countAll 95 = .ok (.aload_n 0, 1) := by decide +kernel
theorem dX6_countAll_96 : decode cX6_countAll 96 = .ok (.getfield 18, 3) := by decide +kernel
theorem dX6_countAll_99 : decode cX6_countAll 99 = .ok (.ishl, 1) := by decide +kernel
theorem dX6_countAll_100 : decode cX6_countAll 100 = .ok (.iconst 1, 1) := by decide +kernel
theorem dX6_countAll_101 : decode cX6_countAll 101 = .ok (.isub, 1) := by decide +kernel
theorem dX6_countAll_102 : decode cX6_countAll 102 = .ok (.iaload, 1) := by decide +kernel
theorem dX6_countAll_103 : decode cX6_countAll 103 = .ok (.ireturn, 1) := by decide +kernel
theorem dX6_firstAt_0 : decode cX6_firstAt 0 = .ok (.iconst 0, 1) := by decide +kernel
theorem dX6_firstAt_1 : decode cX6_firstAt 1 = .ok (.istore_n 2, 1) := by decide +kernel
theorem dX6_firstAt_2 : decode cX6_firstAt 2 = .ok (.iconst 0, 1) := by decide +kernel
theorem dX6_firstAt_3 : decode cX6_firstAt 3 = .ok (.istore_n 3, 1) := by decide +kernel
theorem dX6_firstAt_4 : decode cX6_firstAt 4 = .ok (.iload_n 3, 1) := by decide +kernel
theorem dX6_firstAt_5 : decode cX6_firstAt 5 = .ok (.iload_n 1, 1) := by decide +kernel
theorem dX6_firstAt_6 : decode cX6_firstAt 6 = .ok (.if_icmp .gt 45, 3) := by decide +kernel
theorem dX6_firstAt_9 : decode cX6_firstAt 9 = .ok (.iload_n 3, 1) := by decide +kernel
theorem dX6_firstAt_10 : decode cX6_firstAt 10 = .ok (.aload_n 0, 1) := by decide +kernel
theorem dX6_firstAt_11 : decode cX6_firstAt 11 = .ok (.getfield 18, 3) := by decide +kernel
theorem dX6_firstAt_14 : decode cX6_firstAt 14 = .ok (.if_icmp .ge 37, 3) := by decide +kernel
theorem dX6_firstAt_17 : decode cX6_firstAt 17 = .ok (.aload_n 0, 1) := by decide +kernel
theorem dX6_firstAt_18 : decode cX6_firstAt 18 = .ok (.iload_n 2, 1) := by decide +kernel
theorem dX6_firstAt_19 : decode cX6_firstAt 19 = .ok (.invokevirtual 37, 3) := by decide +kernel
theorem dX6_firstAt_22 : decode cX6_firstAt 22 = .ok (.istore 4, 2) := by decide +kernel
theorem dX6_firstAt_24 : decode cX6_firstAt 24 = .ok (.iload_n 3, 1) := by decide +kernel
theorem dX6_firstAt_25 : decode cX6_firstAt 25 = .ok (.iload_n 1, 1) := by decide +kernel
theorem dX6_firstAt_26 : decode cX6_firstAt 26 = .ok (.if_icmp .eq 9, 3) := by decide +kernel
theorem dX6_firstAt_29 : decode cX6_firstAt 29 = .ok (.iload 4, 2) := by decide +kernel
theorem dX6_firstAt_31 : decode cX6_firstAt 31 = .ok (.iconst (-1), 1) := by decide +kernel
theorem dX6_firstAt_32 : decode cX6_firstAt 32 = .ok (.if_icmp .ne 6, 3) := by decide +kernel
theorem dX6_firstAt_35 : decode cX6_firstAt 35 = .ok (.iload 4, 2) := by decide +kernel
theorem dX6_firstAt_37 : decode cX6_firstAt 37 = .ok (.ireturn, 1) := by decide +kernel
theorem dX6_firstAt_38 : decode cX6_firstAt 38 = .ok (.iload_n 2, 1) := by decide +kernel
theorem dX6_firstAt_39 : decode cX6_firstAt 39 = .ok (.iconst 1, 1) := by decide +kernel
theorem dX6_firstAt_40 : decode cX6_firstAt 40 = .ok (.iload 4, 2) := by decide +kernel
theorem dX6_firstAt_42 : decode cX6_firstAt 42 = .ok (.ishl, 1) := by decide +kernel
theorem dX6_firstAt_43 : decode cX6_firstAt 43 = .ok (.ior, 1) := by decide +kernel
theorem dX6_firstAt_44 : decode cX6_firstAt 44 = .ok (.istore_n 2, 1) := by decide +kernel
theorem dX6_firstAt_45 : decode cX6_firstAt 45 = .ok (.iinc 3 1, 3) := by decide +kernel
theorem dX6_firstAt_48 : decode cX6_firstAt 48 = .ok (.goto (-44), 3) := by decide +kernel
theorem dX6_firstAt_51 : decode cX6_firstAt 51 = .ok (.iconst (-1), 1) := by decide +kernel
theorem dX6_firstAt_52 : decode cX6_firstAt 52 = .ok (.ireturn, 1) := by decide +kernel
theorem dX6_leastBehind_0 : decode cX6_leastBehind 0 = .ok (.iconst 0, 1) := by decide +kernel
theorem dX6_leastBehind_1 : decode cX6_leastBehind 1 = .ok (.istore_n 2, 1) := by decide +kernel
theorem dX6_leastBehind_2 : decode cX6_leastBehind 2 = .ok (.iload_n 2, 1) := by decide +kernel
theorem dX6_leastBehind_3 : decode cX6_leastBehind 3 = .ok (.aload_n 0, 1) := by decide +kernel
theorem dX6_leastBehind_4 : decode cX6_leastBehind 4 = .ok (.getfield 18, 3) := by decide +kernel
theorem dX6_leastBehind_7 : decode cX6_leastBehind 7 = .ok (.if_icmp .ge 32, 3) := by decide +kernel
theorem dX6_leastBehind_10 : decode cX6_leastBehind 10 = .ok (.iload_n 1, 1) := by decide +kernel
theorem dX6_leastBehind_11 : decode cX6_leastBehind 11 = .ok (.iload_n 2, 1) := by decide +kernel
theorem dX6_leastBehind_12 : decode cX6_leastBehind 12 = .ok (.ishr, 1) := by decide +kernel
theorem dX6_leastBehind_13 : decode cX6_leastBehind 13 = .ok (.iconst 1, 1) := by decide +kernel
theorem dX6_leastBehind_14 : decode cX6_leastBehind 14 = .ok (.iand, 1) := by decide +kernel
theorem dX6_leastBehind_15 : decode cX6_leastBehind 15 = .ok (.ifCond .ne 18, 3) := by decide +kernel
theorem dX6_leastBehind_18 : decode cX6_leastBehind 18 = .ok (.aload_n 0, 1) := by decide +kernel
theorem dX6_leastBehind_19 : decode cX6_leastBehind 19 = .ok (.getfield 9, 3) := by decide +kernel
theorem dX6_leastBehind_22 : decode cX6_leastBehind 22 = .ok (.iload_n 2, 1) := by decide +kernel
