theorem dX11_needPlace_4 : decode cX11_needPlace 4 = .ok (.iload_n 1, 1) := by decide +kernel
theorem dX11_needPlace_5 : decode cX11_needPlace 5 = .ok (.aload_n 0, 1) := by decide +kernel
theorem dX11_needPlace_6 : decode cX11_needPlace 6 = .ok (.getfield 47, 3) := by decide +kernel
theorem dX11_needPlace_9 : decode cX11_needPlace 9 = .ok (.getfield 230, 3) := by decide +kernel
theorem dX11_needPlace_12 : decode cX11_needPlace 12 = .ok (.if_icmp .lt 14, 3) := by decide +kernel
theorem dX11_needPlace_15 : decode cX11_needPlace 15 = .ok (.new 390, 3) := by decide +kernel
theorem dX11_needPlace_18 : decode cX11_needPlace 18 = .ok (.dup, 1) := by decide +kernel
theorem dX11_needPlace_19 : decode cX11_needPlace 19 = .ok (.ldc_w 399, 3) := by decide +kernel
theorem dX11_needPlace_22 : decode cX11_needPlace 22 = .ok (.invokespecial 394, 3) := by decide +kernel
theorem dX11_needPlace_25 : decode cX11_needPlace 25 = .ok (.athrow, 1) := by decide +kernel
theorem dX11_needPlace_26 : decode cX11_needPlace 26 = .ok (.return_, 1) := by decide +kernel
theorem dX11_needWithin_0 : decode cX11_needWithin 0 = .ok (.iload_n 0, 1) := by decide +kernel
theorem dX11_needWithin_1 : decode cX11_needWithin 1 = .ok (.iload_n 1, 1) := by decide +kernel
theorem dX11_needWithin_2 : decode cX11_needWithin 2 = .ok (.if_icmp .lt 8, 3) := by decide +kernel
theorem dX11_needWithin_5 : decode cX11_needWithin 5 = .ok (.iload_n 0, 1) := by decide +kernel
theorem dX11_needWithin_6 : decode cX11_needWithin 6 = .ok (.iload_n 2, 1) := by decide +kernel
theorem dX11_needWithin_7 : decode cX11_needWithin 7 = .ok (.if_icmp .le 14, 3) := by decide +kernel
theorem dX11_needWithin_10 : decode cX11_needWithin 10 = .ok (.new 118, 3) := by decide +kernel
theorem dX11_needWithin_13 : decode cX11_needWithin 13 = .ok (.dup, 1) := by decide +kernel
theorem dX11_needWithin_14 : decode cX11_needWithin 14 = .ok (.ldc_w 401, 3) := by decide +kernel
theorem dX11_needWithin_17 : decode cX11_needWithin 17 = .ok (.invokespecial 122, 3) := by decide +kernel
theorem dX11_needWithin_20 : decode cX11_needWithin 20 = .ok (.athrow, 1) := by decide +kernel
theorem dX11_needWithin_21 : decode cX11_needWithin 21 = .ok (.return_, 1) := by decide +kernel
theorem dX11_append_0 : decode cX11_append 0 = .ok (.bipush 24, 2) := by decide +kernel
theorem dX11_append_2 : decode cX11_append 2 = .ok (.istore_n 2, 1) := by decide +kernel
theorem dX11_append_3 : decode cX11_append 3 = .ok (.iload_n 2, 1) := by decide +kernel
theorem dX11_append_4 : decode cX11_append 4 = .ok (.ifCond .lt 47, 3) := by decide +kernel
theorem dX11_append_7 : decode cX11_append 7 = .ok (.aload_n 0, 1) := by decide +kernel
theorem dX11_append_8 : decode cX11_append 8 = .ok (.getfield 13, 3) := by decide +kernel
theorem dX11_append_11 : decode cX11_append 11 = .ok (.aload_n 0, 1) := by decide +kernel
theorem dX11_append_12 : decode cX11_append 12 = .ok (.getfield 9, 3) := by decide +kernel
theorem dX11_append_15 : decode cX11_append 15 = .ok (.arraylength, 1) := by decide +kernel
theorem dX11_append_16 : decode cX11_append 16 = .ok (.if_icmp .ge 35, 3) := by decide +kernel
theorem dX11_append_19 : decode cX11_append 19 = .ok (.aload_n 0, 1) := by decide +kernel
theorem dX11_append_20 : decode cX11_append 20 = .ok (.getfield 9, 3) := by decide +kernel
theorem dX11_append_23 : decode cX11_append 23 = .ok (.aload_n 0, 1) := by decide +kernel
theorem dX11_append_24 : decode cX11_append 24 = .ok (.getfield 13, 3) := by decide +kernel
theorem dX11_append_27 : decode cX11_append 27 = .ok (.iload_n 1, 1) := by decide +kernel
theorem dX11_append_28 : decode cX11_append 28 = .ok (.iload_n 2, 1) := by decide +kernel
theorem dX11_append_29 : decode cX11_append 29 = .ok (.iushr, 1) := by decide +kernel
theorem dX11_append_30 : decode cX11_append 30 = .ok (.sipush 255, 3) := by decide +kernel
theorem dX11_append_33 : decode cX11_append 33 = .ok (.iand, 1) := by decide +kernel
theorem dX11_append_34 : decode cX11_append 34 = .ok (.iastore, 1) := by decide +kernel
theorem dX11_append_35 : decode cX11_append 35 = .ok (.aload_n 0, 1) := by decide +kernel
theorem dX11_append_36 : decode cX11_append 36 = .ok (.dup, 1) := by decide +kernel
theorem dX11_append_37 : decode cX11_append 37 = .ok (.getfield 13, 3) := by decide +kernel
theorem dX11_append_40 : decode cX11_append 40 = .ok (.iconst 1, 1) := by decide +kernel
theorem dX11_append_41 : decode cX11_append 41 = .ok (.iadd, 1) := by decide +kernel
theorem dX11_append_42 : decode cX11_append 42 = .ok (.putfield 13, 3) := by decide +kernel
theorem dX11_append_45 : decode cX11_append 45 = .ok (.iinc 2 (-8), 3) := by decide +kernel
theorem dX11_append_48 : decode cX11_append 48 = .ok (.goto (-45), 3) := by decide +kernel
theorem dX11_append_51 : decode cX11_append 51 = .ok (.return_, 1) := by decide +kernel
theorem dX11_takeTape_0 : decode cX11_takeTape 0 = .ok (.aload_n 0, 1) := by decide +kernel
theorem dX11_takeTape_1 : decode cX11_takeTape 1 = .ok (.getfield 13, 3) := by decide +kernel
theorem dX11_takeTape_4 : decode cX11_takeTape 4 = .ok (.istore_n 1, 1) := by decide +kernel
theorem dX11_takeTape_5 : decode cX11_takeTape 5 = .ok (.aload_n 0, 1) := by decide +kernel
theorem dX11_takeTape_6 : decode cX11_takeTape 6 = .ok (.iconst 0, 1) := by decide +kernel
theorem dX11_takeTape_7 : decode cX11_takeTape 7 = .ok (.putfield 13, 3) := by decide +kernel
theorem dX11_takeTape_10 : decode cX11_takeTape 10 = .ok (.iload_n 1, 1) := by decide +kernel
theorem dX11_takeTape_11 : decode cX11_takeTape 11 = .ok (.ireturn, 1) := by decide +kernel
theorem dX11_remember_0 : decode cX11_remember 0 = .ok (.aload_n 0, 1) := by decide +kernel
theorem dX11_remember_1 : decode cX11_remember 1 = .ok (.getfield 62, 3) := by decide +kernel
theorem dX11_remember_4 : decode cX11_remember 4 = .ok (.aload_n 0, 1) := by decide +kernel
theorem dX11_remember_5 : decode cX11_remember 5 = .ok (.getfield 58, 3) := by decide +kernel
theorem dX11_remember_8 : decode cX11_remember 8 = .ok (.arraylength, 1) := by decide +kernel
theorem dX11_remember_9 : decode cX11_remember 9 = .ok (.if_icmp .lt 65, 3) := by decide +kernel
theorem dX11_remember_12 : decode cX11_remember 12 = .ok (.aload_n 0, 1) := by decide +kernel
theorem dX11_remember_13 : decode cX11_remember 13 = .ok (.getfield 58, 3) := by decide +kernel
theorem dX11_remember_16 : decode cX11_remember 16 = .ok (.iconst 0, 1) := by decide +kernel
theorem dX11_remember_17 : decode cX11_remember 17 = .ok (.aaload, 1) := by decide +kernel
theorem dX11_remember_18 : decode cX11_remember 18 = .ok (.astore_n 1, 1) := by decide +kernel
theorem dX11_remember_19 : decode cX11_remember 19 = .ok (.iconst 1, 1) := by decide +kernel
theorem dX11_remember_20 : decode cX11_remember 20 = .ok (.istore_n 2, 1) := by decide +kernel
theorem dX11_remember_21 : decode cX11_remember 21 = .ok (.iload_n 2, 1) := by decide +kernel
theorem dX11_remember_22 : decode cX11_remember 22 = .ok (.aload_n 0, 1) := by decide +kernel
theorem dX11_remember_23 : decode cX11_remember 23 = .ok (.getfield 58, 3) := by decide +kernel
theorem dX11_remember_26 : decode cX11_remember 26 = .ok (.arraylength, 1) := by decide +kernel
theorem dX11_remember_27 : decode cX11_remember 27 = .ok (.if_icmp .ge 23, 3) := by decide +kernel
theorem dX11_remember_30 : decode cX11_remember 30 = .ok (.aload_n 0, 1) := by decide +kernel
theorem dX11_remember_31 : decode cX11_remember 31 = .ok (.getfield 58, 3) := by decide +kernel
theorem dX11_remember_34 : decode cX11_remember 34 = .ok (.iload_n 2, 1) := by decide +kernel
theorem dX11_remember_35 : decode cX11_remember 35 = .ok (.iconst 1, 1) := by decide +kernel
theorem dX11_remember_36 : decode cX11_remember 36 = .ok (.isub, 1) := by decide +kernel
theorem dX11_remember_37 : decode cX11_remember 37 = .ok (.aload_n 0, 1) := by decide +kernel
theorem dX11_remember_38 : decode cX11_remember 38 = .ok (.getfield 58, 3) := by decide +kernel
theorem dX11_remember_41 : decode cX11_remember 41 = .ok (.iload_n 2, 1) := by decide +kernel
theorem dX11_remember_42 : decode cX11_remember 42 = .ok (.aaload, 1) := by decide +kernel
theorem dX11_remember_43 : decode cX11_remember 43 = .ok (.aastore, 1) := by decide +kernel
theorem dX11_remember_44 : decode cX11_remember 44 = .ok (.iinc 2 1, 3) := by decide +kernel
theorem dX11_remember_47 : decode cX11_remember 47 = .ok (.goto (-26), 3) := by decide +kernel
theorem dX11_remember_50 : decode cX11_remember 50 = .ok (.aload_n 0, 1) := by decide +kernel
theorem dX11_remember_51 : decode cX11_remember 51 = .ok (.getfield 58, 3) := by decide +kernel
theorem dX11_remember_54 : decode cX11_remember 54 = .ok (.aload_n 0, 1) := by decide +kernel
theorem dX11_remember_55 : decode cX11_remember 55 = .ok (.getfield 58, 3) := by decide +kernel
theorem dX11_remember_58 : decode cX11_remember 58 = .ok (.arraylength, 1) := by decide +kernel
theorem dX11_remember_59 : decode cX11_remember 59 = .ok (.iconst 1, 1) := by decide +kernel
theorem dX11_remember_60 : decode cX11_remember 60 = .ok (.isub, 1) := by decide +kernel
theorem dX11_remember_61 : decode cX11_remember 61 = .ok (.aload_n 1, 1) := by decide +kernel
theorem dX11_remember_62 : decode cX11_remember 62 = .ok (.aastore, 1) := by decide +kernel
theorem dX11_remember_63 : decode cX11_remember 63 = .ok (.aload_n 0, 1) := by decide +kernel
theorem dX11_remember_64 : decode cX11_remember 64 = .ok (.aload_n 0, 1) := by decide +kernel
theorem dX11_remember_65 : decode cX11_remember 65 = .ok (.getfield 58, 3) := by decide +kernel
theorem dX11_remember_68 : decode cX11_remember 68 = .ok (.arraylength, 1) := by decide +kernel
theorem dX11_remember_69 : decode cX11_remember 69 = .ok (.iconst 1, 1) := by decide +kernel
theorem dX11_remember_70 : decode cX11_remember 70 = .ok (.isub, 1) := by decide +kernel
theorem dX11_remember_71 : decode cX11_remember 71 = .ok (.putfield 62, 3) := by decide +kernel
theorem dX11_remember_74 : decode cX11_remember 74 = .ok (.aload_n 0, 1) := by decide +kernel
theorem dX11_remember_75 : decode cX11_remember 75 = .ok (.getfield 58, 3) := by decide +kernel
theorem dX11_remember_78 : decode cX11_remember 78 = .ok (.aload_n 0, 1) := by decide +kernel
theorem dX11_remember_79 : decode cX11_remember 79 = .ok (.getfield 62, 3) := by decide +kernel
theorem dX11_remember_82 : decode cX11_remember 82 = .ok (.aaload, 1) := by decide +kernel
theorem dX11_remember_83 : decode cX11_remember 83 = .ok (.aload_n 0, 1) := by decide +kernel
theorem dX11_remember_84 : decode cX11_remember 84 = .ok (.getfield 47, 3) := by decide +kernel
theorem dX11_remember_87 : decode cX11_remember 87 = .ok (.invokevirtual 106, 3) := by decide +kernel
theorem dX11_remember_90 : decode cX11_remember 90 = .ok (.aload_n 0, 1) := by decide +kernel
theorem dX11_remember_91 : decode cX11_remember 91 = .ok (.dup, 1) := by decide +kernel
theorem dX11_remember_92 : decode cX11_remember 92 = .ok (.getfield 62, 3) := by decide +kernel
theorem dX11_remember_95 : decode cX11_remember 95 = .ok (.iconst 1, 1) := by decide +kernel
theorem dX11_remember_96 : decode cX11_remember 96 = .ok (.iadd, 1) := by decide +kernel
theorem dX11_remember_97 : decode cX11_remember 97 = .ok (.putfield 62, 3) := by decide +kernel
theorem dX11_remember_100 : decode cX11_remember 100 = .ok (.return_, 1) := by decide +kernel
theorem dX11_beginPlay_0 : decode cX11_beginPlay 0 = .ok (.aload_n 0, 1) := by decide +kernel
theorem dX11_beginPlay_1 : decode cX11_beginPlay 1 = .ok (.getfield 65, 3) := by decide +kernel
theorem dX11_beginPlay_4 : decode cX11_beginPlay 4 = .ok (.aload_n 0, 1) := by decide +kernel
theorem dX11_beginPlay_5 : decode cX11_beginPlay 5 = .ok (.getfield 47, 3) := by decide +kernel
theorem dX11_beginPlay_8 : decode cX11_beginPlay 8 = .ok (.invokevirtual 106, 3) := by decide +kernel
theorem dX11_beginPlay_11 : decode cX11_beginPlay 11 = .ok (.aload_n 0, 1) := by decide +kernel
theorem dX11_beginPlay_12 : decode cX11_beginPlay 12 = .ok (.getfield 68, 3) := by decide +kernel
theorem dX11_beginPlay_15 : decode cX11_beginPlay 15 = .ok (.iconst 0, 1) := by decide +kernel
theorem dX11_beginPlay_16 : decode cX11_beginPlay 16 = .ok (.invokestatic 403, 3) := by decide +kernel
theorem dX11_beginPlay_19 : decode cX11_beginPlay 19 = .ok (.return_, 1) := by decide +kernel
theorem dX11_playHours_0 : decode cX11_playHours 0 = .ok (.aload_n 0, 1) := by decide +kernel
theorem dX11_playHours_1 : decode cX11_playHours 1 = .ok (.invokevirtual 294, 3) := by decide +kernel
theorem dX11_playHours_4 : decode cX11_playHours 4 = .ok (.iconst 0, 1) := by decide +kernel
theorem dX11_playHours_5 : decode cX11_playHours 5 = .ok (.istore_n 2, 1) := by decide +kernel
theorem dX11_playHours_6 : decode cX11_playHours 6 = .ok (.iload_n 2, 1) := by decide +kernel
theorem dX11_playHours_7 : decode cX11_playHours 7 = .ok (.iload_n 1, 1) := by decide +kernel
theorem dX11_playHours_8 : decode cX11_playHours 8 = .ok (.if_icmp .ge 26, 3) := by decide +kernel
theorem dX11_playHours_11 : decode cX11_playHours 11 = .ok (.aload_n 0, 1) := by decide +kernel
theorem dX11_playHours_12 : decode cX11_playHours 12 = .ok (.getfield 65, 3) := by decide +kernel
theorem dX11_playHours_15 : decode cX11_playHours 15 = .ok (.aload_n 0, 1) := by decide +kernel
theorem dX11_playHours_16 : decode cX11_playHours 16 = .ok (.getfield 37, 3) := by decide +kernel
theorem dX11_playHours_19 : decode cX11_playHours 19 = .ok (.iconst (-1), 1) := by decide +kernel
theorem dX11_playHours_20 : decode cX11_playHours 20 = .ok (.aload_n 0, 1) := by decide +kernel
theorem dX11_playHours_21 : decode cX11_playHours 21 = .ok (.getfield 68, 3) := by decide +kernel
theorem dX11_playHours_24 : decode cX11_playHours 24 = .ok (.invokevirtual 261, 3) := by decide +kernel
theorem dX11_playHours_27 : decode cX11_playHours 27 = .ok (.pop, 1) := by decide +kernel
theorem dX11_playHours_28 : decode cX11_playHours 28 = .ok (.iinc 2 1, 3) := by decide +kernel
theorem dX11_playHours_31 : decode cX11_playHours 31 = .ok (.goto (-25), 3) := by decide +kernel
theorem dX11_playHours_34 : decode cX11_playHours 34 = .ok (.return_, 1) := by decide +kernel
theorem dX11_circleOf_0 : decode cX11_circleOf 0 = .ok (.aload_n 0, 1) := by decide +kernel
theorem dX11_circleOf_1 : decode cX11_circleOf 1 = .ok (.invokevirtual 294, 3) := by decide +kernel
theorem dX11_circleOf_4 : decode cX11_circleOf 4 = .ok (.aload_n 0, 1) := by decide +kernel
theorem dX11_circleOf_5 : decode cX11_circleOf 5 = .ok (.getfield 47, 3) := by decide +kernel
theorem dX11_circleOf_8 : decode cX11_circleOf 8 = .ok (.iload_n 1, 1) := by decide +kernel
theorem dX11_circleOf_9 : decode cX11_circleOf 9 = .ok (.invokevirtual 189, 3) := by decide +kernel
theorem dX11_circleOf_12 : decode cX11_circleOf 12 = .ok (.istore 4, 2) := by decide +kernel
theorem dX11_circleOf_14 : decode cX11_circleOf 14 = .ok (.iconst 0, 1) := by decide +kernel
theorem dX11_circleOf_15 : decode cX11_circleOf 15 = .ok (.istore 5, 2) := by decide +kernel
theorem dX11_circleOf_17 : decode cX11_circleOf 17 = .ok (.iload 5, 2) := by decide +kernel
theorem dX11_circleOf_19 : decode cX11_circleOf 19 = .ok (.iload_n 2, 1) := by decide +kernel
theorem dX11_circleOf_20 : decode cX11_circleOf 20 = .ok (.if_icmp .ge 70, 3) := by decide +kernel
theorem dX11_circleOf_23 : decode cX11_circleOf 23 = .ok (.aload_n 0, 1) := by decide +kernel
theorem dX11_circleOf_24 : decode cX11_circleOf 24 = .ok (.getfield 68, 3) := by decide +kernel
theorem dX11_circleOf_27 : decode cX11_circleOf 27 = .ok (.iload_n 1, 1) := by decide +kernel
theorem dX11_circleOf_28 : decode cX11_circleOf 28 = .ok (.iaload, 1) := by decide +kernel
theorem dX11_circleOf_29 : decode cX11_circleOf 29 = .ok (.iload 4, 2) := by decide +kernel
theorem dX11_circleOf_31 : decode cX11_circleOf 31 = .ok (.if_icmp .eq 59, 3) := by decide +kernel
theorem dX11_circleOf_34 : decode cX11_circleOf 34 = .ok (.iload 5, 2) := by decide +kernel
theorem dX11_circleOf_36 : decode cX11_circleOf 36 = .ok (.bipush 6, 2) := by decide +kernel
theorem dX11_circleOf_38 : decode cX11_circleOf 38 = .ok (.if_icmp .ge 17, 3) := by decide +kernel
theorem dX11_circleOf_41 : decode cX11_circleOf 41 = .ok (.iload_n 3, 1) := by decide +kernel
theorem dX11_circleOf_42 : decode cX11_circleOf 42 = .ok (.iload 5, 2) := by decide +kernel
theorem dX11_circleOf_44 : decode cX11_circleOf 44 = .ok (.ishr, 1) := by decide +kernel
theorem dX11_circleOf_45 : decode cX11_circleOf 45 = .ok (.iconst 1, 1) := by decide +kernel
theorem dX11_circleOf_46 : decode cX11_circleOf 46 = .ok (.iand, 1) := by decide +kernel
theorem dX11_circleOf_47 : decode cX11_circleOf 47 = .ok (.iconst 1, 1) := by decide +kernel
theorem dX11_circleOf_48 : decode cX11_circleOf 48 = .ok (.if_icmp .ne 7, 3) := by decide +kernel
theorem dX11_circleOf_51 : decode cX11_circleOf 51 = .ok (.iconst 1, 1) := by decide +kernel
theorem dX11_circleOf_52 : decode cX11_circleOf 52 = .ok (.goto 4, 3) := by decide +kernel
theorem dX11_circleOf_55 : decode cX11_circleOf 55 = .ok (.iconst 0, 1) := by decide +kernel
theorem dX11_circleOf_56 : decode cX11_circleOf 56 = .ok (.istore 6, 2) := by decide +kernel
theorem dX11_circleOf_58 : decode cX11_circleOf 58 = .ok (.aload_n 0, 1) := by decide +kernel
theorem dX11_circleOf_59 : decode cX11_circleOf 59 = .ok (.getfield 65, 3) := by decide +kernel
theorem dX11_circleOf_62 : decode cX11_circleOf 62 = .ok (.aload_n 0, 1) := by decide +kernel
theorem dX11_circleOf_63 : decode cX11_circleOf 63 = .ok (.getfield 37, 3) := by decide +kernel
theorem dX11_circleOf_66 : decode cX11_circleOf 66 = .ok (.iload 6, 2) := by decide +kernel
theorem dX11_circleOf_68 : decode cX11_circleOf 68 = .ok (.ifCond .eq 7, 3) := by decide +kernel
theorem dX11_circleOf_71 : decode cX11_circleOf 71 = .ok (.iload_n 1, 1) := by decide +kernel
theorem dX11_circleOf_72 : decode cX11_circleOf 72 = .ok (.goto 4, 3) := by decide +kernel
theorem dX11_circleOf_75 : decode cX11_circleOf 75 = .ok (.iconst (-1), 1) := by decide +kernel
theorem dX11_circleOf_76 : decode cX11_circleOf 76 = .ok (.aload_n 0, 1) := by decide +kernel
theorem dX11_circleOf_77 : decode cX11_circleOf 77 = .ok (.getfield 68, 3) := by decide +kernel
theorem dX11_circleOf_80 : decode cX11_circleOf 80 = .ok (.invokevirtual 261, 3) := by decide +kernel
theorem dX11_circleOf_83 : decode cX11_circleOf 83 = .ok (.pop, 1) := by decide +kernel
theorem dX11_circleOf_84 : decode cX11_circleOf 84 = .ok (.iinc 5 1, 3) := by decide +kernel
theorem dX11_circleOf_87 : decode cX11_circleOf 87 = .ok (.goto (-70), 3) := by decide +kernel
theorem dX11_circleOf_90 : decode cX11_circleOf 90 = .ok (.aload_n 0, 1) := by decide +kernel
theorem dX11_circleOf_91 : decode cX11_circleOf 91 = .ok (.getfield 68, 3) := by decide +kernel
theorem dX11_circleOf_94 : decode cX11_circleOf 94 = .ok (.iload_n 1, 1) := by decide +kernel
theorem dX11_circleOf_95 : decode cX11_circleOf 95 = .ok (.iaload, 1) := by decide +kernel
theorem dX11_circleOf_96 : decode cX11_circleOf 96 = .ok (.ireturn, 1) := by decide +kernel
theorem dX11_playDrawing_0 : decode cX11_playDrawing 0 = .ok (.aload_n 0, 1) := by decide +kernel
theorem dX11_playDrawing_1 : decode cX11_playDrawing 1 = .ok (.invokevirtual 294, 3) := by decide +kernel
theorem dX11_playDrawing_4 : decode cX11_playDrawing 4 = .ok (.aload_n 0, 1) := by decide +kernel
theorem dX11_playDrawing_5 : decode cX11_playDrawing 5 = .ok (.getfield 65, 3) := by decide +kernel
theorem dX11_playDrawing_8 : decode cX11_playDrawing 8 = .ok (.iload_n 2, 1) := by decide +kernel
theorem dX11_playDrawing_9 : decode cX11_playDrawing 9 = .ok (.putfield 285, 3) := by decide +kernel
theorem dX11_playDrawing_12 : decode cX11_playDrawing 12 = .ok (.iconst 0, 1) := by decide +kernel
theorem dX11_playDrawing_13 : decode cX11_playDrawing 13 = .ok (.istore_n 3, 1) := by decide +kernel
theorem dX11_playDrawing_14 : decode cX11_playDrawing 14 = .ok (.iconst 0, 1) := by decide +kernel
theorem dX11_playDrawing_15 : decode cX11_playDrawing 15 = .ok (.istore 4, 2) := by decide +kernel
theorem dX11_playDrawing_17 : decode cX11_playDrawing 17 = .ok (.iload 4, 2) := by decide +kernel
theorem dX11_playDrawing_19 : decode cX11_playDrawing 19 = .ok (.iload_n 1, 1) := by decide +kernel
theorem dX11_playDrawing_20 : decode cX11_playDrawing 20 = .ok (.if_icmp .ge 51, 3) := by decide +kernel
theorem dX11_playDrawing_23 : decode cX11_playDrawing 23 = .ok (.aload_n 0, 1) := by decide +kernel
theorem dX11_playDrawing_24 : decode cX11_playDrawing 24 = .ok (.getfield 65, 3) := by decide +kernel
theorem dX11_playDrawing_27 : decode cX11_playDrawing 27 = .ok (.aload_n 0, 1) := by decide +kernel
theorem dX11_playDrawing_28 : decode cX11_playDrawing 28 = .ok (.getfield 37, 3) := by decide +kernel
theorem dX11_playDrawing_31 : decode cX11_playDrawing 31 = .ok (.iconst (-1), 1) := by decide +kernel
theorem dX11_playDrawing_32 : decode cX11_playDrawing 32 = .ok (.aload_n 0, 1) := by decide +kernel
theorem dX11_playDrawing_33 : decode cX11_playDrawing 33 = .ok (.getfield 68, 3) := by decide +kernel
theorem dX11_playDrawing_36 : decode cX11_playDrawing 36 = .ok (.invokevirtual 261, 3) := by decide +kernel
theorem dX11_playDrawing_39 : decode cX11_playDrawing 39 = .ok (.pop, 1) := by decide +kernel
theorem dX11_playDrawing_40 : decode cX11_playDrawing 40 = .ok (.aload_n 0, 1) := by decide +kernel
theorem dX11_playDrawing_41 : decode cX11_playDrawing 41 = .ok (.getfield 65, 3) := by decide +kernel
theorem dX11_playDrawing_44 : decode cX11_playDrawing 44 = .ok (.invokevirtual 265, 3) := by decide +kernel
theorem dX11_playDrawing_47 : decode cX11_playDrawing 47 = .ok (.iload_n 3, 1) := by decide +kernel
theorem dX11_playDrawing_48 : decode cX11_playDrawing 48 = .ok (.aload_n 0, 1) := by decide +kernel
theorem dX11_playDrawing_49 : decode cX11_playDrawing 49 = .ok (.getfield 65, 3) := by decide +kernel
theorem dX11_playDrawing_52 : decode cX11_playDrawing 52 = .ok (.getfield 239, 3) := by decide +kernel
theorem dX11_playDrawing_55 : decode cX11_playDrawing 55 = .ok (.ifCond .eq 7, 3) := by decide +kernel
theorem dX11_playDrawing_58 : decode cX11_playDrawing 58 = .ok (.iconst 1, 1) := by decide +kernel
theorem dX11_playDrawing_59 : decode cX11_playDrawing 59 = .ok (.goto 4, 3) := by decide +kernel
theorem dX11_playDrawing_62 : decode cX11_playDrawing 62 = .ok (.iconst 0, 1) := by decide +kernel
theorem dX11_playDrawing_63 : decode cX11_playDrawing 63 = .ok (.iadd, 1) := by decide +kernel
theorem dX11_playDrawing_64 : decode cX11_playDrawing 64 = .ok (.istore_n 3, 1) := by decide +kernel
theorem dX11_playDrawing_65 : decode cX11_playDrawing 65 = .ok (.iinc 4 1, 3) := by decide +kernel
theorem dX11_playDrawing_68 : decode cX11_playDrawing 68 = .ok (.goto (-51), 3) := by decide +kernel
theorem dX11_playDrawing_71 : decode cX11_playDrawing 71 = .ok (.iload_n 3, 1) := by decide +kernel
theorem dX11_playDrawing_72 : decode cX11_playDrawing 72 = .ok (.ireturn, 1) := by decide +kernel
theorem dX11_bestPlace_0 : decode cX11_bestPlace 0 = .ok (.aload_n 0, 1) := by decide +kernel
theorem dX11_bestPlace_1 : decode cX11_bestPlace 1 = .ok (.getfield 47, 3) := by decide +kernel
theorem dX11_bestPlace_4 : decode cX11_bestPlace 4 = .ok (.getfield 210, 3) := by decide +kernel
theorem dX11_bestPlace_7 : decode cX11_bestPlace 7 = .ok (.iload_n 1, 1) := by decide +kernel
theorem dX11_bestPlace_8 : decode cX11_bestPlace 8 = .ok (.iaload, 1) := by decide +kernel
theorem dX11_bestPlace_9 : decode cX11_bestPlace 9 = .ok (.istore_n 2, 1) := by decide +kernel
theorem dX11_bestPlace_10 : decode cX11_bestPlace 10 = .ok (.iconst (-1), 1) := by decide +kernel
theorem dX11_bestPlace_11 : decode cX11_bestPlace 11 = .ok (.istore_n 3, 1) := by decide +kernel
theorem dX11_bestPlace_12 : decode cX11_bestPlace 12 = .ok (.aload_n 0, 1) := by decide +kernel
theorem dX11_bestPlace_13 : decode cX11_bestPlace 13 = .ok (.getfield 65, 3) := by decide +kernel
theorem dX11_bestPlace_16 : decode cX11_bestPlace 16 = .ok (.aload_n 0, 1) := by decide +kernel
theorem dX11_bestPlace_17 : decode cX11_bestPlace 17 = .ok (.getfield 47, 3) := by decide +kernel
theorem dX11_bestPlace_20 : decode cX11_bestPlace 20 = .ok (.invokevirtual 106, 3) := by decide +kernel
theorem dX11_bestPlace_23 : decode cX11_bestPlace 23 = .ok (.iconst 0, 1) := by decide +kernel
theorem dX11_bestPlace_24 : decode cX11_bestPlace 24 = .ok (.istore 4, 2) := by decide +kernel
theorem dX11_bestPlace_26 : decode cX11_bestPlace 26 = .ok (.iload 4, 2) := by decide +kernel
theorem dX11_bestPlace_28 : decode cX11_bestPlace 28 = .ok (.aload_n 0, 1) := by decide +kernel
theorem dX11_bestPlace_29 : decode cX11_bestPlace 29 = .ok (.getfield 47, 3) := by decide +kernel
theorem dX11_bestPlace_32 : decode cX11_bestPlace 32 = .ok (.getfield 230, 3) := by decide +kernel
theorem dX11_bestPlace_35 : decode cX11_bestPlace 35 = .ok (.if_icmp .ge 56, 3) := by decide +kernel
theorem dX11_bestPlace_38 : decode cX11_bestPlace 38 = .ok (.aload_n 0, 1) := by decide +kernel
theorem dX11_bestPlace_39 : decode cX11_bestPlace 39 = .ok (.getfield 47, 3) := by decide +kernel
theorem dX11_bestPlace_42 : decode cX11_bestPlace 42 = .ok (.getfield 176, 3) := by decide +kernel
theorem dX11_bestPlace_45 : decode cX11_bestPlace 45 = .ok (.ifCond .le 46, 3) := by decide +kernel
theorem dX11_bestPlace_48 : decode cX11_bestPlace 48 = .ok (.aload_n 0, 1) := by decide +kernel
theorem dX11_bestPlace_49 : decode cX11_bestPlace 49 = .ok (.getfield 65, 3) := by decide +kernel
theorem dX11_bestPlace_52 : decode cX11_bestPlace 52 = .ok (.getfield 210, 3) := by decide +kernel
theorem dX11_bestPlace_55 : decode cX11_bestPlace 55 = .ok (.iload_n 1, 1) := by decide +kernel
theorem dX11_bestPlace_56 : decode cX11_bestPlace 56 = .ok (.iload 4, 2) := by decide +kernel
theorem dX11_bestPlace_58 : decode cX11_bestPlace 58 = .ok (.iastore, 1) := by decide +kernel
theorem dX11_bestPlace_59 : decode cX11_bestPlace 59 = .ok (.aload_n 0, 1) := by decide +kernel
theorem dX11_bestPlace_60 : decode cX11_bestPlace 60 = .ok (.getfield 65, 3) := by decide +kernel
theorem dX11_bestPlace_63 : decode cX11_bestPlace 63 = .ok (.invokevirtual 409, 3) := by decide +kernel
theorem dX11_bestPlace_66 : decode cX11_bestPlace 66 = .ok (.istore 5, 2) := by decide +kernel
theorem dX11_bestPlace_68 : decode cX11_bestPlace 68 = .ok (.iload_n 3, 1) := by decide +kernel
theorem dX11_bestPlace_69 : decode cX11_bestPlace 69 = .ok (.iconst (-1), 1) := by decide +kernel
theorem dX11_bestPlace_70 : decode cX11_bestPlace 70 = .ok (.if_icmp .eq 9, 3) := by decide +kernel
theorem dX11_bestPlace_73 : decode cX11_bestPlace 73 = .ok (.iload 5, 2) := by decide +kernel
theorem dX11_bestPlace_75 : decode cX11_bestPlace 75 = .ok (.iload_n 3, 1) := by decide +kernel
theorem dX11_bestPlace_76 : decode cX11_bestPlace 76 = .ok (.if_icmp .ge 9, 3) := by decide +kernel
theorem dX11_bestPlace_79 : decode cX11_bestPlace 79 = .ok (.iload 5, 2) := by decide +kernel
theorem dX11_bestPlace_81 : decode cX11_bestPlace 81 = .ok (.istore_n 3, 1) := by decide +kernel
theorem dX11_bestPlace_82 : decode cX11_bestPlace 82 = .ok (.iload 4, 2) := by decide +kernel
theorem dX11_bestPlace_84 : decode cX11_bestPlace 84 = .ok (.istore_n 2, 1) := by decide +kernel
theorem dX11_bestPlace_85 : decode cX11_bestPlace 85 = .ok (.iinc 4 1, 3) := by decide +kernel
theorem dX11_bestPlace_88 : decode cX11_bestPlace 88 = .ok (.goto (-62), 3) := by decide +kernel
theorem dX11_bestPlace_91 : decode cX11_bestPlace 91 = .ok (.iload_n 2, 1) := by decide +kernel
theorem dX11_bestPlace_92 : decode cX11_bestPlace 92 = .ok (.ireturn, 1) := by decide +kernel
theorem dX11_readBacks_0 : decode cX11_readBacks 0 = .ok (.aload_n 0, 1) := by decide +kernel
theorem dX11_readBacks_1 : decode cX11_readBacks 1 = .ok (.getfield 74, 3) := by decide +kernel
theorem dX11_readBacks_4 : decode cX11_readBacks 4 = .ok (.aload_n 0, 1) := by decide +kernel
theorem dX11_readBacks_5 : decode cX11_readBacks 5 = .ok (.getfield 9, 3) := by decide +kernel
theorem dX11_readBacks_8 : decode cX11_readBacks 8 = .ok (.aload_n 0, 1) := by decide +kernel
theorem dX11_readBacks_9 : decode cX11_readBacks 9 = .ok (.invokevirtual 110, 3) := by decide +kernel
theorem dX11_readBacks_12 : decode cX11_readBacks 12 = .ok (.aload_n 0, 1) := by decide +kernel
theorem dX11_readBacks_13 : decode cX11_readBacks 13 = .ok (.getfield 47, 3) := by decide +kernel
theorem dX11_readBacks_16 : decode cX11_readBacks 16 = .ok (.getfield 176, 3) := by decide +kernel
theorem dX11_readBacks_19 : decode cX11_readBacks 19 = .ok (.invokevirtual 412, 3) := by decide +kernel
theorem dX11_readBacks_22 : decode cX11_readBacks 22 = .ok (.ifCond .ne 14, 3) := by decide +kernel
theorem dX11_readBacks_25 : decode cX11_readBacks 25 = .ok (.new 118, 3) := by decide +kernel
theorem dX11_readBacks_28 : decode cX11_readBacks 28 = .ok (.dup, 1) := by decide +kernel
theorem dX11_readBacks_29 : decode cX11_readBacks 29 = .ok (.ldc_w 416, 3) := by decide +kernel
theorem dX11_readBacks_32 : decode cX11_readBacks 32 = .ok (.invokespecial 122, 3) := by decide +kernel
theorem dX11_readBacks_35 : decode cX11_readBacks 35 = .ok (.athrow, 1) := by decide +kernel
theorem dX11_readBacks_36 : decode cX11_readBacks 36 = .ok (.return_, 1) := by decide +kernel
theorem dX11_readLengths_0 : decode cX11_readLengths 0 = .ok (.aload_n 0, 1) := by decide +kernel
theorem dX11_readLengths_1 : decode cX11_readLengths 1 = .ok (.getfield 81, 3) := by decide +kernel
theorem dX11_readLengths_4 : decode cX11_readLengths 4 = .ok (.aload_n 0, 1) := by decide +kernel
theorem dX11_readLengths_5 : decode cX11_readLengths 5 = .ok (.getfield 9, 3) := by decide +kernel
theorem dX11_readLengths_8 : decode cX11_readLengths 8 = .ok (.aload_n 0, 1) := by decide +kernel
theorem dX11_readLengths_9 : decode cX11_readLengths 9 = .ok (.invokevirtual 110, 3) := by decide +kernel
theorem dX11_readLengths_12 : decode cX11_readLengths 12 = .ok (.invokevirtual 418, 3) := by decide +kernel
theorem dX11_readLengths_15 : decode cX11_readLengths 15 = .ok (.ifCond .ne 14, 3) := by decide +kernel
theorem dX11_readLengths_18 : decode cX11_readLengths 18 = .ok (.new 118, 3) := by decide +kernel
theorem dX11_readLengths_21 : decode cX11_readLengths 21 = .ok (.dup, 1) := by decide +kernel
theorem dX11_readLengths_22 : decode cX11_readLengths 22 = .ok (.ldc_w 421, 3) := by decide +kernel
theorem dX11_readLengths_25 : decode cX11_readLengths 25 = .ok (.invokespecial 122, 3) := by decide +kernel
theorem dX11_readLengths_28 : decode cX11_readLengths 28 = .ok (.athrow, 1) := by decide +kernel
theorem dX11_readLengths_29 : decode cX11_readLengths 29 = .ok (.return_, 1) := by decide +kernel
theorem dX11_power_0 : decode cX11_power 0 = .ok (.lconst 1, 1) := by decide +kernel
theorem dX11_power_1 : decode cX11_power 1 = .ok (.lstore_n 2, 1) := by decide +kernel
theorem dX11_power_2 : decode cX11_power 2 = .ok (.iconst 0, 1) := by decide +kernel
theorem dX11_power_3 : decode cX11_power 3 = .ok (.istore 4, 2) := by decide +kernel
theorem dX11_power_5 : decode cX11_power 5 = .ok (.iload 4, 2) := by decide +kernel
theorem dX11_power_7 : decode cX11_power 7 = .ok (.iload_n 1, 1) := by decide +kernel
theorem dX11_power_8 : decode cX11_power 8 = .ok (.if_icmp .ge 14, 3) := by decide +kernel
theorem dX11_power_11 : decode cX11_power 11 = .ok (.lload_n 2, 1) := by decide +kernel
theorem dX11_power_12 : decode cX11_power 12 = .ok (.iload_n 0, 1) := by decide +kernel
theorem dX11_power_13 : decode cX11_power 13 = .ok (.i2l, 1) := by decide +kernel
theorem dX11_power_14 : decode cX11_power 14 = .ok (.lmul, 1) := by decide +kernel
theorem dX11_power_15 : decode cX11_power 15 = .ok (.lstore_n 2, 1) := by decide +kernel
theorem dX11_power_16 : decode cX11_power 16 = .ok (.iinc 4 1, 3) := by decide +kernel
theorem dX11_power_19 : decode cX11_power 19 = .ok (.goto (-14), 3) := by decide +kernel
theorem dX11_power_22 : decode cX11_power 22 = .ok (.lload_n 2, 1) := by decide +kernel
theorem dX11_power_23 : decode cX11_power 23 = .ok (.lreturn, 1) := by decide +kernel
theorem dX12_thrown_0 : decode cX12_thrown 0 = .ok (.aload_n 0, 1) := by decide +kernel
theorem dX12_thrown_1 : decode cX12_thrown 1 = .ok (.getfield 3, 3) := by decide +kernel
theorem dX12_thrown_4 : decode cX12_thrown 4 = .ok (.ireturn, 1) := by decide +kernel
theorem dX12_throwsIf_0 : decode cX12_throwsIf 0 = .ok (.iload_n 1, 1) := by decide +kernel
theorem dX12_throwsIf_1 : decode cX12_throwsIf 1 = .ok (.ifCond .eq 8, 3) := by decide +kernel
theorem dX12_throwsIf_4 : decode cX12_throwsIf 4 = .ok (.aload_n 0, 1) := by decide +kernel
theorem dX12_throwsIf_5 : decode cX12_throwsIf 5 = .ok (.iload_n 2, 1) := by decide +kernel
theorem dX12_throwsIf_6 : decode cX12_throwsIf 6 = .ok (.putfield 3, 3) := by decide +kernel
theorem dX12_throwsIf_9 : decode cX12_throwsIf 9 = .ok (.iload_n 1, 1) := by decide +kernel
theorem dX12_throwsIf_10 : decode cX12_throwsIf 10 = .ok (.ireturn, 1) := by decide +kernel
theorem dX12_in_0 : decode cX12_in 0 = .ok (.iload_n 0, 1) := by decide +kernel
theorem dX12_in_1 : decode cX12_in 1 = .ok (.iload_n 1, 1) := by decide +kernel
theorem dX12_in_2 : decode cX12_in 2 = .ok (.if_icmp .lt 12, 3) := by decide +kernel
theorem dX12_in_5 : decode cX12_in 5 = .ok (.iload_n 0, 1) := by decide +kernel
theorem dX12_in_6 : decode cX12_in 6 = .ok (.iload_n 2, 1) := by decide +kernel
theorem dX12_in_7 : decode cX12_in 7 = .ok (.if_icmp .gt 7, 3) := by decide +kernel
theorem dX12_in_10 : decode cX12_in 10 = .ok (.iconst 1, 1) := by decide +kernel
theorem dX12_in_11 : decode cX12_in 11 = .ok (.goto 4, 3) := by decide +kernel
theorem dX12_in_14 : decode cX12_in 14 = .ok (.iconst 0, 1) := by decide +kernel
theorem dX12_in_15 : decode cX12_in 15 = .ok (.ireturn, 1) := by decide +kernel
theorem dX12_has_0 : decode cX12_has 0 = .ok (.iload_n 0, 1) := by decide +kernel
theorem dX12_has_1 : decode cX12_has 1 = .ok (.iload_n 1, 1) := by decide +kernel
theorem dX12_has_2 : decode cX12_has 2 = .ok (.ishr, 1) := by decide +kernel
theorem dX12_has_3 : decode cX12_has 3 = .ok (.iconst 1, 1) := by decide +kernel
theorem dX12_has_4 : decode cX12_has 4 = .ok (.iand, 1) := by decide +kernel
theorem dX12_has_5 : decode cX12_has 5 = .ok (.iconst 1, 1) := by decide +kernel
theorem dX12_has_6 : decode cX12_has 6 = .ok (.if_icmp .ne 7, 3) := by decide +kernel
theorem dX12_has_9 : decode cX12_has 9 = .ok (.iconst 1, 1) := by decide +kernel
theorem dX12_has_10 : decode cX12_has 10 = .ok (.goto 4, 3) := by decide +kernel
theorem dX12_has_13 : decode cX12_has 13 = .ok (.iconst 0, 1) := by decide +kernel
theorem dX12_has_14 : decode cX12_has 14 = .ok (.ireturn, 1) := by decide +kernel
theorem dX12_init_0 : decode cX12_init 0 = .ok (.aload_n 0, 1) := by decide +kernel
theorem dX12_init_1 : decode cX12_init 1 = .ok (.invokespecial 7, 3) := by decide +kernel
theorem dX12_init_4 : decode cX12_init 4 = .ok (.aload_n 0, 1) := by decide +kernel
theorem dX12_init_5 : decode cX12_init 5 = .ok (.sipush 2006, 3) := by decide +kernel
theorem dX12_init_8 : decode cX12_init 8 = .ok (.newarray .int, 2) := by decide +kernel
theorem dX12_init_10 : decode cX12_init 10 = .ok (.putfield 13, 3) := by decide +kernel
theorem dX12_init_13 : decode cX12_init 13 = .ok (.aload_n 0, 1) := by decide +kernel
theorem dX12_init_14 : decode cX12_init 14 = .ok (.sipush 1157, 3) := by decide +kernel
theorem dX12_init_17 : decode cX12_init 17 = .ok (.newarray .int, 2) := by decide +kernel
theorem dX12_init_19 : decode cX12_init 19 = .ok (.putfield 17, 3) := by decide +kernel
theorem dX12_init_22 : decode cX12_init 22 = .ok (.aload_n 0, 1) := by decide +kernel
theorem dX12_init_23 : decode cX12_init 23 = .ok (.sipush 1157, 3) := by decide +kernel
theorem dX12_init_26 : decode cX12_init 26 = .ok (.newarray .int, 2) := by decide +kernel
theorem dX12_init_28 : decode cX12_init 28 = .ok (.putfield 20, 3) := by decide +kernel
theorem dX12_init_31 : decode cX12_init 31 = .ok (.aload_n 0, 1) := by decide +kernel
theorem dX12_init_32 : decode cX12_init 32 = .ok (.sipush 308, 3) := by decide +kernel
theorem dX12_init_35 : decode cX12_init 35 = .ok (.newarray .int, 2) := by decide +kernel
theorem dX12_init_37 : decode cX12_init 37 = .ok (.putfield 23, 3) := by decide +kernel
theorem dX12_init_40 : decode cX12_init 40 = .ok (.aload_n 0, 1) := by decide +kernel
theorem dX12_init_41 : decode cX12_init 41 = .ok (.sipush 3696, 3) := by decide +kernel
theorem dX12_init_44 : decode cX12_init 44 = .ok (.newarray .int, 2) := by decide +kernel
theorem dX12_init_46 : decode cX12_init 46 = .ok (.putfield 26, 3) := by decide +kernel
theorem dX12_init_49 : decode cX12_init 49 = .ok (.aload_n 0, 1) := by decide +kernel
theorem dX12_init_50 : decode cX12_init 50 = .ok (.sipush 400, 3) := by decide +kernel
theorem dX12_init_53 : decode cX12_init 53 = .ok (.newarray .byte, 2) := by decide +kernel
theorem dX12_init_55 : decode cX12_init 55 = .ok (.putfield 29, 3) := by decide +kernel
theorem dX12_init_58 : decode cX12_init 58 = .ok (.aload_n 0, 1) := by decide +kernel
theorem dX12_init_59 : decode cX12_init 59 = .ok (.iconst (-1), 1) := by decide +kernel
theorem dX12_init_60 : decode cX12_init 60 = .ok (.putfield 33, 3) := by decide +kernel
theorem dX12_init_63 : decode cX12_init 63 = .ok (.aload_n 0, 1) := by decide +kernel
theorem dX12_init_64 : decode cX12_init 64 = .ok (.iconst 5, 1) := by decide +kernel
theorem dX12_init_65 : decode cX12_init 65 = .ok (.newarray .int, 2) := by decide +kernel
theorem dX12_init_67 : decode cX12_init 67 = .ok (.putfield 36, 3) := by decide +kernel
theorem dX12_init_70 : decode cX12_init 70 = .ok (.aload_n 0, 1) := by decide +kernel
theorem dX12_init_71 : decode cX12_init 71 = .ok (.sipush 400, 3) := by decide +kernel
theorem dX12_init_74 : decode cX12_init 74 = .ok (.newarray .int, 2) := by decide +kernel
theorem dX12_init_76 : decode cX12_init 76 = .ok (.putfield 39, 3) := by decide +kernel
theorem dX12_init_79 : decode cX12_init 79 = .ok (.aload_n 0, 1) := by decide +kernel
theorem dX12_init_80 : decode cX12_init 80 = .ok (.bipush 7, 2) := by decide +kernel
theorem dX12_init_82 : decode cX12_init 82 = .ok (.newarray .int, 2) := by decide +kernel
theorem dX12_init_84 : decode cX12_init 84 = .ok (.putfield 42, 3) := by decide +kernel
theorem dX12_init_87 : decode cX12_init 87 = .ok (.aload_n 0, 1) := by decide +kernel
theorem dX12_init_88 : decode cX12_init 88 = .ok (.iconst (-1), 1) := by decide +kernel
theorem dX12_init_89 : decode cX12_init 89 = .ok (.putfield 45, 3) := by decide +kernel
theorem dX12_init_92 : decode cX12_init 92 = .ok (.aload_n 0, 1) := by decide +kernel
theorem dX12_init_93 : decode cX12_init 93 = .ok (.bipush 7, 2) := by decide +kernel
theorem dX12_init_95 : decode cX12_init 95 = .ok (.newarray .int, 2) := by decide +kernel
theorem dX12_init_97 : decode cX12_init 97 = .ok (.putfield 48, 3) := by decide +kernel
theorem dX12_init_100 : decode cX12_init 100 = .ok (.aload_n 0, 1) := by decide +kernel
theorem dX12_init_101 : decode cX12_init 101 = .ok (.sipush 128, 3) := by decide +kernel
theorem dX12_init_104 : decode cX12_init 104 = .ok (.newarray .int, 2) := by decide +kernel
theorem dX12_init_106 : decode cX12_init 106 = .ok (.putfield 51, 3) := by decide +kernel
theorem dX12_init_109 : decode cX12_init 109 = .ok (.aload_n 0, 1) := by decide +kernel
theorem dX12_init_110 : decode cX12_init 110 = .ok (.sipush 2048, 3) := by decide +kernel
theorem dX12_init_113 : decode cX12_init 113 = .ok (.newarray .int, 2) := by decide +kernel
theorem dX12_init_115 : decode cX12_init 115 = .ok (.putfield 54, 3) := by decide +kernel
theorem dX12_init_118 : decode cX12_init 118 = .ok (.aload_n 0, 1) := by decide +kernel
theorem dX12_init_119 : decode cX12_init 119 = .ok (.bipush 7, 2) := by decide +kernel
theorem dX12_init_121 : decode cX12_init 121 = .ok (.newarray .int, 2) := by decide +kernel
theorem dX12_init_123 : decode cX12_init 123 = .ok (.putfield 57, 3) := by decide +kernel
theorem dX12_init_126 : decode cX12_init 126 = .ok (.aload_n 0, 1) := by decide +kernel
theorem dX12_init_127 : decode cX12_init 127 = .ok (.sipush 2688, 3) := by decide +kernel
theorem dX12_init_130 : decode cX12_init 130 = .ok (.newarray .int, 2) := by decide +kernel
theorem dX12_init_132 : decode cX12_init 132 = .ok (.putfield 60, 3) := by decide +kernel
theorem dX12_init_135 : decode cX12_init 135 = .ok (.aload_n 0, 1) := by decide +kernel
theorem dX12_init_136 : decode cX12_init 136 = .ok (.sipush 128, 3) := by decide +kernel
theorem dX12_init_139 : decode cX12_init 139 = .ok (.newarray .int, 2) := by decide +kernel
theorem dX12_init_141 : decode cX12_init 141 = .ok (.putfield 63, 3) := by decide +kernel
theorem dX12_init_144 : decode cX12_init 144 = .ok (.aload_n 0, 1) := by decide +kernel
theorem dX12_init_145 : decode cX12_init 145 = .ok (.bipush 6, 2) := by decide +kernel
theorem dX12_init_147 : decode cX12_init 147 = .ok (.newarray .long, 2) := by decide +kernel
theorem dX12_init_149 : decode cX12_init 149 = .ok (.putfield 66, 3) := by decide +kernel
theorem dX12_init_152 : decode cX12_init 152 = .ok (.aload_n 0, 1) := by decide +kernel
theorem dX12_init_153 : decode cX12_init 153 = .ok (.getfield 13, 3) := by decide +kernel
theorem dX12_init_156 : decode cX12_init 156 = .ok (.bipush 10, 2) := by decide +kernel
theorem dX12_init_158 : decode cX12_init 158 = .ok (.iconst 1, 1) := by decide +kernel
theorem dX12_init_159 : decode cX12_init 159 = .ok (.iastore, 1) := by decide +kernel
theorem dX12_init_160 : decode cX12_init 160 = .ok (.aload_n 0, 1) := by decide +kernel
theorem dX12_init_161 : decode cX12_init 161 = .ok (.getfield 13, 3) := by decide +kernel
theorem dX12_init_164 : decode cX12_init 164 = .ok (.iconst 4, 1) := by decide +kernel
theorem dX12_init_165 : decode cX12_init 165 = .ok (.bipush 100, 2) := by decide +kernel
theorem dX12_init_167 : decode cX12_init 167 = .ok (.iastore, 1) := by decide +kernel
theorem dX12_init_168 : decode cX12_init 168 = .ok (.return_, 1) := by decide +kernel
theorem dX12_image_0 : decode cX12_image 0 = .ok (.aload_n 0, 1) := by decide +kernel
theorem dX12_image_1 : decode cX12_image 1 = .ok (.iconst 0, 1) := by decide +kernel
theorem dX12_image_2 : decode cX12_image 2 = .ok (.putfield 3, 3) := by decide +kernel
theorem dX12_image_5 : decode cX12_image 5 = .ok (.iconst 0, 1) := by decide +kernel
theorem dX12_image_6 : decode cX12_image 6 = .ok (.istore_n 1, 1) := by decide +kernel
theorem dX12_image_7 : decode cX12_image 7 = .ok (.iload_n 1, 1) := by decide +kernel
theorem dX12_image_8 : decode cX12_image 8 = .ok (.sipush 1157, 3) := by decide +kernel
theorem dX12_image_11 : decode cX12_image 11 = .ok (.if_icmp .ge 21, 3) := by decide +kernel
theorem dX12_image_14 : decode cX12_image 14 = .ok (.aload_n 0, 1) := by decide +kernel
theorem dX12_image_15 : decode cX12_image 15 = .ok (.getfield 17, 3) := by decide +kernel
theorem dX12_image_18 : decode cX12_image 18 = .ok (.iload_n 1, 1) := by decide +kernel
theorem dX12_image_19 : decode cX12_image 19 = .ok (.aload_n 0, 1) := by decide +kernel
theorem dX12_image_20 : decode cX12_image 20 = .ok (.getfield 13, 3) := by decide +kernel
theorem dX12_image_23 : decode cX12_image 23 = .ok (.iload_n 1, 1) := by decide +kernel
theorem dX12_image_24 : decode cX12_image 24 = .ok (.iaload, 1) := by decide +kernel
theorem dX12_image_25 : decode cX12_image 25 = .ok (.iastore, 1) := by decide +kernel
theorem dX12_image_26 : decode cX12_image 26 = .ok (.iinc 1 1, 3) := by decide +kernel
theorem dX12_image_29 : decode cX12_image 29 = .ok (.goto (-22), 3) := by decide +kernel
theorem dX12_image_32 : decode cX12_image 32 = .ok (.aload_n 0, 1) := by decide +kernel
theorem dX12_image_33 : decode cX12_image 33 = .ok (.iconst 1, 1) := by decide +kernel
theorem dX12_image_34 : decode cX12_image 34 = .ok (.putfield 70, 3) := by decide +kernel
theorem dX12_image_37 : decode cX12_image 37 = .ok (.return_, 1) := by decide +kernel
theorem dX12_back_0 : decode cX12_back 0 = .ok (.aload_n 0, 1) := by decide +kernel
theorem dX12_back_1 : decode cX12_back 1 = .ok (.iconst 0, 1) := by decide +kernel
theorem dX12_back_2 : decode cX12_back 2 = .ok (.putfield 3, 3) := by decide +kernel
theorem dX12_back_5 : decode cX12_back 5 = .ok (.aload_n 0, 1) := by decide +kernel
theorem dX12_back_6 : decode cX12_back 6 = .ok (.getfield 70, 3) := by decide +kernel
theorem dX12_back_9 : decode cX12_back 9 = .ok (.ifCond .ne 5, 3) := by decide +kernel
theorem dX12_back_12 : decode cX12_back 12 = .ok (.iconst 0, 1) := by decide +kernel
theorem dX12_back_13 : decode cX12_back 13 = .ok (.ireturn, 1) := by decide +kernel
theorem dX12_back_14 : decode cX12_back 14 = .ok (.iconst 0, 1) := by decide +kernel
theorem dX12_back_15 : decode cX12_back 15 = .ok (.istore_n 1, 1) := by decide +kernel
theorem dX12_back_16 : decode cX12_back 16 = .ok (.iload_n 1, 1) := by decide +kernel
theorem dX12_back_17 : decode cX12_back 17 = .ok (.sipush 1157, 3) := by decide +kernel
theorem dX12_back_20 : decode cX12_back 20 = .ok (.if_icmp .ge 21, 3) := by decide +kernel
theorem dX12_back_23 : decode cX12_back 23 = .ok (.aload_n 0, 1) := by decide +kernel
theorem dX12_back_24 : decode cX12_back 24 = .ok (.getfield 13, 3) := by decide +kernel
theorem dX12_back_27 : decode cX12_back 27 = .ok (.iload_n 1, 1) := by decide +kernel
theorem dX12_back_28 : decode cX12_back 28 = .ok (.aload_n 0, 1) := by decide +kernel
theorem dX12_back_29 : decode cX12_back 29 = .ok (.getfield 17, 3) := by decide +kernel
theorem dX12_back_32 : decode cX12_back 32 = .ok (.iload_n 1, 1) := by decide +kernel
theorem dX12_back_33 : decode cX12_back 33 = .ok (.iaload, 1) := by decide +kernel
theorem dX12_back_34 : decode cX12_back 34 = .ok (.iastore, 1) := by decide +kernel
theorem dX12_back_35 : decode cX12_back 35 = .ok (.iinc 1 1, 3) := by decide +kernel
theorem dX12_back_38 : decode cX12_back 38 = .ok (.goto (-22), 3) := by decide +kernel
theorem dX12_back_41 : decode cX12_back 41 = .ok (.aload_n 0, 1) := by decide +kernel
theorem dX12_back_42 : decode cX12_back 42 = .ok (.iconst 0, 1) := by decide +kernel
theorem dX12_back_43 : decode cX12_back 43 = .ok (.putfield 74, 3) := by decide +kernel
theorem dX12_back_46 : decode cX12_back 46 = .ok (.iconst 1, 1) := by decide +kernel
theorem dX12_back_47 : decode cX12_back 47 = .ok (.ireturn, 1) := by decide +kernel
theorem dX12_remembers_0 : decode cX12_remembers 0 = .ok (.aload_n 0, 1) := by decide +kernel
theorem dX12_remembers_1 : decode cX12_remembers 1 = .ok (.getfield 74, 3) := by decide +kernel
theorem dX12_remembers_4 : decode cX12_remembers 4 = .ok (.bipush 12, 2) := by decide +kernel
theorem dX12_remembers_6 : decode cX12_remembers 6 = .ok (.if_icmp .ne 37, 3) := by decide +kernel
theorem dX12_remembers_9 : decode cX12_remembers 9 = .ok (.iconst 0, 1) := by decide +kernel
theorem dX12_remembers_10 : decode cX12_remembers 10 = .ok (.istore_n 1, 1) := by decide +kernel
theorem dX12_remembers_11 : decode cX12_remembers 11 = .ok (.iload_n 1, 1) := by decide +kernel
theorem dX12_remembers_12 : decode cX12_remembers 12 = .ok (.sipush 3388, 3) := by decide +kernel
theorem dX12_remembers_15 : decode cX12_remembers 15 = .ok (.if_icmp .ge 25, 3) := by decide +kernel
theorem dX12_remembers_18 : decode cX12_remembers 18 = .ok (.aload_n 0, 1) := by decide +kernel
theorem dX12_remembers_19 : decode cX12_remembers 19 = .ok (.getfield 26, 3) := by decide +kernel
theorem dX12_remembers_22 : decode cX12_remembers 22 = .ok (.iload_n 1, 1) := by decide +kernel
theorem dX12_remembers_23 : decode cX12_remembers 23 = .ok (.aload_n 0, 1) := by decide +kernel
theorem dX12_remembers_24 : decode cX12_remembers 24 = .ok (.getfield 26, 3) := by decide +kernel
theorem dX12_remembers_27 : decode cX12_remembers 27 = .ok (.iload_n 1, 1) := by decide +kernel
theorem dX12_remembers_28 : decode cX12_remembers 28 = .ok (.sipush 308, 3) := by decide +kernel
theorem dX12_remembers_31 : decode cX12_remembers 31 = .ok (.iadd, 1) := by decide +kernel
theorem dX12_remembers_32 : decode cX12_remembers 32 = .ok (.iaload, 1) := by decide +kernel
theorem dX12_remembers_33 : decode cX12_remembers 33 = .ok (.iastore, 1) := by decide +kernel
theorem dX12_remembers_34 : decode cX12_remembers 34 = .ok (.iinc 1 1, 3) := by decide +kernel
theorem dX12_remembers_37 : decode cX12_remembers 37 = .ok (.goto (-26), 3) := by decide +kernel
theorem dX12_remembers_40 : decode cX12_remembers 40 = .ok (.goto 13, 3) := by decide +kernel
theorem dX12_remembers_43 : decode cX12_remembers 43 = .ok (.aload_n 0, 1) := by decide +kernel
theorem dX12_remembers_44 : decode cX12_remembers 44 = .ok (.dup, 1) := by decide +kernel
theorem dX12_remembers_45 : decode cX12_remembers 45 = .ok (.getfield 74, 3) := by decide +kernel
theorem dX12_remembers_48 : decode cX12_remembers 48 = .ok (.iconst 1, 1) := by decide +kernel
theorem dX12_remembers_49 : decode cX12_remembers 49 = .ok (.iadd, 1) := by decide +kernel
theorem dX12_remembers_50 : decode cX12_remembers 50 = .ok (.putfield 74, 3) := by decide +kernel
theorem dX12_remembers_53 : decode cX12_remembers 53 = .ok (.iconst 0, 1) := by decide +kernel
theorem dX12_remembers_54 : decode cX12_remembers 54 = .ok (.istore_n 1, 1) := by decide +kernel
theorem dX12_remembers_55 : decode cX12_remembers 55 = .ok (.iload_n 1, 1) := by decide +kernel
theorem dX12_remembers_56 : decode cX12_remembers 56 = .ok (.sipush 308, 3) := by decide +kernel
theorem dX12_remembers_59 : decode cX12_remembers 59 = .ok (.if_icmp .ge 32, 3) := by decide +kernel
theorem dX12_remembers_62 : decode cX12_remembers 62 = .ok (.aload_n 0, 1) := by decide +kernel
theorem dX12_remembers_63 : decode cX12_remembers 63 = .ok (.getfield 26, 3) := by decide +kernel
theorem dX12_remembers_66 : decode cX12_remembers 66 = .ok (.sipush 308, 3) := by decide +kernel
theorem dX12_remembers_69 : decode cX12_remembers 69 = .ok (.aload_n 0, 1) := by decide +kernel
theorem dX12_remembers_70 : decode cX12_remembers 70 = .ok (.getfield 74, 3) := by decide +kernel
theorem dX12_remembers_73 : decode cX12_remembers 73 = .ok (.iconst 1, 1) := by decide +kernel
theorem dX12_remembers_74 : decode cX12_remembers 74 = .ok (.isub, 1) := by decide +kernel
theorem dX12_remembers_75 : decode cX12_remembers 75 = .ok (.imul, 1) := by decide +kernel
theorem dX12_remembers_76 : decode cX12_remembers 76 = .ok (.iload_n 1, 1) := by decide +kernel
theorem dX12_remembers_77 : decode cX12_remembers 77 = .ok (.iadd, 1) := by decide +kernel
theorem dX12_remembers_78 : decode cX12_remembers 78 = .ok (.aload_n 0, 1) := by decide +kernel
theorem dX12_remembers_79 : decode cX12_remembers 79 = .ok (.getfield 13, 3) := by decide +kernel
theorem dX12_remembers_82 : decode cX12_remembers 82 = .ok (.iload_n 1, 1) := by decide +kernel
theorem dX12_remembers_83 : decode cX12_remembers 83 = .ok (.iaload, 1) := by decide +kernel
theorem dX12_remembers_84 : decode cX12_remembers 84 = .ok (.iastore, 1) := by decide +kernel
theorem dX12_remembers_85 : decode cX12_remembers 85 = .ok (.iinc 1 1, 3) := by decide +kernel
theorem dX12_remembers_88 : decode cX12_remembers 88 = .ok (.goto (-33), 3) := by decide +kernel
theorem dX12_remembers_91 : decode cX12_remembers 91 = .ok (.return_, 1) := by decide +kernel
theorem dX12_undo_0 : decode cX12_undo 0 = .ok (.aload_n 0, 1) := by decide +kernel
theorem dX12_undo_1 : decode cX12_undo 1 = .ok (.iconst 0, 1) := by decide +kernel
theorem dX12_undo_2 : decode cX12_undo 2 = .ok (.putfield 3, 3) := by decide +kernel
theorem dX12_undo_5 : decode cX12_undo 5 = .ok (.aload_n 0, 1) := by decide +kernel
theorem dX12_undo_6 : decode cX12_undo 6 = .ok (.getfield 74, 3) := by decide +kernel
theorem dX12_undo_9 : decode cX12_undo 9 = .ok (.ifCond .ne 5, 3) := by decide +kernel
theorem dX12_undo_12 : decode cX12_undo 12 = .ok (.iconst 0, 1) := by decide +kernel
theorem dX12_undo_13 : decode cX12_undo 13 = .ok (.ireturn, 1) := by decide +kernel
theorem dX12_undo_14 : decode cX12_undo 14 = .ok (.aload_n 0, 1) := by decide +kernel
theorem dX12_undo_15 : decode cX12_undo 15 = .ok (.dup, 1) := by decide +kernel
theorem dX12_undo_16 : decode cX12_undo 16 = .ok (.getfield 74, 3) := by decide +kernel
theorem dX12_undo_19 : decode cX12_undo 19 = .ok (.iconst 1, 1) := by decide +kernel
theorem dX12_undo_20 : decode cX12_undo 20 = .ok (.isub, 1) := by decide +kernel
theorem dX12_undo_21 : decode cX12_undo 21 = .ok (.putfield 74, 3) := by decide +kernel
theorem dX12_undo_24 : decode cX12_undo 24 = .ok (.iconst 0, 1) := by decide +kernel
theorem dX12_undo_25 : decode cX12_undo 25 = .ok (.istore_n 1, 1) := by decide +kernel
theorem dX12_undo_26 : decode cX12_undo 26 = .ok (.iload_n 1, 1) := by decide +kernel
theorem dX12_undo_27 : decode cX12_undo 27 = .ok (.sipush 308, 3) := by decide +kernel
theorem dX12_undo_30 : decode cX12_undo 30 = .ok (.if_icmp .ge 30, 3) := by decide +kernel
theorem dX12_undo_33 : decode cX12_undo 33 = .ok (.aload_n 0, 1) := by decide +kernel
theorem dX12_undo_34 : decode cX12_undo 34 = .ok (.getfield 13, 3) := by decide +kernel
theorem dX12_undo_37 : decode cX12_undo 37 = .ok (.iload_n 1, 1) := by decide +kernel
theorem dX12_undo_38 : decode cX12_undo 38 = .ok (.aload_n 0, 1) := by decide +kernel
theorem dX12_undo_39 : decode cX12_undo 39 = .ok (.getfield 26, 3) := by decide +kernel
theorem dX12_undo_42 : decode cX12_undo 42 = .ok (.sipush 308, 3) := by decide +kernel
theorem dX12_undo_45 : decode cX12_undo 45 = .ok (.aload_n 0, 1) := by decide +kernel
theorem dX12_undo_46 : decode cX12_undo 46 = .ok (.getfield 74, 3) := by decide +kernel
theorem dX12_undo_49 : decode cX12_undo 49 = .ok (.imul, 1) := by decide +kernel
theorem dX12_undo_50 : decode cX12_undo 50 = .ok (.iload_n 1, 1) := by decide +kernel
theorem dX12_undo_51 : decode cX12_undo 51 = .ok (.iadd, 1) := by decide +kernel
theorem dX12_undo_52 : decode cX12_undo 52 = .ok (.iaload, 1) := by decide +kernel
theorem dX12_undo_53 : decode cX12_undo 53 = .ok (.iastore, 1) := by decide +kernel
theorem dX12_undo_54 : decode cX12_undo 54 = .ok (.iinc 1 1, 3) := by decide +kernel
theorem dX12_undo_57 : decode cX12_undo 57 = .ok (.goto (-31), 3) := by decide +kernel
theorem dX12_undo_60 : decode cX12_undo 60 = .ok (.iconst 1, 1) := by decide +kernel
theorem dX12_undo_61 : decode cX12_undo 61 = .ok (.ireturn, 1) := by decide +kernel
theorem dX12_keepsAll_0 : decode cX12_keepsAll 0 = .ok (.iconst 0, 1) := by decide +kernel
theorem dX12_keepsAll_1 : decode cX12_keepsAll 1 = .ok (.istore_n 1, 1) := by decide +kernel
theorem dX12_keepsAll_2 : decode cX12_keepsAll 2 = .ok (.iload_n 1, 1) := by decide +kernel
theorem dX12_keepsAll_3 : decode cX12_keepsAll 3 = .ok (.sipush 308, 3) := by decide +kernel
theorem dX12_keepsAll_6 : decode cX12_keepsAll 6 = .ok (.if_icmp .ge 21, 3) := by decide +kernel
theorem dX12_keepsAll_9 : decode cX12_keepsAll 9 = .ok (.aload_n 0, 1) := by decide +kernel
theorem dX12_keepsAll_10 : decode cX12_keepsAll 10 = .ok (.getfield 23, 3) := by decide +kernel
theorem dX12_keepsAll_13 : decode cX12_keepsAll 13 = .ok (.iload_n 1, 1) := by decide +kernel
theorem dX12_keepsAll_14 : decode cX12_keepsAll 14 = .ok (.aload_n 0, 1) := by decide +kernel
theorem dX12_keepsAll_15 : decode cX12_keepsAll 15 = .ok (.getfield 13, 3) := by decide +kernel
theorem dX12_keepsAll_18 : decode cX12_keepsAll 18 = .ok (.iload_n 1, 1) := by decide +kernel
theorem dX12_keepsAll_19 : decode cX12_keepsAll 19 = .ok (.iaload, 1) := by decide +kernel
theorem dX12_keepsAll_20 : decode cX12_keepsAll 20 = .ok (.iastore, 1) := by decide +kernel
theorem dX12_keepsAll_21 : decode cX12_keepsAll 21 = .ok (.iinc 1 1, 3) := by decide +kernel
theorem dX12_keepsAll_24 : decode cX12_keepsAll 24 = .ok (.goto (-22), 3) := by decide +kernel
theorem dX12_keepsAll_27 : decode cX12_keepsAll 27 = .ok (.return_, 1) := by decide +kernel
theorem dX12_bringsBack_0 : decode cX12_bringsBack 0 = .ok (.iconst 0, 1) := by decide +kernel
theorem dX12_bringsBack_1 : decode cX12_bringsBack 1 = .ok (.istore_n 1, 1) := by decide +kernel
theorem dX12_bringsBack_2 : decode cX12_bringsBack 2 = .ok (.iload_n 1, 1) := by decide +kernel
theorem dX12_bringsBack_3 : decode cX12_bringsBack 3 = .ok (.sipush 308, 3) := by decide +kernel
theorem dX12_bringsBack_6 : decode cX12_bringsBack 6 = .ok (.if_icmp .ge 21, 3) := by decide +kernel
theorem dX12_bringsBack_9 : decode cX12_bringsBack 9 = .ok (.aload_n 0, 1) := by decide +kernel
theorem dX12_bringsBack_10 : decode cX12_bringsBack 10 = .ok (.getfield 13, 3) := by decide +kernel
theorem dX12_bringsBack_13 : decode cX12_bringsBack 13 = .ok (.iload_n 1, 1) := by decide +kernel
theorem dX12_bringsBack_14 : decode cX12_bringsBack 14 = .ok (.aload_n 0, 1) := by decide +kernel
theorem dX12_bringsBack_15 : decode cX12_bringsBack 15 = .ok (.getfield 23, 3) := by decide +kernel
theorem dX12_bringsBack_18 : decode cX12_bringsBack 18 = .ok (.iload_n 1, 1) := by decide +kernel
theorem dX12_bringsBack_19 : decode cX12_bringsBack 19 = .ok (.iaload, 1) := by decide +kernel
theorem dX12_bringsBack_20 : decode cX12_bringsBack 20 = .ok (.iastore, 1) := by decide +kernel
theorem dX12_bringsBack_21 : decode cX12_bringsBack 21 = .ok (.iinc 1 1, 3) := by decide +kernel
theorem dX12_bringsBack_24 : decode cX12_bringsBack 24 = .ok (.goto (-22), 3) := by decide +kernel
theorem dX12_bringsBack_27 : decode cX12_bringsBack 27 = .ok (.return_, 1) := by decide +kernel
theorem dX12_walkers_0 : decode cX12_walkers 0 = .ok (.aload_n 0, 1) := by decide +kernel
theorem dX12_walkers_1 : decode cX12_walkers 1 = .ok (.getfield 13, 3) := by decide +kernel
theorem dX12_walkers_4 : decode cX12_walkers 4 = .ok (.iconst 0, 1) := by decide +kernel
theorem dX12_walkers_5 : decode cX12_walkers 5 = .ok (.iaload, 1) := by decide +kernel
theorem dX12_walkers_6 : decode cX12_walkers 6 = .ok (.ireturn, 1) := by decide +kernel
theorem dX12_shelters_0 : decode cX12_shelters 0 = .ok (.aload_n 0, 1) := by decide +kernel
theorem dX12_shelters_1 : decode cX12_shelters 1 = .ok (.getfield 13, 3) := by decide +kernel
theorem dX12_shelters_4 : decode cX12_shelters 4 = .ok (.iconst 1, 1) := by decide +kernel
theorem dX12_shelters_5 : decode cX12_shelters 5 = .ok (.iaload, 1) := by decide +kernel
theorem dX12_shelters_6 : decode cX12_shelters 6 = .ok (.ireturn, 1) := by decide +kernel
theorem dX12_yards_0 : decode cX12_yards 0 = .ok (.aload_n 0, 1) := by decide +kernel
theorem dX12_yards_1 : decode cX12_yards 1 = .ok (.getfield 13, 3) := by decide +kernel
theorem dX12_yards_4 : decode cX12_yards 4 = .ok (.iconst 4, 1) := by decide +kernel
theorem dX12_yards_5 : decode cX12_yards 5 = .ok (.iaload, 1) := by decide +kernel
theorem dX12_yards_6 : decode cX12_yards 6 = .ok (.ireturn, 1) := by decide +kernel
theorem dX12_at_0 : decode cX12_at 0 = .ok (.bipush 11, 2) := by decide +kernel
theorem dX12_at_2 : decode cX12_at 2 = .ok (.bipush 7, 2) := by decide +kernel
theorem dX12_at_4 : decode cX12_at 4 = .ok (.iload_n 0, 1) := by decide +kernel
theorem dX12_at_5 : decode cX12_at 5 = .ok (.imul, 1) := by decide +kernel
theorem dX12_at_6 : decode cX12_at 6 = .ok (.iadd, 1) := by decide +kernel
theorem dX12_at_7 : decode cX12_at 7 = .ok (.iload_n 1, 1) := by decide +kernel
theorem dX12_at_8 : decode cX12_at 8 = .ok (.iadd, 1) := by decide +kernel
theorem dX12_at_9 : decode cX12_at 9 = .ok (.ireturn, 1) := by decide +kernel
theorem dX12_of_0 : decode cX12_of 0 = .ok (.aload_n 0, 1) := by decide +kernel
theorem dX12_of_1 : decode cX12_of 1 = .ok (.getfield 13, 3) := by decide +kernel
theorem dX12_of_4 : decode cX12_of 4 = .ok (.iload_n 1, 1) := by decide +kernel
theorem dX12_of_5 : decode cX12_of 5 = .ok (.iload_n 2, 1) := by decide +kernel
theorem dX12_of_6 : decode cX12_of 6 = .ok (.invokestatic 77, 3) := by decide +kernel
theorem dX12_of_9 : decode cX12_of 9 = .ok (.iaload, 1) := by decide +kernel
theorem dX12_of_10 : decode cX12_of 10 = .ok (.ireturn, 1) := by decide +kernel
theorem dX12_shelterAt_0 : decode cX12_shelterAt 0 = .ok (.bipush 60, 2) := by decide +kernel
theorem dX12_shelterAt_2 : decode cX12_shelterAt 2 = .ok (.iconst 2, 1) := by decide +kernel
theorem dX12_shelterAt_3 : decode cX12_shelterAt 3 = .ok (.iload_n 0, 1) := by decide +kernel
theorem dX12_shelterAt_4 : decode cX12_shelterAt 4 = .ok (.imul, 1) := by decide +kernel
theorem dX12_shelterAt_5 : decode cX12_shelterAt 5 = .ok (.iadd, 1) := by decide +kernel
theorem dX12_shelterAt_6 : decode cX12_shelterAt 6 = .ok (.iload_n 1, 1) := by decide +kernel
theorem dX12_shelterAt_7 : decode cX12_shelterAt 7 = .ok (.iadd, 1) := by decide +kernel
theorem dX12_shelterAt_8 : decode cX12_shelterAt 8 = .ok (.ireturn, 1) := by decide +kernel
theorem dX12_ofShelter_0 : decode cX12_ofShelter 0 = .ok (.aload_n 0, 1) := by decide +kernel
theorem dX12_ofShelter_1 : decode cX12_ofShelter 1 = .ok (.getfield 13, 3) := by decide +kernel
theorem dX12_ofShelter_4 : decode cX12_ofShelter 4 = .ok (.iload_n 1, 1) := by decide +kernel
theorem dX12_ofShelter_5 : decode cX12_ofShelter 5 = .ok (.iload_n 2, 1) := by decide +kernel
theorem dX12_ofShelter_6 : decode cX12_ofShelter 6 = .ok (.invokestatic 81, 3) := by decide +kernel
theorem dX12_ofShelter_9 : decode cX12_ofShelter 9 = .ok (.iaload, 1) := by decide +kernel
theorem dX12_ofShelter_10 : decode cX12_ofShelter 10 = .ok (.ireturn, 1) := by decide +kernel
theorem dX12_gapOf_0 : decode cX12_gapOf 0 = .ok (.iload_n 2, 1) := by decide +kernel
theorem dX12_gapOf_1 : decode cX12_gapOf 1 = .ok (.iload_n 1, 1) := by decide +kernel
theorem dX12_gapOf_2 : decode cX12_gapOf 2 = .ok (.isub, 1) := by decide +kernel
theorem dX12_gapOf_3 : decode cX12_gapOf 3 = .ok (.aload_n 0, 1) := by decide +kernel
theorem dX12_gapOf_4 : decode cX12_gapOf 4 = .ok (.invokevirtual 84, 3) := by decide +kernel
theorem dX12_gapOf_7 : decode cX12_gapOf 7 = .ok (.iadd, 1) := by decide +kernel
theorem dX12_gapOf_8 : decode cX12_gapOf 8 = .ok (.aload_n 0, 1) := by decide +kernel
theorem dX12_gapOf_9 : decode cX12_gapOf 9 = .ok (.invokevirtual 84, 3) := by decide +kernel
theorem dX12_gapOf_12 : decode cX12_gapOf 12 = .ok (.irem, 1) := by decide +kernel
theorem dX12_gapOf_13 : decode cX12_gapOf 13 = .ok (.ireturn, 1) := by decide +kernel
theorem dX12_gapTo_0 : decode cX12_gapTo 0 = .ok (.aload_n 0, 1) := by decide +kernel
theorem dX12_gapTo_1 : decode cX12_gapTo 1 = .ok (.aload_n 0, 1) := by decide +kernel
theorem dX12_gapTo_2 : decode cX12_gapTo 2 = .ok (.iload_n 1, 1) := by decide +kernel
theorem dX12_gapTo_3 : decode cX12_gapTo 3 = .ok (.iconst 0, 1) := by decide +kernel
theorem dX12_gapTo_4 : decode cX12_gapTo 4 = .ok (.invokevirtual 88, 3) := by decide +kernel
theorem dX12_gapTo_7 : decode cX12_gapTo 7 = .ok (.aload_n 0, 1) := by decide +kernel
theorem dX12_gapTo_8 : decode cX12_gapTo 8 = .ok (.iload_n 2, 1) := by decide +kernel
theorem dX12_gapTo_9 : decode cX12_gapTo 9 = .ok (.iconst 0, 1) := by decide +kernel
theorem dX12_gapTo_10 : decode cX12_gapTo 10 = .ok (.invokevirtual 88, 3) := by decide +kernel
theorem dX12_gapTo_13 : decode cX12_gapTo 13 = .ok (.invokevirtual 91, 3) := by decide +kernel
theorem dX12_gapTo_16 : decode cX12_gapTo 16 = .ok (.ireturn, 1) := by decide +kernel
theorem dX12_noWalker_0 : decode cX12_noWalker 0 = .ok (.iload_n 1, 1) := by decide +kernel
theorem dX12_noWalker_1 : decode cX12_noWalker 1 = .ok (.iconst 0, 1) := by decide +kernel
theorem dX12_noWalker_2 : decode cX12_noWalker 2 = .ok (.aload_n 0, 1) := by decide +kernel
theorem dX12_noWalker_3 : decode cX12_noWalker 3 = .ok (.invokevirtual 94, 3) := by decide +kernel
theorem dX12_noWalker_6 : decode cX12_noWalker 6 = .ok (.iconst 1, 1) := by decide +kernel
theorem dX12_noWalker_7 : decode cX12_noWalker 7 = .ok (.isub, 1) := by decide +kernel
theorem dX12_noWalker_8 : decode cX12_noWalker 8 = .ok (.invokestatic 97, 3) := by decide +kernel
theorem dX12_noWalker_11 : decode cX12_noWalker 11 = .ok (.ifCond .ne 7, 3) := by decide +kernel
theorem dX12_noWalker_14 : decode cX12_noWalker 14 = .ok (.iconst 1, 1) := by decide +kernel
theorem dX12_noWalker_15 : decode cX12_noWalker 15 = .ok (.goto 4, 3) := by decide +kernel
theorem dX12_noWalker_18 : decode cX12_noWalker 18 = .ok (.iconst 0, 1) := by decide +kernel
theorem dX12_noWalker_19 : decode cX12_noWalker 19 = .ok (.ireturn, 1) := by decide +kernel
theorem dX12_noShelter_0 : decode cX12_noShelter 0 = .ok (.iload_n 1, 1) := by decide +kernel
theorem dX12_noShelter_1 : decode cX12_noShelter 1 = .ok (.iconst 0, 1) := by decide +kernel
theorem dX12_noShelter_2 : decode cX12_noShelter 2 = .ok (.aload_n 0, 1) := by decide +kernel
theorem dX12_noShelter_3 : decode cX12_noShelter 3 = .ok (.invokevirtual 101, 3) := by decide +kernel
theorem dX12_noShelter_6 : decode cX12_noShelter 6 = .ok (.iconst 1, 1) := by decide +kernel
theorem dX12_noShelter_7 : decode cX12_noShelter 7 = .ok (.isub, 1) := by decide +kernel
theorem dX12_noShelter_8 : decode cX12_noShelter 8 = .ok (.invokestatic 97, 3) := by decide +kernel
theorem dX12_noShelter_11 : decode cX12_noShelter 11 = .ok (.ifCond .ne 7, 3) := by decide +kernel
theorem dX12_noShelter_14 : decode cX12_noShelter 14 = .ok (.iconst 1, 1) := by decide +kernel
theorem dX12_noShelter_15 : decode cX12_noShelter 15 = .ok (.goto 4, 3) := by decide +kernel
theorem dX12_noShelter_18 : decode cX12_noShelter 18 = .ok (.iconst 0, 1) := by decide +kernel
theorem dX12_noShelter_19 : decode cX12_noShelter 19 = .ok (.ireturn, 1) := by decide +kernel
theorem dX12_noPlace_0 : decode cX12_noPlace 0 = .ok (.iload_n 1, 1) := by decide +kernel
theorem dX12_noPlace_1 : decode cX12_noPlace 1 = .ok (.iconst 0, 1) := by decide +kernel
theorem dX12_noPlace_2 : decode cX12_noPlace 2 = .ok (.aload_n 0, 1) := by decide +kernel
theorem dX12_noPlace_3 : decode cX12_noPlace 3 = .ok (.invokevirtual 84, 3) := by decide +kernel
theorem dX12_noPlace_6 : decode cX12_noPlace 6 = .ok (.iconst 1, 1) := by decide +kernel
theorem dX12_noPlace_7 : decode cX12_noPlace 7 = .ok (.isub, 1) := by decide +kernel
theorem dX12_noPlace_8 : decode cX12_noPlace 8 = .ok (.invokestatic 97, 3) := by decide +kernel
theorem dX12_noPlace_11 : decode cX12_noPlace 11 = .ok (.ifCond .ne 7, 3) := by decide +kernel
theorem dX12_noPlace_14 : decode cX12_noPlace 14 = .ok (.iconst 1, 1) := by decide +kernel
theorem dX12_noPlace_15 : decode cX12_noPlace 15 = .ok (.goto 4, 3) := by decide +kernel
theorem dX12_noPlace_18 : decode cX12_noPlace 18 = .ok (.iconst 0, 1) := by decide +kernel
theorem dX12_noPlace_19 : decode cX12_noPlace 19 = .ok (.ireturn, 1) := by decide +kernel
theorem dX12_drawn_0 : decode cX12_drawn 0 = .ok (.aload_n 0, 1) := by decide +kernel
theorem dX12_drawn_1 : decode cX12_drawn 1 = .ok (.getfield 13, 3) := by decide +kernel
theorem dX12_drawn_4 : decode cX12_drawn 4 = .ok (.bipush 10, 2) := by decide +kernel
theorem dX12_drawn_6 : decode cX12_drawn 6 = .ok (.ldc 104, 2) := by decide +kernel
theorem dX12_drawn_8 : decode cX12_drawn 8 = .ok (.aload_n 0, 1) := by decide +kernel
theorem dX12_drawn_9 : decode cX12_drawn 9 = .ok (.getfield 13, 3) := by decide +kernel
theorem dX12_drawn_12 : decode cX12_drawn 12 = .ok (.bipush 10, 2) := by decide +kernel
theorem dX12_drawn_14 : decode cX12_drawn 14 = .ok (.iaload, 1) := by decide +kernel
theorem dX12_drawn_15 : decode cX12_drawn 15 = .ok (.imul, 1) := by decide +kernel
theorem dX12_drawn_16 : decode cX12_drawn 16 = .ok (.sipush 12345, 3) := by decide +kernel
theorem dX12_drawn_19 : decode cX12_drawn 19 = .ok (.iadd, 1) := by decide +kernel
theorem dX12_drawn_20 : decode cX12_drawn 20 = .ok (.iastore, 1) := by decide +kernel
theorem dX12_drawn_21 : decode cX12_drawn 21 = .ok (.aload_n 0, 1) := by decide +kernel
theorem dX12_drawn_22 : decode cX12_drawn 22 = .ok (.getfield 13, 3) := by decide +kernel
theorem dX12_drawn_25 : decode cX12_drawn 25 = .ok (.bipush 10, 2) := by decide +kernel
theorem dX12_drawn_27 : decode cX12_drawn 27 = .ok (.iaload, 1) := by decide +kernel
theorem dX12_drawn_28 : decode cX12_drawn 28 = .ok (.bipush 16, 2) := by decide +kernel
theorem dX12_drawn_30 : decode cX12_drawn 30 = .ok (.ishr, 1) := by decide +kernel
theorem dX12_drawn_31 : decode cX12_drawn 31 = .ok (.sipush 32767, 3) := by decide +kernel
theorem dX12_drawn_34 : decode cX12_drawn 34 = .ok (.iand, 1) := by decide +kernel
theorem dX12_drawn_35 : decode cX12_drawn 35 = .ok (.iload_n 1, 1) := by decide +kernel
theorem dX12_drawn_36 : decode cX12_drawn 36 = .ok (.irem, 1) := by decide +kernel
theorem dX12_drawn_37 : decode cX12_drawn 37 = .ok (.ireturn, 1) := by decide +kernel
theorem dX12_feed_0 : decode cX12_feed 0 = .ok (.aload_n 0, 1) := by decide +kernel
theorem dX12_feed_1 : decode cX12_feed 1 = .ok (.iconst 0, 1) := by decide +kernel
theorem dX12_feed_2 : decode cX12_feed 2 = .ok (.putfield 3, 3) := by decide +kernel
theorem dX12_feed_5 : decode cX12_feed 5 = .ok (.aload_n 0, 1) := by decide +kernel
theorem dX12_feed_6 : decode cX12_feed 6 = .ok (.getfield 105, 3) := by decide +kernel
theorem dX12_feed_9 : decode cX12_feed 9 = .ok (.bipush 20, 2) := by decide +kernel
theorem dX12_feed_11 : decode cX12_feed 11 = .ok (.iadd, 1) := by decide +kernel
theorem dX12_feed_12 : decode cX12_feed 12 = .ok (.sipush 400, 3) := by decide +kernel
theorem dX12_feed_15 : decode cX12_feed 15 = .ok (.if_icmp .le 5, 3) := by decide +kernel
theorem dX12_feed_18 : decode cX12_feed 18 = .ok (.iconst (-1), 1) := by decide +kernel
theorem dX12_feed_19 : decode cX12_feed 19 = .ok (.ireturn, 1) := by decide +kernel
theorem dX12_feed_20 : decode cX12_feed 20 = .ok (.aload_n 0, 1) := by decide +kernel
theorem dX12_feed_21 : decode cX12_feed 21 = .ok (.getfield 36, 3) := by decide +kernel
theorem dX12_feed_24 : decode cX12_feed 24 = .ok (.iconst 0, 1) := by decide +kernel
theorem dX12_feed_25 : decode cX12_feed 25 = .ok (.iload_n 1, 1) := by decide +kernel
theorem dX12_feed_26 : decode cX12_feed 26 = .ok (.iastore, 1) := by decide +kernel
theorem dX12_feed_27 : decode cX12_feed 27 = .ok (.aload_n 0, 1) := by decide +kernel
theorem dX12_feed_28 : decode cX12_feed 28 = .ok (.getfield 36, 3) := by decide +kernel
theorem dX12_feed_31 : decode cX12_feed 31 = .ok (.iconst 1, 1) := by decide +kernel
theorem dX12_feed_32 : decode cX12_feed 32 = .ok (.iload_n 2, 1) := by decide +kernel
theorem dX12_feed_33 : decode cX12_feed 33 = .ok (.iastore, 1) := by decide +kernel
theorem dX12_feed_34 : decode cX12_feed 34 = .ok (.aload_n 0, 1) := by decide +kernel
theorem dX12_feed_35 : decode cX12_feed 35 = .ok (.getfield 36, 3) := by decide +kernel
theorem dX12_feed_38 : decode cX12_feed 38 = .ok (.iconst 2, 1) := by decide +kernel
theorem dX12_feed_39 : decode cX12_feed 39 = .ok (.iload_n 3, 1) := by decide +kernel
theorem dX12_feed_40 : decode cX12_feed 40 = .ok (.iastore, 1) := by decide +kernel
theorem dX12_feed_41 : decode cX12_feed 41 = .ok (.aload_n 0, 1) := by decide +kernel
theorem dX12_feed_42 : decode cX12_feed 42 = .ok (.getfield 36, 3) := by decide +kernel
theorem dX12_feed_45 : decode cX12_feed 45 = .ok (.iconst 3, 1) := by decide +kernel
theorem dX12_feed_46 : decode cX12_feed 46 = .ok (.iload 4, 2) := by decide +kernel
theorem dX12_feed_48 : decode cX12_feed 48 = .ok (.iastore, 1) := by decide +kernel
theorem dX12_feed_49 : decode cX12_feed 49 = .ok (.aload_n 0, 1) := by decide +kernel
theorem dX12_feed_50 : decode cX12_feed 50 = .ok (.getfield 36, 3) := by decide +kernel
theorem dX12_feed_53 : decode cX12_feed 53 = .ok (.iconst 4, 1) := by decide +kernel
theorem dX12_feed_54 : decode cX12_feed 54 = .ok (.iload 5, 2) := by decide +kernel
theorem dX12_feed_56 : decode cX12_feed 56 = .ok (.iastore, 1) := by decide +kernel
theorem dX12_feed_57 : decode cX12_feed 57 = .ok (.iconst 0, 1) := by decide +kernel
theorem dX12_feed_58 : decode cX12_feed 58 = .ok (.istore 6, 2) := by decide +kernel
theorem dX12_feed_60 : decode cX12_feed 60 = .ok (.iload 6, 2) := by decide +kernel
theorem dX12_feed_62 : decode cX12_feed 62 = .ok (.bipush 20, 2) := by decide +kernel
theorem dX12_feed_64 : decode cX12_feed 64 = .ok (.if_icmp .ge 42, 3) := by decide +kernel
theorem dX12_feed_67 : decode cX12_feed 67 = .ok (.aload_n 0, 1) := by decide +kernel
theorem dX12_feed_68 : decode cX12_feed 68 = .ok (.getfield 29, 3) := by decide +kernel
theorem dX12_feed_71 : decode cX12_feed 71 = .ok (.aload_n 0, 1) := by decide +kernel
theorem dX12_feed_72 : decode cX12_feed 72 = .ok (.getfield 105, 3) := by decide +kernel
theorem dX12_feed_75 : decode cX12_feed 75 = .ok (.iload 6, 2) := by decide +kernel
theorem dX12_feed_77 : decode cX12_feed 77 = .ok (.iadd, 1) := by decide +kernel
theorem dX12_feed_78 : decode cX12_feed 78 = .ok (.aload_n 0, 1) := by decide +kernel
theorem dX12_feed_79 : decode cX12_feed 79 = .ok (.getfield 36, 3) := by decide +kernel
theorem dX12_feed_82 : decode cX12_feed 82 = .ok (.iload 6, 2) := by decide +kernel
theorem dX12_feed_84 : decode cX12_feed 84 = .ok (.iconst 4, 1) := by decide +kernel
theorem dX12_feed_85 : decode cX12_feed 85 = .ok (.idiv, 1) := by decide +kernel
theorem dX12_feed_86 : decode cX12_feed 86 = .ok (.iaload, 1) := by decide +kernel
theorem dX12_feed_87 : decode cX12_feed 87 = .ok (.bipush 24, 2) := by decide +kernel
theorem dX12_feed_89 : decode cX12_feed 89 = .ok (.bipush 8, 2) := by decide +kernel
theorem dX12_feed_91 : decode cX12_feed 91 = .ok (.iload 6, 2) := by decide +kernel
theorem dX12_feed_93 : decode cX12_feed 93 = .ok (.iconst 4, 1) := by decide +kernel
theorem dX12_feed_94 : decode cX12_feed 94 = .ok (.irem, 1) := by decide +kernel
theorem dX12_feed_95 : decode cX12_feed 95 = .ok (.imul, 1) := by decide +kernel
theorem dX12_feed_96 : decode cX12_feed 96 = .ok (.isub, 1) := by decide +kernel
theorem dX12_feed_97 : decode cX12_feed 97 = .ok (.ishr, 1) := by decide +kernel
theorem dX12_feed_98 : decode cX12_feed 98 = .ok (.i2b, 1) := by decide +kernel
theorem dX12_feed_99 : decode cX12_feed 99 = .ok (.bastore, 1) := by decide +kernel
theorem dX12_feed_100 : decode cX12_feed 100 = .ok (.iinc 6 1, 3) := by decide +kernel
theorem dX12_feed_103 : decode cX12_feed 103 = .ok (.goto (-43), 3) := by decide +kernel
theorem dX12_feed_106 : decode cX12_feed 106 = .ok (.aload_n 0, 1) := by decide +kernel
theorem dX12_feed_107 : decode cX12_feed 107 = .ok (.dup, 1) := by decide +kernel
theorem dX12_feed_108 : decode cX12_feed 108 = .ok (.getfield 105, 3) := by decide +kernel
theorem dX12_feed_111 : decode cX12_feed 111 = .ok (.bipush 20, 2) := by decide +kernel
theorem dX12_feed_113 : decode cX12_feed 113 = .ok (.iadd, 1) := by decide +kernel
theorem dX12_feed_114 : decode cX12_feed 114 = .ok (.putfield 105, 3) := by decide +kernel
theorem dX12_feed_117 : decode cX12_feed 117 = .ok (.aload_n 0, 1) := by decide +kernel
theorem dX12_feed_118 : decode cX12_feed 118 = .ok (.getfield 105, 3) := by decide +kernel
theorem dX12_feed_121 : decode cX12_feed 121 = .ok (.ireturn, 1) := by decide +kernel
theorem dX12_end_0 : decode cX12_end 0 = .ok (.aload_n 0, 1) := by decide +kernel
theorem dX12_end_1 : decode cX12_end 1 = .ok (.iconst 0, 1) := by decide +kernel
theorem dX12_end_2 : decode cX12_end 2 = .ok (.putfield 3, 3) := by decide +kernel
theorem dX12_end_5 : decode cX12_end 5 = .ok (.iload_n 1, 1) := by decide +kernel
theorem dX12_end_6 : decode cX12_end 6 = .ok (.ifCond .lt 11, 3) := by decide +kernel
theorem dX12_end_9 : decode cX12_end 9 = .ok (.iload_n 1, 1) := by decide +kernel
theorem dX12_end_10 : decode cX12_end 10 = .ok (.aload_n 0, 1) := by decide +kernel
theorem dX12_end_11 : decode cX12_end 11 = .ok (.getfield 105, 3) := by decide +kernel
theorem dX12_end_14 : decode cX12_end 14 = .ok (.if_icmp .le 5, 3) := by decide +kernel
theorem dX12_end_17 : decode cX12_end 17 = .ok (.iconst 0, 1) := by decide +kernel
theorem dX12_end_18 : decode cX12_end 18 = .ok (.ireturn, 1) := by decide +kernel
theorem dX12_end_19 : decode cX12_end 19 = .ok (.aload_n 0, 1) := by decide +kernel
theorem dX12_end_20 : decode cX12_end 20 = .ok (.iload_n 1, 1) := by decide +kernel
theorem dX12_end_21 : decode cX12_end 21 = .ok (.putfield 105, 3) := by decide +kernel
theorem dX12_end_24 : decode cX12_end 24 = .ok (.iconst 1, 1) := by decide +kernel
theorem dX12_end_25 : decode cX12_end 25 = .ok (.ireturn, 1) := by decide +kernel
theorem dX12_isAt_0 : decode cX12_isAt 0 = .ok (.aload_n 0, 1) := by decide +kernel
theorem dX12_isAt_1 : decode cX12_isAt 1 = .ok (.getfield 108, 3) := by decide +kernel
theorem dX12_isAt_4 : decode cX12_isAt 4 = .ok (.aload_n 0, 1) := by decide +kernel
theorem dX12_isAt_5 : decode cX12_isAt 5 = .ok (.getfield 111, 3) := by decide +kernel
theorem dX12_isAt_8 : decode cX12_isAt 8 = .ok (.if_icmp .ge 33, 3) := by decide +kernel
theorem dX12_isAt_11 : decode cX12_isAt 11 = .ok (.aload_n 0, 1) := by decide +kernel
theorem dX12_isAt_12 : decode cX12_isAt 12 = .ok (.getfield 29, 3) := by decide +kernel
theorem dX12_isAt_15 : decode cX12_isAt 15 = .ok (.aload_n 0, 1) := by decide +kernel
theorem dX12_isAt_16 : decode cX12_isAt 16 = .ok (.getfield 108, 3) := by decide +kernel
theorem dX12_isAt_19 : decode cX12_isAt 19 = .ok (.baload, 1) := by decide +kernel
theorem dX12_isAt_20 : decode cX12_isAt 20 = .ok (.iload_n 1, 1) := by decide +kernel
theorem dX12_isAt_21 : decode cX12_isAt 21 = .ok (.if_icmp .lt 20, 3) := by decide +kernel
theorem dX12_isAt_24 : decode cX12_isAt 24 = .ok (.aload_n 0, 1) := by decide +kernel
theorem dX12_isAt_25 : decode cX12_isAt 25 = .ok (.getfield 29, 3) := by decide +kernel
theorem dX12_isAt_28 : decode cX12_isAt 28 = .ok (.aload_n 0, 1) := by decide +kernel
theorem dX12_isAt_29 : decode cX12_isAt 29 = .ok (.getfield 108, 3) := by decide +kernel
theorem dX12_isAt_32 : decode cX12_isAt 32 = .ok (.baload, 1) := by decide +kernel
theorem dX12_isAt_33 : decode cX12_isAt 33 = .ok (.iload_n 2, 1) := by decide +kernel
theorem dX12_isAt_34 : decode cX12_isAt 34 = .ok (.if_icmp .gt 7, 3) := by decide +kernel
theorem dX12_isAt_37 : decode cX12_isAt 37 = .ok (.iconst 1, 1) := by decide +kernel
theorem dX12_isAt_38 : decode cX12_isAt 38 = .ok (.goto 4, 3) := by decide +kernel
theorem dX12_isAt_41 : decode cX12_isAt 41 = .ok (.iconst 0, 1) := by decide +kernel
theorem dX12_isAt_42 : decode cX12_isAt 42 = .ok (.ireturn, 1) := by decide +kernel
theorem dX12_blanks_0 : decode cX12_blanks 0 = .ok (.aload_n 0, 1) := by decide +kernel
theorem dX12_blanks_1 : decode cX12_blanks 1 = .ok (.bipush 32, 2) := by decide +kernel
theorem dX12_blanks_3 : decode cX12_blanks 3 = .ok (.bipush 32, 2) := by decide +kernel
theorem dX12_blanks_5 : decode cX12_blanks 5 = .ok (.invokevirtual 114, 3) := by decide +kernel
theorem dX12_blanks_8 : decode cX12_blanks 8 = .ok (.ifCond .eq 16, 3) := by decide +kernel
theorem dX12_blanks_11 : decode cX12_blanks 11 = .ok (.aload_n 0, 1) := by decide +kernel
theorem dX12_blanks_12 : decode cX12_blanks 12 = .ok (.dup, 1) := by decide +kernel
theorem dX12_blanks_13 : decode cX12_blanks 13 = .ok (.getfield 108, 3) := by decide +kernel
theorem dX12_blanks_16 : decode cX12_blanks 16 = .ok (.iconst 1, 1) := by decide +kernel
theorem dX12_blanks_17 : decode cX12_blanks 17 = .ok (.iadd, 1) := by decide +kernel
theorem dX12_blanks_18 : decode cX12_blanks 18 = .ok (.putfield 108, 3) := by decide +kernel
theorem dX12_blanks_21 : decode cX12_blanks 21 = .ok (.goto (-21), 3) := by decide +kernel
theorem dX12_blanks_24 : decode cX12_blanks 24 = .ok (.aload_n 0, 1) := by decide +kernel
theorem dX12_blanks_25 : decode cX12_blanks 25 = .ok (.aload_n 0, 1) := by decide +kernel
theorem dX12_blanks_26 : decode cX12_blanks 26 = .ok (.getfield 108, 3) := by decide +kernel
theorem dX12_blanks_29 : decode cX12_blanks 29 = .ok (.putfield 118, 3) := by decide +kernel
theorem dX12_blanks_32 : decode cX12_blanks 32 = .ok (.return_, 1) := by decide +kernel
theorem dX12_letters_0 : decode cX12_letters 0 = .ok (.aload_n 0, 1) := by decide +kernel
theorem dX12_letters_1 : decode cX12_letters 1 = .ok (.invokevirtual 121, 3) := by decide +kernel
theorem dX12_letters_4 : decode cX12_letters 4 = .ok (.aload_n 0, 1) := by decide +kernel
theorem dX12_letters_5 : decode cX12_letters 5 = .ok (.bipush 97, 2) := by decide +kernel
theorem dX12_letters_7 : decode cX12_letters 7 = .ok (.bipush 122, 2) := by decide +kernel
theorem dX12_letters_9 : decode cX12_letters 9 = .ok (.invokevirtual 114, 3) := by decide +kernel
theorem dX12_letters_12 : decode cX12_letters 12 = .ok (.ifCond .eq 16, 3) := by decide +kernel
theorem dX12_letters_15 : decode cX12_letters 15 = .ok (.aload_n 0, 1) := by decide +kernel
theorem dX12_letters_16 : decode cX12_letters 16 = .ok (.dup, 1) := by decide +kernel
theorem dX12_letters_17 : decode cX12_letters 17 = .ok (.getfield 108, 3) := by decide +kernel
theorem dX12_letters_20 : decode cX12_letters 20 = .ok (.iconst 1, 1) := by decide +kernel
theorem dX12_letters_21 : decode cX12_letters 21 = .ok (.iadd, 1) := by decide +kernel
theorem dX12_letters_22 : decode cX12_letters 22 = .ok (.putfield 108, 3) := by decide +kernel
theorem dX12_letters_25 : decode cX12_letters 25 = .ok (.goto (-21), 3) := by decide +kernel
theorem dX12_letters_28 : decode cX12_letters 28 = .ok (.return_, 1) := by decide +kernel
theorem dX12_isWord_0 : decode cX12_isWord 0 = .ok (.aload_n 0, 1) := by decide +kernel
theorem dX12_isWord_1 : decode cX12_isWord 1 = .ok (.getfield 108, 3) := by decide +kernel
theorem dX12_isWord_4 : decode cX12_isWord 4 = .ok (.aload_n 0, 1) := by decide +kernel
theorem dX12_isWord_5 : decode cX12_isWord 5 = .ok (.getfield 118, 3) := by decide +kernel
theorem dX12_isWord_8 : decode cX12_isWord 8 = .ok (.isub, 1) := by decide +kernel
theorem dX12_isWord_9 : decode cX12_isWord 9 = .ok (.aload_n 1, 1) := by decide +kernel
theorem dX12_isWord_10 : decode cX12_isWord 10 = .ok (.invokevirtual 124, 3) := by decide +kernel
theorem dX12_isWord_13 : decode cX12_isWord 13 = .ok (.if_icmp .ne 7, 3) := by decide +kernel
theorem dX12_isWord_16 : decode cX12_isWord 16 = .ok (.iconst 1, 1) := by decide +kernel
theorem dX12_isWord_17 : decode cX12_isWord 17 = .ok (.goto 4, 3) := by decide +kernel
theorem dX12_isWord_20 : decode cX12_isWord 20 = .ok (.iconst 0, 1) := by decide +kernel
theorem dX12_isWord_21 : decode cX12_isWord 21 = .ok (.istore_n 2, 1) := by decide +kernel
theorem dX12_isWord_22 : decode cX12_isWord 22 = .ok (.iconst 0, 1) := by decide +kernel
theorem dX12_isWord_23 : decode cX12_isWord 23 = .ok (.istore_n 3, 1) := by decide +kernel
theorem dX12_isWord_24 : decode cX12_isWord 24 = .ok (.iload_n 2, 1) := by decide +kernel
theorem dX12_isWord_25 : decode cX12_isWord 25 = .ok (.ifCond .eq 42, 3) := by decide +kernel
theorem dX12_isWord_28 : decode cX12_isWord 28 = .ok (.iload_n 3, 1) := by decide +kernel
theorem dX12_isWord_29 : decode cX12_isWord 29 = .ok (.aload_n 1, 1) := by decide +kernel
theorem dX12_isWord_30 : decode cX12_isWord 30 = .ok (.invokevirtual 124, 3) := by decide +kernel
theorem dX12_isWord_33 : decode cX12_isWord 33 = .ok (.if_icmp .ge 34, 3) := by decide +kernel
theorem dX12_isWord_36 : decode cX12_isWord 36 = .ok (.aload_n 0, 1) := by decide +kernel
theorem dX12_isWord_37 : decode cX12_isWord 37 = .ok (.getfield 29, 3) := by decide +kernel
theorem dX12_isWord_40 : decode cX12_isWord 40 = .ok (.aload_n 0, 1) := by decide +kernel
theorem dX12_isWord_41 : decode cX12_isWord 41 = .ok (.getfield 118, 3) := by decide +kernel
theorem dX12_isWord_44 : decode cX12_isWord 44 = .ok (.iload_n 3, 1) := by decide +kernel
theorem dX12_isWord_45 : decode cX12_isWord 45 = .ok (.iadd, 1) := by decide +kernel
theorem dX12_isWord_46 : decode cX12_isWord 46 = .ok (.baload, 1) := by decide +kernel
theorem dX12_isWord_47 : decode cX12_isWord 47 = .ok (.aload_n 1, 1) := by decide +kernel
theorem dX12_isWord_48 : decode cX12_isWord 48 = .ok (.iload_n 3, 1) := by decide +kernel
theorem dX12_isWord_49 : decode cX12_isWord 49 = .ok (.invokevirtual 129, 3) := by decide +kernel
theorem dX12_isWord_52 : decode cX12_isWord 52 = .ok (.if_icmp .ne 7, 3) := by decide +kernel
theorem dX12_isWord_55 : decode cX12_isWord 55 = .ok (.iconst 1, 1) := by decide +kernel
theorem dX12_isWord_56 : decode cX12_isWord 56 = .ok (.goto 4, 3) := by decide +kernel
theorem dX12_isWord_59 : decode cX12_isWord 59 = .ok (.iconst 0, 1) := by decide +kernel
theorem dX12_isWord_60 : decode cX12_isWord 60 = .ok (.istore_n 2, 1) := by decide +kernel
theorem dX12_isWord_61 : decode cX12_isWord 61 = .ok (.iinc 3 1, 3) := by decide +kernel
theorem dX12_isWord_64 : decode cX12_isWord 64 = .ok (.goto (-40), 3) := by decide +kernel
theorem dX12_isWord_67 : decode cX12_isWord 67 = .ok (.iload_n 2, 1) := by decide +kernel
theorem dX12_isWord_68 : decode cX12_isWord 68 = .ok (.ireturn, 1) := by decide +kernel
theorem dX12_passes_0 : decode cX12_passes 0 = .ok (.aload_n 0, 1) := by decide +kernel
theorem dX12_passes_1 : decode cX12_passes 1 = .ok (.invokevirtual 133, 3) := by decide +kernel
theorem dX12_passes_4 : decode cX12_passes 4 = .ok (.aload_n 0, 1) := by decide +kernel
theorem dX12_passes_5 : decode cX12_passes 5 = .ok (.aload_n 1, 1) := by decide +kernel
theorem dX12_passes_6 : decode cX12_passes 6 = .ok (.invokevirtual 136, 3) := by decide +kernel
theorem dX12_passes_9 : decode cX12_passes 9 = .ok (.ifCond .eq 5, 3) := by decide +kernel
theorem dX12_passes_12 : decode cX12_passes 12 = .ok (.iconst 1, 1) := by decide +kernel
theorem dX12_passes_13 : decode cX12_passes 13 = .ok (.ireturn, 1) := by decide +kernel
theorem dX12_passes_14 : decode cX12_passes 14 = .ok (.aload_n 0, 1) := by decide +kernel
theorem dX12_passes_15 : decode cX12_passes 15 = .ok (.aload_n 0, 1) := by decide +kernel
theorem dX12_passes_16 : decode cX12_passes 16 = .ok (.getfield 118, 3) := by decide +kernel
theorem dX12_passes_19 : decode cX12_passes 19 = .ok (.putfield 108, 3) := by decide +kernel
theorem dX12_passes_22 : decode cX12_passes 22 = .ok (.iconst 0, 1) := by decide +kernel
theorem dX12_passes_23 : decode cX12_passes 23 = .ok (.ireturn, 1) := by decide +kernel
theorem dX12_sign_0 : decode cX12_sign 0 = .ok (.aload_n 0, 1) := by decide +kernel
theorem dX12_sign_1 : decode cX12_sign 1 = .ok (.invokevirtual 121, 3) := by decide +kernel
theorem dX12_sign_4 : decode cX12_sign 4 = .ok (.aload_n 0, 1) := by decide +kernel
theorem dX12_sign_5 : decode cX12_sign 5 = .ok (.iload_n 1, 1) := by decide +kernel
theorem dX12_sign_6 : decode cX12_sign 6 = .ok (.iload_n 1, 1) := by decide +kernel
theorem dX12_sign_7 : decode cX12_sign 7 = .ok (.invokevirtual 114, 3) := by decide +kernel
theorem dX12_sign_10 : decode cX12_sign 10 = .ok (.ifCond .ne 5, 3) := by decide +kernel
theorem dX12_sign_13 : decode cX12_sign 13 = .ok (.iconst 0, 1) := by decide +kernel
theorem dX12_sign_14 : decode cX12_sign 14 = .ok (.ireturn, 1) := by decide +kernel
theorem dX12_sign_15 : decode cX12_sign 15 = .ok (.aload_n 0, 1) := by decide +kernel
theorem dX12_sign_16 : decode cX12_sign 16 = .ok (.dup, 1) := by decide +kernel
theorem dX12_sign_17 : decode cX12_sign 17 = .ok (.getfield 108, 3) := by decide +kernel
theorem dX12_sign_20 : decode cX12_sign 20 = .ok (.iconst 1, 1) := by decide +kernel
theorem dX12_sign_21 : decode cX12_sign 21 = .ok (.iadd, 1) := by decide +kernel
theorem dX12_sign_22 : decode cX12_sign 22 = .ok (.putfield 108, 3) := by decide +kernel
theorem dX12_sign_25 : decode cX12_sign 25 = .ok (.iconst 1, 1) := by decide +kernel
theorem dX12_sign_26 : decode cX12_sign 26 = .ok (.ireturn, 1) := by decide +kernel
theorem dX12_number_0 : decode cX12_number 0 = .ok (.aload_n 0, 1) := by decide +kernel
theorem dX12_number_1 : decode cX12_number 1 = .ok (.invokevirtual 121, 3) := by decide +kernel
theorem dX12_number_4 : decode cX12_number 4 = .ok (.iconst 0, 1) := by decide +kernel
theorem dX12_number_5 : decode cX12_number 5 = .ok (.istore_n 3, 1) := by decide +kernel
theorem dX12_number_6 : decode cX12_number 6 = .ok (.aload_n 0, 1) := by decide +kernel
theorem dX12_number_7 : decode cX12_number 7 = .ok (.bipush 48, 2) := by decide +kernel
theorem dX12_number_9 : decode cX12_number 9 = .ok (.bipush 57, 2) := by decide +kernel
theorem dX12_number_11 : decode cX12_number 11 = .ok (.invokevirtual 114, 3) := by decide +kernel
theorem dX12_number_14 : decode cX12_number 14 = .ok (.ifCond .eq 51, 3) := by decide +kernel
theorem dX12_number_17 : decode cX12_number 17 = .ok (.aload_n 0, 1) := by decide +kernel
theorem dX12_number_18 : decode cX12_number 18 = .ok (.getfield 108, 3) := by decide +kernel
theorem dX12_number_21 : decode cX12_number 21 = .ok (.aload_n 0, 1) := by decide +kernel
theorem dX12_number_22 : decode cX12_number 22 = .ok (.getfield 118, 3) := by decide +kernel
theorem dX12_number_25 : decode cX12_number 25 = .ok (.isub, 1) := by decide +kernel
theorem dX12_number_26 : decode cX12_number 26 = .ok (.iconst 3, 1) := by decide +kernel
theorem dX12_number_27 : decode cX12_number 27 = .ok (.if_icmp .ge 23, 3) := by decide +kernel
theorem dX12_number_30 : decode cX12_number 30 = .ok (.bipush 10, 2) := by decide +kernel
theorem dX12_number_32 : decode cX12_number 32 = .ok (.iload_n 3, 1) := by decide +kernel
theorem dX12_number_33 : decode cX12_number 33 = .ok (.imul, 1) := by decide +kernel
theorem dX12_number_34 : decode cX12_number 34 = .ok (.aload_n 0, 1) := by decide +kernel
theorem dX12_number_35 : decode cX12_number 35 = .ok (.getfield 29, 3) := by decide +kernel
theorem dX12_number_38 : decode cX12_number 38 = .ok (.aload_n 0, 1) := by decide +kernel
theorem dX12_number_39 : decode cX12_number 39 = .ok (.getfield 108, 3) := by decide +kernel
theorem dX12_number_42 : decode cX12_number 42 = .ok (.baload, 1) := by decide +kernel
theorem dX12_number_43 : decode cX12_number 43 = .ok (.iadd, 1) := by decide +kernel
theorem dX12_number_44 : decode cX12_number 44 = .ok (.bipush 48, 2) := by decide +kernel
theorem dX12_number_46 : decode cX12_number 46 = .ok (.isub, 1) := by decide +kernel
theorem dX12_number_47 : decode cX12_number 47 = .ok (.goto 4, 3) := by decide +kernel
theorem dX12_number_50 : decode cX12_number 50 = .ok (.iload_n 3, 1) := by decide +kernel
theorem dX12_number_51 : decode cX12_number 51 = .ok (.istore_n 3, 1) := by decide +kernel
theorem dX12_number_52 : decode cX12_number 52 = .ok (.aload_n 0, 1) := by decide +kernel
theorem dX12_number_53 : decode cX12_number 53 = .ok (.dup, 1) := by decide +kernel
theorem dX12_number_54 : decode cX12_number 54 = .ok (.getfield 108, 3) := by decide +kernel
theorem dX12_number_57 : decode cX12_number 57 = .ok (.iconst 1, 1) := by decide +kernel
theorem dX12_number_58 : decode cX12_number 58 = .ok (.iadd, 1) := by decide +kernel
theorem dX12_number_59 : decode cX12_number 59 = .ok (.putfield 108, 3) := by decide +kernel
theorem dX12_number_62 : decode cX12_number 62 = .ok (.goto (-56), 3) := by decide +kernel
theorem dX12_number_65 : decode cX12_number 65 = .ok (.aload_n 0, 1) := by decide +kernel
theorem dX12_number_66 : decode cX12_number 66 = .ok (.getfield 108, 3) := by decide +kernel
theorem dX12_number_69 : decode cX12_number 69 = .ok (.aload_n 0, 1) := by decide +kernel
theorem dX12_number_70 : decode cX12_number 70 = .ok (.getfield 118, 3) := by decide +kernel
theorem dX12_number_73 : decode cX12_number 73 = .ok (.if_icmp .eq 26, 3) := by decide +kernel
theorem dX12_number_76 : decode cX12_number 76 = .ok (.aload_n 0, 1) := by decide +kernel
theorem dX12_number_77 : decode cX12_number 77 = .ok (.getfield 108, 3) := by decide +kernel
theorem dX12_number_80 : decode cX12_number 80 = .ok (.aload_n 0, 1) := by decide +kernel
theorem dX12_number_81 : decode cX12_number 81 = .ok (.getfield 118, 3) := by decide +kernel
theorem dX12_number_84 : decode cX12_number 84 = .ok (.isub, 1) := by decide +kernel
theorem dX12_number_85 : decode cX12_number 85 = .ok (.iconst 3, 1) := by decide +kernel
theorem dX12_number_86 : decode cX12_number 86 = .ok (.if_icmp .gt 13, 3) := by decide +kernel
theorem dX12_number_89 : decode cX12_number 89 = .ok (.iload_n 3, 1) := by decide +kernel
theorem dX12_number_90 : decode cX12_number 90 = .ok (.iload_n 1, 1) := by decide +kernel
theorem dX12_number_91 : decode cX12_number 91 = .ok (.if_icmp .lt 8, 3) := by decide +kernel
theorem dX12_number_94 : decode cX12_number 94 = .ok (.iload_n 3, 1) := by decide +kernel
theorem dX12_number_95 : decode cX12_number 95 = .ok (.iload_n 2, 1) := by decide +kernel
theorem dX12_number_96 : decode cX12_number 96 = .ok (.if_icmp .le 7, 3) := by decide +kernel
theorem dX12_number_99 : decode cX12_number 99 = .ok (.iconst (-1), 1) := by decide +kernel
theorem dX12_number_100 : decode cX12_number 100 = .ok (.goto 4, 3) := by decide +kernel
theorem dX12_number_103 : decode cX12_number 103 = .ok (.iload_n 3, 1) := by decide +kernel
theorem dX12_number_104 : decode cX12_number 104 = .ok (.ireturn, 1) := by decide +kernel
theorem dX12_behind_0 : decode cX12_behind 0 = .ok (.aload_n 0, 1) := by decide +kernel
theorem dX12_behind_1 : decode cX12_behind 1 = .ok (.invokevirtual 133, 3) := by decide +kernel
theorem dX12_behind_4 : decode cX12_behind 4 = .ok (.aload_n 0, 1) := by decide +kernel
theorem dX12_behind_5 : decode cX12_behind 5 = .ok (.aload_n 1, 1) := by decide +kernel
theorem dX12_behind_6 : decode cX12_behind 6 = .ok (.invokevirtual 136, 3) := by decide +kernel
theorem dX12_behind_9 : decode cX12_behind 9 = .ok (.ifCond .eq 12, 3) := by decide +kernel
theorem dX12_behind_12 : decode cX12_behind 12 = .ok (.aload_n 0, 1) := by decide +kernel
theorem dX12_behind_13 : decode cX12_behind 13 = .ok (.iload_n 2, 1) := by decide +kernel
theorem dX12_behind_14 : decode cX12_behind 14 = .ok (.iload_n 3, 1) := by decide +kernel
theorem dX12_behind_15 : decode cX12_behind 15 = .ok (.invokevirtual 140, 3) := by decide +kernel
theorem dX12_behind_18 : decode cX12_behind 18 = .ok (.goto 4, 3) := by decide +kernel
theorem dX12_behind_21 : decode cX12_behind 21 = .ok (.iconst (-1), 1) := by decide +kernel
theorem dX12_behind_22 : decode cX12_behind 22 = .ok (.ireturn, 1) := by decide +kernel
theorem dX12_fault_0 : decode cX12_fault 0 = .ok (.aload_n 0, 1) := by decide +kernel
theorem dX12_fault_1 : decode cX12_fault 1 = .ok (.iconst 0, 1) := by decide +kernel
theorem dX12_fault_2 : decode cX12_fault 2 = .ok (.putfield 3, 3) := by decide +kernel
theorem dX12_fault_5 : decode cX12_fault 5 = .ok (.aload_n 0, 1) := by decide +kernel
theorem dX12_fault_6 : decode cX12_fault 6 = .ok (.getfield 33, 3) := by decide +kernel
theorem dX12_fault_9 : decode cX12_fault 9 = .ok (.ireturn, 1) := by decide +kernel
theorem dX12_uses_0 : decode cX12_uses 0 = .ok (.aload_n 0, 1) := by decide +kernel
theorem dX12_uses_1 : decode cX12_uses 1 = .ok (.iconst 0, 1) := by decide +kernel
theorem dX12_uses_2 : decode cX12_uses 2 = .ok (.putfield 3, 3) := by decide +kernel
theorem dX12_uses_5 : decode cX12_uses 5 = .ok (.aload_n 0, 1) := by decide +kernel
theorem dX12_uses_6 : decode cX12_uses 6 = .ok (.aload_n 0, 1) := by decide +kernel
theorem dX12_uses_7 : decode cX12_uses 7 = .ok (.getfield 105, 3) := by decide +kernel
theorem dX12_uses_10 : decode cX12_uses 10 = .ok (.putfield 111, 3) := by decide +kernel
theorem dX12_uses_13 : decode cX12_uses 13 = .ok (.aload_n 0, 1) := by decide +kernel
theorem dX12_uses_14 : decode cX12_uses 14 = .ok (.iconst 0, 1) := by decide +kernel
theorem dX12_uses_15 : decode cX12_uses 15 = .ok (.putfield 105, 3) := by decide +kernel
theorem dX12_uses_18 : decode cX12_uses 18 = .ok (.aload_n 0, 1) := by decide +kernel
theorem dX12_uses_19 : decode cX12_uses 19 = .ok (.iconst 0, 1) := by decide +kernel
theorem dX12_uses_20 : decode cX12_uses 20 = .ok (.putfield 108, 3) := by decide +kernel
theorem dX12_uses_23 : decode cX12_uses 23 = .ok (.return_, 1) := by decide +kernel
theorem dX12_readNumber_0 : decode cX12_readNumber 0 = .ok (.aload_n 0, 1) := by decide +kernel
theorem dX12_readNumber_1 : decode cX12_readNumber 1 = .ok (.iload_n 2, 1) := by decide +kernel
theorem dX12_readNumber_2 : decode cX12_readNumber 2 = .ok (.iload_n 3, 1) := by decide +kernel
theorem dX12_readNumber_3 : decode cX12_readNumber 3 = .ok (.invokevirtual 140, 3) := by decide +kernel
theorem dX12_readNumber_6 : decode cX12_readNumber 6 = .ok (.istore 4, 2) := by decide +kernel
theorem dX12_readNumber_8 : decode cX12_readNumber 8 = .ok (.aload_n 0, 1) := by decide +kernel
theorem dX12_readNumber_9 : decode cX12_readNumber 9 = .ok (.getfield 13, 3) := by decide +kernel
theorem dX12_readNumber_12 : decode cX12_readNumber 12 = .ok (.iload_n 1, 1) := by decide +kernel
theorem dX12_readNumber_13 : decode cX12_readNumber 13 = .ok (.iload 4, 2) := by decide +kernel
theorem dX12_readNumber_15 : decode cX12_readNumber 15 = .ok (.ifCond .ge 12, 3) := by decide +kernel
theorem dX12_readNumber_18 : decode cX12_readNumber 18 = .ok (.aload_n 0, 1) := by decide +kernel
theorem dX12_readNumber_19 : decode cX12_readNumber 19 = .ok (.getfield 13, 3) := by decide +kernel
theorem dX12_readNumber_22 : decode cX12_readNumber 22 = .ok (.iload_n 1, 1) := by decide +kernel
theorem dX12_readNumber_23 : decode cX12_readNumber 23 = .ok (.iaload, 1) := by decide +kernel
theorem dX12_readNumber_24 : decode cX12_readNumber 24 = .ok (.goto 5, 3) := by decide +kernel
theorem dX12_readNumber_27 : decode cX12_readNumber 27 = .ok (.iload 4, 2) := by decide +kernel
theorem dX12_readNumber_29 : decode cX12_readNumber 29 = .ok (.iastore, 1) := by decide +kernel
theorem dX12_readNumber_30 : decode cX12_readNumber 30 = .ok (.iload 4, 2) := by decide +kernel
theorem dX12_readNumber_32 : decode cX12_readNumber 32 = .ok (.ifCond .lt 7, 3) := by decide +kernel
theorem dX12_readNumber_35 : decode cX12_readNumber 35 = .ok (.iconst 1, 1) := by decide +kernel
theorem dX12_readNumber_36 : decode cX12_readNumber 36 = .ok (.goto 4, 3) := by decide +kernel
theorem dX12_readNumber_39 : decode cX12_readNumber 39 = .ok (.iconst 0, 1) := by decide +kernel
theorem dX12_readNumber_40 : decode cX12_readNumber 40 = .ok (.ireturn, 1) := by decide +kernel
theorem dX12_readLong_0 : decode cX12_readLong 0 = .ok (.aload_n 0, 1) := by decide +kernel
theorem dX12_readLong_1 : decode cX12_readLong 1 = .ok (.invokevirtual 94, 3) := by decide +kernel
theorem dX12_readLong_4 : decode cX12_readLong 4 = .ok (.aload_n 0, 1) := by decide +kernel
theorem dX12_readLong_5 : decode cX12_readLong 5 = .ok (.invokevirtual 101, 3) := by decide +kernel
theorem dX12_readLong_8 : decode cX12_readLong 8 = .ok (.iadd, 1) := by decide +kernel
theorem dX12_readLong_9 : decode cX12_readLong 9 = .ok (.ifCond .gt 16, 3) := by decide +kernel
theorem dX12_readLong_12 : decode cX12_readLong 12 = .ok (.aload_n 0, 1) := by decide +kernel
theorem dX12_readLong_13 : decode cX12_readLong 13 = .ok (.iconst 4, 1) := by decide +kernel
theorem dX12_readLong_14 : decode cX12_readLong 14 = .ok (.bipush 10, 2) := by decide +kernel
theorem dX12_readLong_16 : decode cX12_readLong 16 = .ok (.sipush 200, 3) := by decide +kernel
theorem dX12_readLong_19 : decode cX12_readLong 19 = .ok (.invokevirtual 143, 3) := by decide +kernel
theorem dX12_readLong_22 : decode cX12_readLong 22 = .ok (.ifCond .ne 5, 3) := by decide +kernel
theorem dX12_readLong_25 : decode cX12_readLong 25 = .ok (.iconst 0, 1) := by decide +kernel
theorem dX12_readLong_26 : decode cX12_readLong 26 = .ok (.ireturn, 1) := by decide +kernel
theorem dX12_readLong_27 : decode cX12_readLong 27 = .ok (.aload_n 0, 1) := by decide +kernel
theorem dX12_readLong_28 : decode cX12_readLong 28 = .ok (.getfield 13, 3) := by decide +kernel
theorem dX12_readLong_31 : decode cX12_readLong 31 = .ok (.iconst 5, 1) := by decide +kernel
theorem dX12_readLong_32 : decode cX12_readLong 32 = .ok (.aload_n 0, 1) := by decide +kernel
theorem dX12_readLong_33 : decode cX12_readLong 33 = .ok (.getfield 13, 3) := by decide +kernel
theorem dX12_readLong_36 : decode cX12_readLong 36 = .ok (.iconst 5, 1) := by decide +kernel
theorem dX12_readLong_37 : decode cX12_readLong 37 = .ok (.iaload, 1) := by decide +kernel
theorem dX12_readLong_38 : decode cX12_readLong 38 = .ok (.aload_n 0, 1) := by decide +kernel
theorem dX12_readLong_39 : decode cX12_readLong 39 = .ok (.invokevirtual 84, 3) := by decide +kernel
theorem dX12_readLong_42 : decode cX12_readLong 42 = .ok (.iconst 1, 1) := by decide +kernel
theorem dX12_readLong_43 : decode cX12_readLong 43 = .ok (.isub, 1) := by decide +kernel
theorem dX12_readLong_44 : decode cX12_readLong 44 = .ok (.invokestatic 146, 3) := by decide +kernel
theorem dX12_readLong_47 : decode cX12_readLong 47 = .ok (.iastore, 1) := by decide +kernel
theorem dX12_readLong_48 : decode cX12_readLong 48 = .ok (.iconst 1, 1) := by decide +kernel
theorem dX12_readLong_49 : decode cX12_readLong 49 = .ok (.ireturn, 1) := by decide +kernel
theorem dX12_isFresh_0 : decode cX12_isFresh 0 = .ok (.iconst 0, 1) := by decide +kernel
theorem dX12_isFresh_1 : decode cX12_isFresh 1 = .ok (.istore 4, 2) := by decide +kernel
theorem dX12_isFresh_3 : decode cX12_isFresh 3 = .ok (.iload 4, 2) := by decide +kernel
theorem dX12_isFresh_5 : decode cX12_isFresh 5 = .ok (.bipush 7, 2) := by decide +kernel
theorem dX12_isFresh_7 : decode cX12_isFresh 7 = .ok (.if_icmp .ge 21, 3) := by decide +kernel
theorem dX12_isFresh_10 : decode cX12_isFresh 10 = .ok (.aload_n 0, 1) := by decide +kernel
theorem dX12_isFresh_11 : decode cX12_isFresh 11 = .ok (.getfield 13, 3) := by decide +kernel
theorem dX12_isFresh_14 : decode cX12_isFresh 14 = .ok (.iload_n 1, 1) := by decide +kernel
theorem dX12_isFresh_15 : decode cX12_isFresh 15 = .ok (.iload 4, 2) := by decide +kernel
theorem dX12_isFresh_17 : decode cX12_isFresh 17 = .ok (.invokestatic 77, 3) := by decide +kernel
theorem dX12_isFresh_20 : decode cX12_isFresh 20 = .ok (.iconst 0, 1) := by decide +kernel
theorem dX12_isFresh_21 : decode cX12_isFresh 21 = .ok (.iastore, 1) := by decide +kernel
theorem dX12_isFresh_22 : decode cX12_isFresh 22 = .ok (.iinc 4 1, 3) := by decide +kernel
theorem dX12_isFresh_25 : decode cX12_isFresh 25 = .ok (.goto (-22), 3) := by decide +kernel
theorem dX12_isFresh_28 : decode cX12_isFresh 28 = .ok (.aload_n 0, 1) := by decide +kernel
theorem dX12_isFresh_29 : decode cX12_isFresh 29 = .ok (.getfield 13, 3) := by decide +kernel
theorem dX12_isFresh_32 : decode cX12_isFresh 32 = .ok (.iload_n 1, 1) := by decide +kernel
theorem dX12_isFresh_33 : decode cX12_isFresh 33 = .ok (.iconst 0, 1) := by decide +kernel
theorem dX12_isFresh_34 : decode cX12_isFresh 34 = .ok (.invokestatic 77, 3) := by decide +kernel
theorem dX12_isFresh_37 : decode cX12_isFresh 37 = .ok (.iload_n 2, 1) := by decide +kernel
theorem dX12_isFresh_38 : decode cX12_isFresh 38 = .ok (.iastore, 1) := by decide +kernel
theorem dX12_isFresh_39 : decode cX12_isFresh 39 = .ok (.aload_n 0, 1) := by decide +kernel
theorem dX12_isFresh_40 : decode cX12_isFresh 40 = .ok (.getfield 13, 3) := by decide +kernel
theorem dX12_isFresh_43 : decode cX12_isFresh 43 = .ok (.iload_n 1, 1) := by decide +kernel
theorem dX12_isFresh_44 : decode cX12_isFresh 44 = .ok (.iconst 1, 1) := by decide +kernel
theorem dX12_isFresh_45 : decode cX12_isFresh 45 = .ok (.invokestatic 77, 3) := by decide +kernel
theorem dX12_isFresh_48 : decode cX12_isFresh 48 = .ok (.iload_n 3, 1) := by decide +kernel
theorem dX12_isFresh_49 : decode cX12_isFresh 49 = .ok (.iastore, 1) := by decide +kernel
theorem dX12_isFresh_50 : decode cX12_isFresh 50 = .ok (.aload_n 0, 1) := by decide +kernel
theorem dX12_isFresh_51 : decode cX12_isFresh 51 = .ok (.getfield 13, 3) := by decide +kernel
theorem dX12_isFresh_54 : decode cX12_isFresh 54 = .ok (.iconst 0, 1) := by decide +kernel
theorem dX12_isFresh_55 : decode cX12_isFresh 55 = .ok (.dup2, 1) := by decide +kernel
theorem dX12_isFresh_56 : decode cX12_isFresh 56 = .ok (.iaload, 1) := by decide +kernel
theorem dX12_isFresh_57 : decode cX12_isFresh 57 = .ok (.iconst 1, 1) := by decide +kernel
theorem dX12_isFresh_58 : decode cX12_isFresh 58 = .ok (.iadd, 1) := by decide +kernel
theorem dX12_isFresh_59 : decode cX12_isFresh 59 = .ok (.iastore, 1) := by decide +kernel
theorem dX12_isFresh_60 : decode cX12_isFresh 60 = .ok (.return_, 1) := by decide +kernel
theorem dX12_readWalker_0 : decode cX12_readWalker 0 = .ok (.aload_n 0, 1) := by decide +kernel
theorem dX12_readWalker_1 : decode cX12_readWalker 1 = .ok (.invokevirtual 94, 3) := by decide +kernel
theorem dX12_readWalker_4 : decode cX12_readWalker 4 = .ok (.istore_n 1, 1) := by decide +kernel
theorem dX12_readWalker_5 : decode cX12_readWalker 5 = .ok (.iload_n 1, 1) := by decide +kernel
theorem dX12_readWalker_6 : decode cX12_readWalker 6 = .ok (.bipush 7, 2) := by decide +kernel
theorem dX12_readWalker_8 : decode cX12_readWalker 8 = .ok (.if_icmp .ne 5, 3) := by decide +kernel
theorem dX12_readWalker_11 : decode cX12_readWalker 11 = .ok (.iconst 0, 1) := by decide +kernel
theorem dX12_readWalker_12 : decode cX12_readWalker 12 = .ok (.ireturn, 1) := by decide +kernel
theorem dX12_readWalker_13 : decode cX12_readWalker 13 = .ok (.aload_n 0, 1) := by decide +kernel
theorem dX12_readWalker_14 : decode cX12_readWalker 14 = .ok (.ldc 151, 2) := by decide +kernel
theorem dX12_readWalker_16 : decode cX12_readWalker 16 = .ok (.iconst 0, 1) := by decide +kernel
theorem dX12_readWalker_17 : decode cX12_readWalker 17 = .ok (.aload_n 0, 1) := by decide +kernel
theorem dX12_readWalker_18 : decode cX12_readWalker 18 = .ok (.invokevirtual 84, 3) := by decide +kernel
theorem dX12_readWalker_21 : decode cX12_readWalker 21 = .ok (.iconst 1, 1) := by decide +kernel
theorem dX12_readWalker_22 : decode cX12_readWalker 22 = .ok (.isub, 1) := by decide +kernel
theorem dX12_readWalker_23 : decode cX12_readWalker 23 = .ok (.invokevirtual 152, 3) := by decide +kernel
theorem dX12_readWalker_26 : decode cX12_readWalker 26 = .ok (.istore_n 2, 1) := by decide +kernel
theorem dX12_readWalker_27 : decode cX12_readWalker 27 = .ok (.iload_n 2, 1) := by decide +kernel
theorem dX12_readWalker_28 : decode cX12_readWalker 28 = .ok (.ifCond .ge 7, 3) := by decide +kernel
theorem dX12_readWalker_31 : decode cX12_readWalker 31 = .ok (.iconst (-1), 1) := by decide +kernel
theorem dX12_readWalker_32 : decode cX12_readWalker 32 = .ok (.goto 12, 3) := by decide +kernel
theorem dX12_readWalker_35 : decode cX12_readWalker 35 = .ok (.aload_n 0, 1) := by decide +kernel
theorem dX12_readWalker_36 : decode cX12_readWalker 36 = .ok (.ldc 156, 2) := by decide +kernel
theorem dX12_readWalker_38 : decode cX12_readWalker 38 = .ok (.iconst 0, 1) := by decide +kernel
theorem dX12_readWalker_39 : decode cX12_readWalker 39 = .ok (.bipush 99, 2) := by decide +kernel
theorem dX12_readWalker_41 : decode cX12_readWalker 41 = .ok (.invokevirtual 152, 3) := by decide +kernel
theorem dX12_readWalker_44 : decode cX12_readWalker 44 = .ok (.istore_n 3, 1) := by decide +kernel
theorem dX12_readWalker_45 : decode cX12_readWalker 45 = .ok (.iload_n 3, 1) := by decide +kernel
theorem dX12_readWalker_46 : decode cX12_readWalker 46 = .ok (.ifCond .ge 5, 3) := by decide +kernel
theorem dX12_readWalker_49 : decode cX12_readWalker 49 = .ok (.iconst 0, 1) := by decide +kernel
theorem dX12_readWalker_50 : decode cX12_readWalker 50 = .ok (.ireturn, 1) := by decide +kernel
theorem dX12_readWalker_51 : decode cX12_readWalker 51 = .ok (.aload_n 0, 1) := by decide +kernel
theorem dX12_readWalker_52 : decode cX12_readWalker 52 = .ok (.iload_n 1, 1) := by decide +kernel
theorem dX12_readWalker_53 : decode cX12_readWalker 53 = .ok (.iload_n 2, 1) := by decide +kernel
theorem dX12_readWalker_54 : decode cX12_readWalker 54 = .ok (.iload_n 3, 1) := by decide +kernel
theorem dX12_readWalker_55 : decode cX12_readWalker 55 = .ok (.invokevirtual 158, 3) := by decide +kernel
theorem dX12_readWalker_58 : decode cX12_readWalker 58 = .ok (.aload_n 0, 1) := by decide +kernel
theorem dX12_readWalker_59 : decode cX12_readWalker 59 = .ok (.getfield 13, 3) := by decide +kernel
theorem dX12_readWalker_62 : decode cX12_readWalker 62 = .ok (.iload_n 1, 1) := by decide +kernel
theorem dX12_readWalker_63 : decode cX12_readWalker 63 = .ok (.iconst 3, 1) := by decide +kernel
theorem dX12_readWalker_64 : decode cX12_readWalker 64 = .ok (.invokestatic 77, 3) := by decide +kernel
theorem dX12_readWalker_67 : decode cX12_readWalker 67 = .ok (.aload_n 0, 1) := by decide +kernel
theorem dX12_readWalker_68 : decode cX12_readWalker 68 = .ok (.ldc 162, 2) := by decide +kernel
theorem dX12_readWalker_70 : decode cX12_readWalker 70 = .ok (.invokevirtual 164, 3) := by decide +kernel
theorem dX12_readWalker_73 : decode cX12_readWalker 73 = .ok (.ifCond .eq 7, 3) := by decide +kernel
theorem dX12_readWalker_76 : decode cX12_readWalker 76 = .ok (.iconst 1, 1) := by decide +kernel
theorem dX12_readWalker_77 : decode cX12_readWalker 77 = .ok (.goto 4, 3) := by decide +kernel
theorem dX12_readWalker_80 : decode cX12_readWalker 80 = .ok (.iconst 0, 1) := by decide +kernel
theorem dX12_readWalker_81 : decode cX12_readWalker 81 = .ok (.iastore, 1) := by decide +kernel
theorem dX12_readWalker_82 : decode cX12_readWalker 82 = .ok (.iconst 1, 1) := by decide +kernel
theorem dX12_readWalker_83 : decode cX12_readWalker 83 = .ok (.ireturn, 1) := by decide +kernel
theorem dX12_readShuns_0 : decode cX12_readShuns 0 = .ok (.aload_n 0, 1) := by decide +kernel
theorem dX12_readShuns_1 : decode cX12_readShuns 1 = .ok (.iconst 0, 1) := by decide +kernel
theorem dX12_readShuns_2 : decode cX12_readShuns 2 = .ok (.aload_n 0, 1) := by decide +kernel
theorem dX12_readShuns_3 : decode cX12_readShuns 3 = .ok (.invokevirtual 94, 3) := by decide +kernel
theorem dX12_readShuns_6 : decode cX12_readShuns 6 = .ok (.iconst 1, 1) := by decide +kernel
theorem dX12_readShuns_7 : decode cX12_readShuns 7 = .ok (.isub, 1) := by decide +kernel
theorem dX12_readShuns_8 : decode cX12_readShuns 8 = .ok (.invokevirtual 140, 3) := by decide +kernel
theorem dX12_readShuns_11 : decode cX12_readShuns 11 = .ok (.istore_n 1, 1) := by decide +kernel
theorem dX12_readShuns_12 : decode cX12_readShuns 12 = .ok (.iload_n 1, 1) := by decide +kernel
theorem dX12_readShuns_13 : decode cX12_readShuns 13 = .ok (.ifCond .ge 7, 3) := by decide +kernel
theorem dX12_readShuns_16 : decode cX12_readShuns 16 = .ok (.iconst (-1), 1) := by decide +kernel
theorem dX12_readShuns_17 : decode cX12_readShuns 17 = .ok (.goto 14, 3) := by decide +kernel
theorem dX12_readShuns_20 : decode cX12_readShuns 20 = .ok (.aload_n 0, 1) := by decide +kernel
theorem dX12_readShuns_21 : decode cX12_readShuns 21 = .ok (.iconst 0, 1) := by decide +kernel
theorem dX12_readShuns_22 : decode cX12_readShuns 22 = .ok (.aload_n 0, 1) := by decide +kernel
theorem dX12_readShuns_23 : decode cX12_readShuns 23 = .ok (.invokevirtual 94, 3) := by decide +kernel
theorem dX12_readShuns_26 : decode cX12_readShuns 26 = .ok (.iconst 1, 1) := by decide +kernel
theorem dX12_readShuns_27 : decode cX12_readShuns 27 = .ok (.isub, 1) := by decide +kernel
theorem dX12_readShuns_28 : decode cX12_readShuns 28 = .ok (.invokevirtual 140, 3) := by decide +kernel
theorem dX12_readShuns_31 : decode cX12_readShuns 31 = .ok (.istore_n 2, 1) := by decide +kernel
theorem dX12_readShuns_32 : decode cX12_readShuns 32 = .ok (.iload_n 2, 1) := by decide +kernel
theorem dX12_readShuns_33 : decode cX12_readShuns 33 = .ok (.ifCond .lt 8, 3) := by decide +kernel
theorem dX12_readShuns_36 : decode cX12_readShuns 36 = .ok (.iload_n 2, 1) := by decide +kernel
theorem dX12_readShuns_37 : decode cX12_readShuns 37 = .ok (.iload_n 1, 1) := by decide +kernel
theorem dX12_readShuns_38 : decode cX12_readShuns 38 = .ok (.if_icmp .ne 5, 3) := by decide +kernel
theorem dX12_readShuns_41 : decode cX12_readShuns 41 = .ok (.iconst 0, 1) := by decide +kernel
theorem dX12_readShuns_42 : decode cX12_readShuns 42 = .ok (.ireturn, 1) := by decide +kernel
theorem dX12_readShuns_43 : decode cX12_readShuns 43 = .ok (.aload_n 0, 1) := by decide +kernel
theorem dX12_readShuns_44 : decode cX12_readShuns 44 = .ok (.getfield 13, 3) := by decide +kernel
theorem dX12_readShuns_47 : decode cX12_readShuns 47 = .ok (.iload_n 1, 1) := by decide +kernel
theorem dX12_readShuns_48 : decode cX12_readShuns 48 = .ok (.iconst 2, 1) := by decide +kernel
theorem dX12_readShuns_49 : decode cX12_readShuns 49 = .ok (.invokestatic 77, 3) := by decide +kernel
theorem dX12_readShuns_52 : decode cX12_readShuns 52 = .ok (.dup2, 1) := by decide +kernel
theorem dX12_readShuns_53 : decode cX12_readShuns 53 = .ok (.iaload, 1) := by decide +kernel
theorem dX12_readShuns_54 : decode cX12_readShuns 54 = .ok (.iconst 1, 1) := by decide +kernel
theorem dX12_readShuns_55 : decode cX12_readShuns 55 = .ok (.iload_n 2, 1) := by decide +kernel
theorem dX12_readShuns_56 : decode cX12_readShuns 56 = .ok (.ishl, 1) := by decide +kernel
theorem dX12_readShuns_57 : decode cX12_readShuns 57 = .ok (.ior, 1) := by decide +kernel
theorem dX12_readShuns_58 : decode cX12_readShuns 58 = .ok (.iastore, 1) := by decide +kernel
theorem dX12_readShuns_59 : decode cX12_readShuns 59 = .ok (.iconst 1, 1) := by decide +kernel
theorem dX12_readShuns_60 : decode cX12_readShuns 60 = .ok (.ireturn, 1) := by decide +kernel
theorem dX12_readShelter_0 : decode cX12_readShelter 0 = .ok (.aload_n 0, 1) := by decide +kernel
theorem dX12_readShelter_1 : decode cX12_readShelter 1 = .ok (.invokevirtual 101, 3) := by decide +kernel
theorem dX12_readShelter_4 : decode cX12_readShelter 4 = .ok (.istore_n 1, 1) := by decide +kernel
theorem dX12_readShelter_5 : decode cX12_readShelter 5 = .ok (.iload_n 1, 1) := by decide +kernel
theorem dX12_readShelter_6 : decode cX12_readShelter 6 = .ok (.iconst 4, 1) := by decide +kernel
theorem dX12_readShelter_7 : decode cX12_readShelter 7 = .ok (.if_icmp .ne 5, 3) := by decide +kernel
theorem dX12_readShelter_10 : decode cX12_readShelter 10 = .ok (.iconst 0, 1) := by decide +kernel
theorem dX12_readShelter_11 : decode cX12_readShelter 11 = .ok (.ireturn, 1) := by decide +kernel
theorem dX12_readShelter_12 : decode cX12_readShelter 12 = .ok (.aload_n 0, 1) := by decide +kernel
theorem dX12_readShelter_13 : decode cX12_readShelter 13 = .ok (.ldc 151, 2) := by decide +kernel
theorem dX12_readShelter_15 : decode cX12_readShelter 15 = .ok (.iconst 0, 1) := by decide +kernel
theorem dX12_readShelter_16 : decode cX12_readShelter 16 = .ok (.aload_n 0, 1) := by decide +kernel
theorem dX12_readShelter_17 : decode cX12_readShelter 17 = .ok (.invokevirtual 84, 3) := by decide +kernel
theorem dX12_readShelter_20 : decode cX12_readShelter 20 = .ok (.iconst 1, 1) := by decide +kernel
theorem dX12_readShelter_21 : decode cX12_readShelter 21 = .ok (.isub, 1) := by decide +kernel
theorem dX12_readShelter_22 : decode cX12_readShelter 22 = .ok (.invokevirtual 152, 3) := by decide +kernel
theorem dX12_readShelter_25 : decode cX12_readShelter 25 = .ok (.istore_n 2, 1) := by decide +kernel
theorem dX12_readShelter_26 : decode cX12_readShelter 26 = .ok (.iload_n 2, 1) := by decide +kernel
theorem dX12_readShelter_27 : decode cX12_readShelter 27 = .ok (.ifCond .ge 7, 3) := by decide +kernel
theorem dX12_readShelter_30 : decode cX12_readShelter 30 = .ok (.iconst (-1), 1) := by decide +kernel
theorem dX12_readShelter_31 : decode cX12_readShelter 31 = .ok (.goto 11, 3) := by decide +kernel
theorem dX12_readShelter_34 : decode cX12_readShelter 34 = .ok (.aload_n 0, 1) := by decide +kernel
theorem dX12_readShelter_35 : decode cX12_readShelter 35 = .ok (.ldc 167, 2) := by decide +kernel
theorem dX12_readShelter_37 : decode cX12_readShelter 37 = .ok (.iconst 1, 1) := by decide +kernel
theorem dX12_readShelter_38 : decode cX12_readShelter 38 = .ok (.iconst 3, 1) := by decide +kernel
theorem dX12_readShelter_39 : decode cX12_readShelter 39 = .ok (.invokevirtual 152, 3) := by decide +kernel
theorem dX12_readShelter_42 : decode cX12_readShelter 42 = .ok (.istore_n 3, 1) := by decide +kernel
theorem dX12_readShelter_43 : decode cX12_readShelter 43 = .ok (.iload_n 3, 1) := by decide +kernel
theorem dX12_readShelter_44 : decode cX12_readShelter 44 = .ok (.ifCond .ge 5, 3) := by decide +kernel
theorem dX12_readShelter_47 : decode cX12_readShelter 47 = .ok (.iconst 0, 1) := by decide +kernel
theorem dX12_readShelter_48 : decode cX12_readShelter 48 = .ok (.ireturn, 1) := by decide +kernel
theorem dX12_readShelter_49 : decode cX12_readShelter 49 = .ok (.aload_n 0, 1) := by decide +kernel
theorem dX12_readShelter_50 : decode cX12_readShelter 50 = .ok (.getfield 13, 3) := by decide +kernel
theorem dX12_readShelter_53 : decode cX12_readShelter 53 = .ok (.iload_n 1, 1) := by decide +kernel
theorem dX12_readShelter_54 : decode cX12_readShelter 54 = .ok (.iconst 0, 1) := by decide +kernel
theorem dX12_readShelter_55 : decode cX12_readShelter 55 = .ok (.invokestatic 81, 3) := by decide +kernel
theorem dX12_readShelter_58 : decode cX12_readShelter 58 = .ok (.iload_n 2, 1) := by decide +kernel
theorem dX12_readShelter_59 : decode cX12_readShelter 59 = .ok (.iastore, 1) := by decide +kernel
theorem dX12_readShelter_60 : decode cX12_readShelter 60 = .ok (.aload_n 0, 1) := by decide +kernel
theorem dX12_readShelter_61 : decode cX12_readShelter 61 = .ok (.getfield 13, 3) := by decide +kernel
theorem dX12_readShelter_64 : decode cX12_readShelter 64 = .ok (.iload_n 1, 1) := by decide +kernel
theorem dX12_readShelter_65 : decode cX12_readShelter 65 = .ok (.iconst 1, 1) := by decide +kernel
theorem dX12_readShelter_66 : decode cX12_readShelter 66 = .ok (.invokestatic 81, 3) := by decide +kernel
theorem dX12_readShelter_69 : decode cX12_readShelter 69 = .ok (.iload_n 3, 1) := by decide +kernel
theorem dX12_readShelter_70 : decode cX12_readShelter 70 = .ok (.iastore, 1) := by decide +kernel
theorem dX12_readShelter_71 : decode cX12_readShelter 71 = .ok (.aload_n 0, 1) := by decide +kernel
theorem dX12_readShelter_72 : decode cX12_readShelter 72 = .ok (.getfield 13, 3) := by decide +kernel
theorem dX12_readShelter_75 : decode cX12_readShelter 75 = .ok (.iconst 1, 1) := by decide +kernel
theorem dX12_readShelter_76 : decode cX12_readShelter 76 = .ok (.dup2, 1) := by decide +kernel
theorem dX12_readShelter_77 : decode cX12_readShelter 77 = .ok (.iaload, 1) := by decide +kernel
theorem dX12_readShelter_78 : decode cX12_readShelter 78 = .ok (.iconst 1, 1) := by decide +kernel
theorem dX12_readShelter_79 : decode cX12_readShelter 79 = .ok (.iadd, 1) := by decide +kernel
theorem dX12_readShelter_80 : decode cX12_readShelter 80 = .ok (.iastore, 1) := by decide +kernel
theorem dX12_readShelter_81 : decode cX12_readShelter 81 = .ok (.iconst 1, 1) := by decide +kernel
theorem dX12_readShelter_82 : decode cX12_readShelter 82 = .ok (.ireturn, 1) := by decide +kernel
theorem dX12_readMisty_0 : decode cX12_readMisty 0 = .ok (.aload_n 0, 1) := by decide +kernel
theorem dX12_readMisty_1 : decode cX12_readMisty 1 = .ok (.getfield 13, 3) := by decide +kernel
theorem dX12_readMisty_4 : decode cX12_readMisty 4 = .ok (.bipush 7, 2) := by decide +kernel
theorem dX12_readMisty_6 : decode cX12_readMisty 6 = .ok (.iconst 1, 1) := by decide +kernel
theorem dX12_readMisty_7 : decode cX12_readMisty 7 = .ok (.iastore, 1) := by decide +kernel
theorem dX12_readMisty_8 : decode cX12_readMisty 8 = .ok (.iconst 1, 1) := by decide +kernel
theorem dX12_readMisty_9 : decode cX12_readMisty 9 = .ok (.ireturn, 1) := by decide +kernel
theorem dX12_readPromenadeLine_0 : decode cX12_readPromenadeLine 0 = .ok (.aload_n 0, 1) := by decide +kernel
theorem dX12_readPromenadeLine_1 : decode cX12_readPromenadeLine 1 = .ok (.ldc 169, 2) := by decide +kernel
theorem dX12_readPromenadeLine_3 : decode cX12_readPromenadeLine 3 = .ok (.invokevirtual 136, 3) := by decide +kernel
theorem dX12_readPromenadeLine_6 : decode cX12_readPromenadeLine 6 = .ok (.ifCond .eq 8, 3) := by decide +kernel
theorem dX12_readPromenadeLine_9 : decode cX12_readPromenadeLine 9 = .ok (.aload_n 0, 1) := by decide +kernel
theorem dX12_readPromenadeLine_10 : decode cX12_readPromenadeLine 10 = .ok (.invokevirtual 171, 3) := by decide +kernel
theorem dX12_readPromenadeLine_13 : decode cX12_readPromenadeLine 13 = .ok (.ireturn, 1) := by decide +kernel
theorem dX12_readPromenadeLine_14 : decode cX12_readPromenadeLine 14 = .ok (.aload_n 0, 1) := by decide +kernel
theorem dX12_readPromenadeLine_15 : decode cX12_readPromenadeLine 15 = .ok (.ldc 175, 2) := by decide +kernel
theorem dX12_readPromenadeLine_17 : decode cX12_readPromenadeLine 17 = .ok (.invokevirtual 136, 3) := by decide +kernel
theorem dX12_readPromenadeLine_20 : decode cX12_readPromenadeLine 20 = .ok (.ifCond .eq 8, 3) := by decide +kernel
theorem dX12_readPromenadeLine_23 : decode cX12_readPromenadeLine 23 = .ok (.aload_n 0, 1) := by decide +kernel
theorem dX12_readPromenadeLine_24 : decode cX12_readPromenadeLine 24 = .ok (.invokevirtual 177, 3) := by decide +kernel
theorem dX12_readPromenadeLine_27 : decode cX12_readPromenadeLine 27 = .ok (.ireturn, 1) := by decide +kernel
theorem dX12_readPromenadeLine_28 : decode cX12_readPromenadeLine 28 = .ok (.aload_n 0, 1) := by decide +kernel
theorem dX12_readPromenadeLine_29 : decode cX12_readPromenadeLine 29 = .ok (.ldc 180, 2) := by decide +kernel
theorem dX12_readPromenadeLine_31 : decode cX12_readPromenadeLine 31 = .ok (.invokevirtual 136, 3) := by decide +kernel
theorem dX12_readPromenadeLine_34 : decode cX12_readPromenadeLine 34 = .ok (.ifCond .eq 8, 3) := by decide +kernel
theorem dX12_readPromenadeLine_37 : decode cX12_readPromenadeLine 37 = .ok (.aload_n 0, 1) := by decide +kernel
theorem dX12_readPromenadeLine_38 : decode cX12_readPromenadeLine 38 = .ok (.invokevirtual 182, 3) := by decide +kernel
theorem dX12_readPromenadeLine_41 : decode cX12_readPromenadeLine 41 = .ok (.ireturn, 1) := by decide +kernel
theorem dX12_readPromenadeLine_42 : decode cX12_readPromenadeLine 42 = .ok (.aload_n 0, 1) := by decide +kernel
theorem dX12_readPromenadeLine_43 : decode cX12_readPromenadeLine 43 = .ok (.ldc 185, 2) := by decide +kernel
theorem dX12_readPromenadeLine_45 : decode cX12_readPromenadeLine 45 = .ok (.invokevirtual 136, 3) := by decide +kernel
theorem dX12_readPromenadeLine_48 : decode cX12_readPromenadeLine 48 = .ok (.ifCond .eq 8, 3) := by decide +kernel
theorem dX12_readPromenadeLine_51 : decode cX12_readPromenadeLine 51 = .ok (.aload_n 0, 1) := by decide +kernel
theorem dX12_readPromenadeLine_52 : decode cX12_readPromenadeLine 52 = .ok (.invokevirtual 187, 3) := by decide +kernel
theorem dX12_readPromenadeLine_55 : decode cX12_readPromenadeLine 55 = .ok (.ireturn, 1) := by decide +kernel
theorem dX12_readPromenadeLine_56 : decode cX12_readPromenadeLine 56 = .ok (.aload_n 0, 1) := by decide +kernel
theorem dX12_readPromenadeLine_57 : decode cX12_readPromenadeLine 57 = .ok (.ldc 190, 2) := by decide +kernel
theorem dX12_readPromenadeLine_59 : decode cX12_readPromenadeLine 59 = .ok (.invokevirtual 136, 3) := by decide +kernel
theorem dX12_readPromenadeLine_62 : decode cX12_readPromenadeLine 62 = .ok (.ifCond .eq 16, 3) := by decide +kernel
theorem dX12_readPromenadeLine_65 : decode cX12_readPromenadeLine 65 = .ok (.aload_n 0, 1) := by decide +kernel
theorem dX12_readPromenadeLine_66 : decode cX12_readPromenadeLine 66 = .ok (.iconst 5, 1) := by decide +kernel
theorem dX12_readPromenadeLine_67 : decode cX12_readPromenadeLine 67 = .ok (.iconst 0, 1) := by decide +kernel
theorem dX12_readPromenadeLine_68 : decode cX12_readPromenadeLine 68 = .ok (.aload_n 0, 1) := by decide +kernel
theorem dX12_readPromenadeLine_69 : decode cX12_readPromenadeLine 69 = .ok (.invokevirtual 84, 3) := by decide +kernel
theorem dX12_readPromenadeLine_72 : decode cX12_readPromenadeLine 72 = .ok (.iconst 1, 1) := by decide +kernel
theorem dX12_readPromenadeLine_73 : decode cX12_readPromenadeLine 73 = .ok (.isub, 1) := by decide +kernel
theorem dX12_readPromenadeLine_74 : decode cX12_readPromenadeLine 74 = .ok (.invokevirtual 143, 3) := by decide +kernel
theorem dX12_readPromenadeLine_77 : decode cX12_readPromenadeLine 77 = .ok (.ireturn, 1) := by decide +kernel
theorem dX12_readPromenadeLine_78 : decode cX12_readPromenadeLine 78 = .ok (.aload_n 0, 1) := by decide +kernel
theorem dX12_readPromenadeLine_79 : decode cX12_readPromenadeLine 79 = .ok (.ldc 192, 2) := by decide +kernel
theorem dX12_readPromenadeLine_81 : decode cX12_readPromenadeLine 81 = .ok (.invokevirtual 136, 3) := by decide +kernel
theorem dX12_readPromenadeLine_84 : decode cX12_readPromenadeLine 84 = .ok (.ifCond .eq 13, 3) := by decide +kernel
theorem dX12_readPromenadeLine_87 : decode cX12_readPromenadeLine 87 = .ok (.aload_n 0, 1) := by decide +kernel
theorem dX12_readPromenadeLine_88 : decode cX12_readPromenadeLine 88 = .ok (.bipush 8, 2) := by decide +kernel
theorem dX12_readPromenadeLine_90 : decode cX12_readPromenadeLine 90 = .ok (.iconst 0, 1) := by decide +kernel
theorem dX12_readPromenadeLine_91 : decode cX12_readPromenadeLine 91 = .ok (.bipush 100, 2) := by decide +kernel
theorem dX12_readPromenadeLine_93 : decode cX12_readPromenadeLine 93 = .ok (.invokevirtual 143, 3) := by decide +kernel
theorem dX12_readPromenadeLine_96 : decode cX12_readPromenadeLine 96 = .ok (.ireturn, 1) := by decide +kernel
theorem dX12_readPromenadeLine_97 : decode cX12_readPromenadeLine 97 = .ok (.aload_n 0, 1) := by decide +kernel
theorem dX12_readPromenadeLine_98 : decode cX12_readPromenadeLine 98 = .ok (.ldc 194, 2) := by decide +kernel
theorem dX12_readPromenadeLine_100 : decode cX12_readPromenadeLine 100 = .ok (.invokevirtual 136, 3) := by decide +kernel
theorem dX12_readPromenadeLine_103 : decode cX12_readPromenadeLine 103 = .ok (.ifCond .eq 8, 3) := by decide +kernel
theorem dX12_readPromenadeLine_106 : decode cX12_readPromenadeLine 106 = .ok (.aload_n 0, 1) := by decide +kernel
theorem dX12_readPromenadeLine_107 : decode cX12_readPromenadeLine 107 = .ok (.invokevirtual 196, 3) := by decide +kernel
theorem dX12_readPromenadeLine_110 : decode cX12_readPromenadeLine 110 = .ok (.ireturn, 1) := by decide +kernel
theorem dX12_readPromenadeLine_111 : decode cX12_readPromenadeLine 111 = .ok (.aload_n 0, 1) := by decide +kernel
theorem dX12_readPromenadeLine_112 : decode cX12_readPromenadeLine 112 = .ok (.ldc 199, 2) := by decide +kernel
theorem dX12_readPromenadeLine_114 : decode cX12_readPromenadeLine 114 = .ok (.invokevirtual 136, 3) := by decide +kernel
theorem dX12_readPromenadeLine_117 : decode cX12_readPromenadeLine 117 = .ok (.ifCond .eq 20, 3) := by decide +kernel
theorem dX12_readPromenadeLine_120 : decode cX12_readPromenadeLine 120 = .ok (.aload_n 0, 1) := by decide +kernel
theorem dX12_readPromenadeLine_121 : decode cX12_readPromenadeLine 121 = .ok (.bipush 6, 2) := by decide +kernel
theorem dX12_readPromenadeLine_123 : decode cX12_readPromenadeLine 123 = .ok (.iconst 0, 1) := by decide +kernel
theorem dX12_readPromenadeLine_124 : decode cX12_readPromenadeLine 124 = .ok (.sipush 999, 3) := by decide +kernel
theorem dX12_readPromenadeLine_127 : decode cX12_readPromenadeLine 127 = .ok (.invokevirtual 143, 3) := by decide +kernel
theorem dX12_readPromenadeLine_130 : decode cX12_readPromenadeLine 130 = .ok (.ifCond .eq 7, 3) := by decide +kernel
theorem dX12_readPromenadeLine_133 : decode cX12_readPromenadeLine 133 = .ok (.iconst 1, 1) := by decide +kernel
theorem dX12_readPromenadeLine_134 : decode cX12_readPromenadeLine 134 = .ok (.goto 4, 3) := by decide +kernel
theorem dX12_readPromenadeLine_137 : decode cX12_readPromenadeLine 137 = .ok (.iconst 0, 1) := by decide +kernel
theorem dX12_readPromenadeLine_138 : decode cX12_readPromenadeLine 138 = .ok (.ireturn, 1) := by decide +kernel
theorem dX12_emits_0 : decode cX12_emits 0 = .ok (.aload_n 0, 1) := by decide +kernel
theorem dX12_emits_1 : decode cX12_emits 1 = .ok (.getfield 13, 3) := by decide +kernel
theorem dX12_emits_4 : decode cX12_emits 4 = .ok (.sipush 1206, 3) := by decide +kernel
theorem dX12_emits_7 : decode cX12_emits 7 = .ok (.iconst 2, 1) := by decide +kernel
theorem dX12_emits_8 : decode cX12_emits 8 = .ok (.aload_n 0, 1) := by decide +kernel
theorem dX12_emits_9 : decode cX12_emits 9 = .ok (.getfield 201, 3) := by decide +kernel
theorem dX12_emits_12 : decode cX12_emits 12 = .ok (.imul, 1) := by decide +kernel
theorem dX12_emits_13 : decode cX12_emits 13 = .ok (.iadd, 1) := by decide +kernel
theorem dX12_emits_14 : decode cX12_emits 14 = .ok (.iload_n 1, 1) := by decide +kernel
theorem dX12_emits_15 : decode cX12_emits 15 = .ok (.iastore, 1) := by decide +kernel
theorem dX12_emits_16 : decode cX12_emits 16 = .ok (.aload_n 0, 1) := by decide +kernel
theorem dX12_emits_17 : decode cX12_emits 17 = .ok (.getfield 13, 3) := by decide +kernel
theorem dX12_emits_20 : decode cX12_emits 20 = .ok (.sipush 1206, 3) := by decide +kernel
theorem dX12_emits_23 : decode cX12_emits 23 = .ok (.iconst 2, 1) := by decide +kernel
theorem dX12_emits_24 : decode cX12_emits 24 = .ok (.aload_n 0, 1) := by decide +kernel
theorem dX12_emits_25 : decode cX12_emits 25 = .ok (.getfield 201, 3) := by decide +kernel
theorem dX12_emits_28 : decode cX12_emits 28 = .ok (.imul, 1) := by decide +kernel
theorem dX12_emits_29 : decode cX12_emits 29 = .ok (.iadd, 1) := by decide +kernel
theorem dX12_emits_30 : decode cX12_emits 30 = .ok (.iconst 1, 1) := by decide +kernel
theorem dX12_emits_31 : decode cX12_emits 31 = .ok (.iadd, 1) := by decide +kernel
theorem dX12_emits_32 : decode cX12_emits 32 = .ok (.iload_n 2, 1) := by decide +kernel
theorem dX12_emits_33 : decode cX12_emits 33 = .ok (.iastore, 1) := by decide +kernel
theorem dX12_emits_34 : decode cX12_emits 34 = .ok (.aload_n 0, 1) := by decide +kernel
theorem dX12_emits_35 : decode cX12_emits 35 = .ok (.dup, 1) := by decide +kernel
theorem dX12_emits_36 : decode cX12_emits 36 = .ok (.getfield 201, 3) := by decide +kernel
theorem dX12_emits_39 : decode cX12_emits 39 = .ok (.iconst 1, 1) := by decide +kernel
theorem dX12_emits_40 : decode cX12_emits 40 = .ok (.iadd, 1) := by decide +kernel
theorem dX12_emits_41 : decode cX12_emits 41 = .ok (.putfield 201, 3) := by decide +kernel
theorem dX12_emits_44 : decode cX12_emits 44 = .ok (.return_, 1) := by decide +kernel
theorem dX12_wordOfPart_0 : decode cX12_wordOfPart 0 = .ok (.aload_n 0, 1) := by decide +kernel
theorem dX12_wordOfPart_1 : decode cX12_wordOfPart 1 = .ok (.ldc 175, 2) := by decide +kernel
theorem dX12_wordOfPart_3 : decode cX12_wordOfPart 3 = .ok (.invokevirtual 136, 3) := by decide +kernel
theorem dX12_wordOfPart_6 : decode cX12_wordOfPart 6 = .ok (.ifCond .eq 5, 3) := by decide +kernel
theorem dX12_wordOfPart_9 : decode cX12_wordOfPart 9 = .ok (.iconst 0, 1) := by decide +kernel
theorem dX12_wordOfPart_10 : decode cX12_wordOfPart 10 = .ok (.ireturn, 1) := by decide +kernel
theorem dX12_wordOfPart_11 : decode cX12_wordOfPart 11 = .ok (.aload_n 0, 1) := by decide +kernel
theorem dX12_wordOfPart_12 : decode cX12_wordOfPart 12 = .ok (.ldc 151, 2) := by decide +kernel
theorem dX12_wordOfPart_14 : decode cX12_wordOfPart 14 = .ok (.invokevirtual 136, 3) := by decide +kernel
theorem dX12_wordOfPart_17 : decode cX12_wordOfPart 17 = .ok (.ifCond .eq 5, 3) := by decide +kernel
theorem dX12_wordOfPart_20 : decode cX12_wordOfPart 20 = .ok (.iconst 1, 1) := by decide +kernel
theorem dX12_wordOfPart_21 : decode cX12_wordOfPart 21 = .ok (.ireturn, 1) := by decide +kernel
theorem dX12_wordOfPart_22 : decode cX12_wordOfPart 22 = .ok (.aload_n 0, 1) := by decide +kernel
theorem dX12_wordOfPart_23 : decode cX12_wordOfPart 23 = .ok (.ldc 156, 2) := by decide +kernel
theorem dX12_wordOfPart_25 : decode cX12_wordOfPart 25 = .ok (.invokevirtual 136, 3) := by decide +kernel
theorem dX12_wordOfPart_28 : decode cX12_wordOfPart 28 = .ok (.ifCond .eq 5, 3) := by decide +kernel
theorem dX12_wordOfPart_31 : decode cX12_wordOfPart 31 = .ok (.iconst 2, 1) := by decide +kernel
theorem dX12_wordOfPart_32 : decode cX12_wordOfPart 32 = .ok (.ireturn, 1) := by decide +kernel
theorem dX12_wordOfPart_33 : decode cX12_wordOfPart 33 = .ok (.aload_n 0, 1) := by decide +kernel
theorem dX12_wordOfPart_34 : decode cX12_wordOfPart 34 = .ok (.ldc 204, 2) := by decide +kernel
theorem dX12_wordOfPart_36 : decode cX12_wordOfPart 36 = .ok (.invokevirtual 136, 3) := by decide +kernel
theorem dX12_wordOfPart_39 : decode cX12_wordOfPart 39 = .ok (.ifCond .eq 5, 3) := by decide +kernel
theorem dX12_wordOfPart_42 : decode cX12_wordOfPart 42 = .ok (.iconst 3, 1) := by decide +kernel
theorem dX12_wordOfPart_43 : decode cX12_wordOfPart 43 = .ok (.ireturn, 1) := by decide +kernel
theorem dX12_wordOfPart_44 : decode cX12_wordOfPart 44 = .ok (.aload_n 0, 1) := by decide +kernel
theorem dX12_wordOfPart_45 : decode cX12_wordOfPart 45 = .ok (.ldc 206, 2) := by decide +kernel
theorem dX12_wordOfPart_47 : decode cX12_wordOfPart 47 = .ok (.invokevirtual 136, 3) := by decide +kernel
theorem dX12_wordOfPart_50 : decode cX12_wordOfPart 50 = .ok (.ifCond .eq 5, 3) := by decide +kernel
theorem dX12_wordOfPart_53 : decode cX12_wordOfPart 53 = .ok (.iconst 4, 1) := by decide +kernel
theorem dX12_wordOfPart_54 : decode cX12_wordOfPart 54 = .ok (.ireturn, 1) := by decide +kernel
theorem dX12_wordOfPart_55 : decode cX12_wordOfPart 55 = .ok (.aload_n 0, 1) := by decide +kernel
theorem dX12_wordOfPart_56 : decode cX12_wordOfPart 56 = .ok (.ldc 208, 2) := by decide +kernel
theorem dX12_wordOfPart_58 : decode cX12_wordOfPart 58 = .ok (.invokevirtual 136, 3) := by decide +kernel
theorem dX12_wordOfPart_61 : decode cX12_wordOfPart 61 = .ok (.ifCond .eq 5, 3) := by decide +kernel
theorem dX12_wordOfPart_64 : decode cX12_wordOfPart 64 = .ok (.iconst 5, 1) := by decide +kernel
theorem dX12_wordOfPart_65 : decode cX12_wordOfPart 65 = .ok (.ireturn, 1) := by decide +kernel
theorem dX12_wordOfPart_66 : decode cX12_wordOfPart 66 = .ok (.aload_n 0, 1) := by decide +kernel
theorem dX12_wordOfPart_67 : decode cX12_wordOfPart 67 = .ok (.ldc 210, 2) := by decide +kernel
theorem dX12_wordOfPart_69 : decode cX12_wordOfPart 69 = .ok (.invokevirtual 136, 3) := by decide +kernel
theorem dX12_wordOfPart_72 : decode cX12_wordOfPart 72 = .ok (.ifCond .eq 8, 3) := by decide +kernel
theorem dX12_wordOfPart_75 : decode cX12_wordOfPart 75 = .ok (.bipush 6, 2) := by decide +kernel
theorem dX12_wordOfPart_77 : decode cX12_wordOfPart 77 = .ok (.goto 4, 3) := by decide +kernel
theorem dX12_wordOfPart_80 : decode cX12_wordOfPart 80 = .ok (.iconst (-1), 1) := by decide +kernel
theorem dX12_wordOfPart_81 : decode cX12_wordOfPart 81 = .ok (.ireturn, 1) := by decide +kernel
theorem dX12_readPart_0 : decode cX12_readPart 0 = .ok (.aload_n 0, 1) := by decide +kernel
theorem dX12_readPart_1 : decode cX12_readPart 1 = .ok (.invokevirtual 133, 3) := by decide +kernel
theorem dX12_readPart_4 : decode cX12_readPart 4 = .ok (.aload_n 0, 1) := by decide +kernel
theorem dX12_readPart_5 : decode cX12_readPart 5 = .ok (.getfield 108, 3) := by decide +kernel
theorem dX12_readPart_8 : decode cX12_readPart 8 = .ok (.aload_n 0, 1) := by decide +kernel
theorem dX12_readPart_9 : decode cX12_readPart 9 = .ok (.getfield 118, 3) := by decide +kernel
theorem dX12_readPart_12 : decode cX12_readPart 12 = .ok (.if_icmp .ne 7, 3) := by decide +kernel
theorem dX12_readPart_15 : decode cX12_readPart 15 = .ok (.iconst 1, 1) := by decide +kernel
theorem dX12_readPart_16 : decode cX12_readPart 16 = .ok (.goto 4, 3) := by decide +kernel
theorem dX12_readPart_19 : decode cX12_readPart 19 = .ok (.iconst 0, 1) := by decide +kernel
theorem dX12_readPart_20 : decode cX12_readPart 20 = .ok (.istore_n 1, 1) := by decide +kernel
theorem dX12_readPart_21 : decode cX12_readPart 21 = .ok (.iload_n 1, 1) := by decide +kernel
theorem dX12_readPart_22 : decode cX12_readPart 22 = .ok (.ifCond .eq 14, 3) := by decide +kernel
theorem dX12_readPart_25 : decode cX12_readPart 25 = .ok (.aload_n 0, 1) := by decide +kernel
theorem dX12_readPart_26 : decode cX12_readPart 26 = .ok (.iconst 0, 1) := by decide +kernel
theorem dX12_readPart_27 : decode cX12_readPart 27 = .ok (.sipush 999, 3) := by decide +kernel
theorem dX12_readPart_30 : decode cX12_readPart 30 = .ok (.invokevirtual 140, 3) := by decide +kernel
theorem dX12_readPart_33 : decode cX12_readPart 33 = .ok (.goto 7, 3) := by decide +kernel
theorem dX12_readPart_36 : decode cX12_readPart 36 = .ok (.aload_n 0, 1) := by decide +kernel
theorem dX12_readPart_37 : decode cX12_readPart 37 = .ok (.invokevirtual 212, 3) := by decide +kernel
theorem dX12_readPart_40 : decode cX12_readPart 40 = .ok (.istore_n 2, 1) := by decide +kernel
theorem dX12_readPart_41 : decode cX12_readPart 41 = .ok (.aload_n 0, 1) := by decide +kernel
theorem dX12_readPart_42 : decode cX12_readPart 42 = .ok (.iload_n 1, 1) := by decide +kernel
theorem dX12_readPart_43 : decode cX12_readPart 43 = .ok (.ifCond .eq 8, 3) := by decide +kernel
theorem dX12_readPart_46 : decode cX12_readPart 46 = .ok (.bipush 10, 2) := by decide +kernel
theorem dX12_readPart_48 : decode cX12_readPart 48 = .ok (.goto 4, 3) := by decide +kernel
theorem dX12_readPart_51 : decode cX12_readPart 51 = .ok (.iload_n 2, 1) := by decide +kernel
theorem dX12_readPart_52 : decode cX12_readPart 52 = .ok (.iload_n 1, 1) := by decide +kernel
theorem dX12_readPart_53 : decode cX12_readPart 53 = .ok (.ifCond .eq 7, 3) := by decide +kernel
theorem dX12_readPart_56 : decode cX12_readPart 56 = .ok (.iload_n 2, 1) := by decide +kernel
theorem dX12_readPart_57 : decode cX12_readPart 57 = .ok (.goto 4, 3) := by decide +kernel
theorem dX12_readPart_60 : decode cX12_readPart 60 = .ok (.iconst 0, 1) := by decide +kernel
theorem dX12_readPart_61 : decode cX12_readPart 61 = .ok (.invokevirtual 215, 3) := by decide +kernel
theorem dX12_readPart_64 : decode cX12_readPart 64 = .ok (.iload_n 2, 1) := by decide +kernel
theorem dX12_readPart_65 : decode cX12_readPart 65 = .ok (.ifCond .lt 7, 3) := by decide +kernel
theorem dX12_readPart_68 : decode cX12_readPart 68 = .ok (.iconst 1, 1) := by decide +kernel
theorem dX12_readPart_69 : decode cX12_readPart 69 = .ok (.goto 4, 3) := by decide +kernel
theorem dX12_readPart_72 : decode cX12_readPart 72 = .ok (.iconst 0, 1) := by decide +kernel
theorem dX12_readPart_73 : decode cX12_readPart 73 = .ok (.ireturn, 1) := by decide +kernel
theorem dX12_readSum_0 : decode cX12_readSum 0 = .ok (.aload_n 0, 1) := by decide +kernel
theorem dX12_readSum_1 : decode cX12_readSum 1 = .ok (.invokevirtual 219, 3) := by decide +kernel
theorem dX12_readSum_4 : decode cX12_readSum 4 = .ok (.ifCond .ne 5, 3) := by decide +kernel
theorem dX12_readSum_7 : decode cX12_readSum 7 = .ok (.iconst 0, 1) := by decide +kernel
theorem dX12_readSum_8 : decode cX12_readSum 8 = .ok (.ireturn, 1) := by decide +kernel
theorem dX12_readSum_9 : decode cX12_readSum 9 = .ok (.aload_n 0, 1) := by decide +kernel
theorem dX12_readSum_10 : decode cX12_readSum 10 = .ok (.bipush 43, 2) := by decide +kernel
theorem dX12_readSum_12 : decode cX12_readSum 12 = .ok (.invokevirtual 222, 3) := by decide +kernel
theorem dX12_readSum_15 : decode cX12_readSum 15 = .ok (.ifCond .eq 22, 3) := by decide +kernel
theorem dX12_readSum_18 : decode cX12_readSum 18 = .ok (.aload_n 0, 1) := by decide +kernel
theorem dX12_readSum_19 : decode cX12_readSum 19 = .ok (.invokevirtual 219, 3) := by decide +kernel
theorem dX12_readSum_22 : decode cX12_readSum 22 = .ok (.ifCond .ne 5, 3) := by decide +kernel
theorem dX12_readSum_25 : decode cX12_readSum 25 = .ok (.iconst 0, 1) := by decide +kernel
theorem dX12_readSum_26 : decode cX12_readSum 26 = .ok (.ireturn, 1) := by decide +kernel
theorem dX12_readSum_27 : decode cX12_readSum 27 = .ok (.aload_n 0, 1) := by decide +kernel
theorem dX12_readSum_28 : decode cX12_readSum 28 = .ok (.bipush 11, 2) := by decide +kernel
theorem dX12_readSum_30 : decode cX12_readSum 30 = .ok (.iconst 0, 1) := by decide +kernel
theorem dX12_readSum_31 : decode cX12_readSum 31 = .ok (.invokevirtual 215, 3) := by decide +kernel
theorem dX12_readSum_34 : decode cX12_readSum 34 = .ok (.goto (-25), 3) := by decide +kernel
theorem dX12_readSum_37 : decode cX12_readSum 37 = .ok (.iconst 1, 1) := by decide +kernel
theorem dX12_readSum_38 : decode cX12_readSum 38 = .ok (.ireturn, 1) := by decide +kernel
theorem dX12_readTag_0 : decode cX12_readTag 0 = .ok (.aload_n 0, 1) := by decide +kernel
theorem dX12_readTag_1 : decode cX12_readTag 1 = .ok (.invokevirtual 133, 3) := by decide +kernel
theorem dX12_readTag_4 : decode cX12_readTag 4 = .ok (.aload_n 0, 1) := by decide +kernel
theorem dX12_readTag_5 : decode cX12_readTag 5 = .ok (.ldc 162, 2) := by decide +kernel
theorem dX12_readTag_7 : decode cX12_readTag 7 = .ok (.invokevirtual 136, 3) := by decide +kernel
theorem dX12_readTag_10 : decode cX12_readTag 10 = .ok (.ifCond .eq 8, 3) := by decide +kernel
theorem dX12_readTag_13 : decode cX12_readTag 13 = .ok (.bipush 7, 2) := by decide +kernel
theorem dX12_readTag_15 : decode cX12_readTag 15 = .ok (.goto 32, 3) := by decide +kernel
theorem dX12_readTag_18 : decode cX12_readTag 18 = .ok (.aload_n 0, 1) := by decide +kernel
theorem dX12_readTag_19 : decode cX12_readTag 19 = .ok (.ldc 194, 2) := by decide +kernel
theorem dX12_readTag_21 : decode cX12_readTag 21 = .ok (.invokevirtual 136, 3) := by decide +kernel
theorem dX12_readTag_24 : decode cX12_readTag 24 = .ok (.ifCond .eq 8, 3) := by decide +kernel
theorem dX12_readTag_27 : decode cX12_readTag 27 = .ok (.bipush 8, 2) := by decide +kernel
theorem dX12_readTag_29 : decode cX12_readTag 29 = .ok (.goto 18, 3) := by decide +kernel
theorem dX12_readTag_32 : decode cX12_readTag 32 = .ok (.aload_n 0, 1) := by decide +kernel
theorem dX12_readTag_33 : decode cX12_readTag 33 = .ok (.ldc 226, 2) := by decide +kernel
theorem dX12_readTag_35 : decode cX12_readTag 35 = .ok (.invokevirtual 136, 3) := by decide +kernel
theorem dX12_readTag_38 : decode cX12_readTag 38 = .ok (.ifCond .eq 8, 3) := by decide +kernel
theorem dX12_readTag_41 : decode cX12_readTag 41 = .ok (.bipush 9, 2) := by decide +kernel
theorem dX12_readTag_43 : decode cX12_readTag 43 = .ok (.goto 4, 3) := by decide +kernel
theorem dX12_readTag_46 : decode cX12_readTag 46 = .ok (.iconst (-1), 1) := by decide +kernel
theorem dX12_readTag_47 : decode cX12_readTag 47 = .ok (.istore_n 1, 1) := by decide +kernel
theorem dX12_readTag_48 : decode cX12_readTag 48 = .ok (.iload_n 1, 1) := by decide +kernel
theorem dX12_readTag_49 : decode cX12_readTag 49 = .ok (.ifCond .lt 12, 3) := by decide +kernel
theorem dX12_readTag_52 : decode cX12_readTag 52 = .ok (.aload_n 0, 1) := by decide +kernel
theorem dX12_readTag_53 : decode cX12_readTag 53 = .ok (.iload_n 1, 1) := by decide +kernel
theorem dX12_readTag_54 : decode cX12_readTag 54 = .ok (.iconst 0, 1) := by decide +kernel
theorem dX12_readTag_55 : decode cX12_readTag 55 = .ok (.invokevirtual 215, 3) := by decide +kernel
theorem dX12_readTag_58 : decode cX12_readTag 58 = .ok (.goto 11, 3) := by decide +kernel
theorem dX12_readTag_61 : decode cX12_readTag 61 = .ok (.aload_n 0, 1) := by decide +kernel
theorem dX12_readTag_62 : decode cX12_readTag 62 = .ok (.aload_n 0, 1) := by decide +kernel
theorem dX12_readTag_63 : decode cX12_readTag 63 = .ok (.getfield 118, 3) := by decide +kernel
theorem dX12_readTag_66 : decode cX12_readTag 66 = .ok (.putfield 108, 3) := by decide +kernel
theorem dX12_readTag_69 : decode cX12_readTag 69 = .ok (.iload_n 1, 1) := by decide +kernel
theorem dX12_readTag_70 : decode cX12_readTag 70 = .ok (.ifCond .lt 7, 3) := by decide +kernel
theorem dX12_readTag_73 : decode cX12_readTag 73 = .ok (.iconst 1, 1) := by decide +kernel
theorem dX12_readTag_74 : decode cX12_readTag 74 = .ok (.goto 4, 3) := by decide +kernel
theorem dX12_readTag_77 : decode cX12_readTag 77 = .ok (.iconst 0, 1) := by decide +kernel
theorem dX12_readTag_78 : decode cX12_readTag 78 = .ok (.ireturn, 1) := by decide +kernel
theorem dX12_readAtom_0 : decode cX12_readAtom 0 = .ok (.aload_n 0, 1) := by decide +kernel
theorem dX12_readAtom_1 : decode cX12_readAtom 1 = .ok (.bipush 40, 2) := by decide +kernel
theorem dX12_readAtom_3 : decode cX12_readAtom 3 = .ok (.invokevirtual 222, 3) := by decide +kernel
theorem dX12_readAtom_6 : decode cX12_readAtom 6 = .ok (.ifCond .eq 50, 3) := by decide +kernel
theorem dX12_readAtom_9 : decode cX12_readAtom 9 = .ok (.aload_n 0, 1) := by decide +kernel
theorem dX12_readAtom_10 : decode cX12_readAtom 10 = .ok (.getfield 228, 3) := by decide +kernel
theorem dX12_readAtom_13 : decode cX12_readAtom 13 = .ok (.bipush 6, 2) := by decide +kernel
theorem dX12_readAtom_15 : decode cX12_readAtom 15 = .ok (.if_icmp .ne 5, 3) := by decide +kernel
theorem dX12_readAtom_18 : decode cX12_readAtom 18 = .ok (.iconst 0, 1) := by decide +kernel
theorem dX12_readAtom_19 : decode cX12_readAtom 19 = .ok (.ireturn, 1) := by decide +kernel
theorem dX12_readAtom_20 : decode cX12_readAtom 20 = .ok (.aload_n 0, 1) := by decide +kernel
theorem dX12_readAtom_21 : decode cX12_readAtom 21 = .ok (.dup, 1) := by decide +kernel
theorem dX12_readAtom_22 : decode cX12_readAtom 22 = .ok (.getfield 228, 3) := by decide +kernel
theorem dX12_readAtom_25 : decode cX12_readAtom 25 = .ok (.iconst 1, 1) := by decide +kernel
theorem dX12_readAtom_26 : decode cX12_readAtom 26 = .ok (.iadd, 1) := by decide +kernel
theorem dX12_readAtom_27 : decode cX12_readAtom 27 = .ok (.putfield 228, 3) := by decide +kernel
theorem dX12_readAtom_30 : decode cX12_readAtom 30 = .ok (.aload_n 0, 1) := by decide +kernel
theorem dX12_readAtom_31 : decode cX12_readAtom 31 = .ok (.invokevirtual 231, 3) := by decide +kernel
theorem dX12_readAtom_34 : decode cX12_readAtom 34 = .ok (.ifCond .ne 5, 3) := by decide +kernel
theorem dX12_readAtom_37 : decode cX12_readAtom 37 = .ok (.iconst 0, 1) := by decide +kernel
theorem dX12_readAtom_38 : decode cX12_readAtom 38 = .ok (.ireturn, 1) := by decide +kernel
theorem dX12_readAtom_39 : decode cX12_readAtom 39 = .ok (.aload_n 0, 1) := by decide +kernel
theorem dX12_readAtom_40 : decode cX12_readAtom 40 = .ok (.dup, 1) := by decide +kernel
theorem dX12_readAtom_41 : decode cX12_readAtom 41 = .ok (.getfield 228, 3) := by decide +kernel
theorem dX12_readAtom_44 : decode cX12_readAtom 44 = .ok (.iconst 1, 1) := by decide +kernel
theorem dX12_readAtom_45 : decode cX12_readAtom 45 = .ok (.isub, 1) := by decide +kernel
theorem dX12_readAtom_46 : decode cX12_readAtom 46 = .ok (.putfield 228, 3) := by decide +kernel
theorem dX12_readAtom_49 : decode cX12_readAtom 49 = .ok (.aload_n 0, 1) := by decide +kernel
theorem dX12_readAtom_50 : decode cX12_readAtom 50 = .ok (.bipush 41, 2) := by decide +kernel
theorem dX12_readAtom_52 : decode cX12_readAtom 52 = .ok (.invokevirtual 222, 3) := by decide +kernel
theorem dX12_readAtom_55 : decode cX12_readAtom 55 = .ok (.ireturn, 1) := by decide +kernel
theorem dX12_readAtom_56 : decode cX12_readAtom 56 = .ok (.aload_n 0, 1) := by decide +kernel
theorem dX12_readAtom_57 : decode cX12_readAtom 57 = .ok (.ldc 234, 2) := by decide +kernel
theorem dX12_readAtom_59 : decode cX12_readAtom 59 = .ok (.invokevirtual 164, 3) := by decide +kernel
theorem dX12_readAtom_62 : decode cX12_readAtom 62 = .ok (.ifCond .eq 52, 3) := by decide +kernel
theorem dX12_readAtom_65 : decode cX12_readAtom 65 = .ok (.aload_n 0, 1) := by decide +kernel
theorem dX12_readAtom_66 : decode cX12_readAtom 66 = .ok (.getfield 228, 3) := by decide +kernel
theorem dX12_readAtom_69 : decode cX12_readAtom 69 = .ok (.bipush 6, 2) := by decide +kernel
theorem dX12_readAtom_71 : decode cX12_readAtom 71 = .ok (.if_icmp .ne 5, 3) := by decide +kernel
theorem dX12_readAtom_74 : decode cX12_readAtom 74 = .ok (.iconst 0, 1) := by decide +kernel
theorem dX12_readAtom_75 : decode cX12_readAtom 75 = .ok (.ireturn, 1) := by decide +kernel
theorem dX12_readAtom_76 : decode cX12_readAtom 76 = .ok (.aload_n 0, 1) := by decide +kernel
theorem dX12_readAtom_77 : decode cX12_readAtom 77 = .ok (.dup, 1) := by decide +kernel
theorem dX12_readAtom_78 : decode cX12_readAtom 78 = .ok (.getfield 228, 3) := by decide +kernel
theorem dX12_readAtom_81 : decode cX12_readAtom 81 = .ok (.iconst 1, 1) := by decide +kernel
theorem dX12_readAtom_82 : decode cX12_readAtom 82 = .ok (.iadd, 1) := by decide +kernel
theorem dX12_readAtom_83 : decode cX12_readAtom 83 = .ok (.putfield 228, 3) := by decide +kernel
theorem dX12_readAtom_86 : decode cX12_readAtom 86 = .ok (.aload_n 0, 1) := by decide +kernel
theorem dX12_readAtom_87 : decode cX12_readAtom 87 = .ok (.invokevirtual 236, 3) := by decide +kernel
theorem dX12_readAtom_90 : decode cX12_readAtom 90 = .ok (.ifCond .ne 5, 3) := by decide +kernel
theorem dX12_readAtom_93 : decode cX12_readAtom 93 = .ok (.iconst 0, 1) := by decide +kernel
theorem dX12_readAtom_94 : decode cX12_readAtom 94 = .ok (.ireturn, 1) := by decide +kernel
theorem dX12_readAtom_95 : decode cX12_readAtom 95 = .ok (.aload_n 0, 1) := by decide +kernel
theorem dX12_readAtom_96 : decode cX12_readAtom 96 = .ok (.dup, 1) := by decide +kernel
theorem dX12_readAtom_97 : decode cX12_readAtom 97 = .ok (.getfield 228, 3) := by decide +kernel
theorem dX12_readAtom_100 : decode cX12_readAtom 100 = .ok (.iconst 1, 1) := by decide +kernel
theorem dX12_readAtom_101 : decode cX12_readAtom 101 = .ok (.isub, 1) := by decide +kernel
theorem dX12_readAtom_102 : decode cX12_readAtom 102 = .ok (.putfield 228, 3) := by decide +kernel
theorem dX12_readAtom_105 : decode cX12_readAtom 105 = .ok (.aload_n 0, 1) := by decide +kernel
theorem dX12_readAtom_106 : decode cX12_readAtom 106 = .ok (.bipush 14, 2) := by decide +kernel
theorem dX12_readAtom_108 : decode cX12_readAtom 108 = .ok (.iconst 0, 1) := by decide +kernel
theorem dX12_readAtom_109 : decode cX12_readAtom 109 = .ok (.invokevirtual 215, 3) := by decide +kernel
theorem dX12_readAtom_112 : decode cX12_readAtom 112 = .ok (.iconst 1, 1) := by decide +kernel
theorem dX12_readAtom_113 : decode cX12_readAtom 113 = .ok (.ireturn, 1) := by decide +kernel
theorem dX12_readAtom_114 : decode cX12_readAtom 114 = .ok (.aload_n 0, 1) := by decide +kernel
theorem dX12_readAtom_115 : decode cX12_readAtom 115 = .ok (.invokevirtual 239, 3) := by decide +kernel
theorem dX12_readAtom_118 : decode cX12_readAtom 118 = .ok (.ifCond .eq 5, 3) := by decide +kernel
theorem dX12_readAtom_121 : decode cX12_readAtom 121 = .ok (.iconst 1, 1) := by decide +kernel
theorem dX12_readAtom_122 : decode cX12_readAtom 122 = .ok (.ireturn, 1) := by decide +kernel
theorem dX12_readAtom_123 : decode cX12_readAtom 123 = .ok (.aload_n 0, 1) := by decide +kernel
theorem dX12_readAtom_124 : decode cX12_readAtom 124 = .ok (.invokevirtual 242, 3) := by decide +kernel
theorem dX12_readAtom_127 : decode cX12_readAtom 127 = .ok (.ifCond .ne 5, 3) := by decide +kernel
theorem dX12_readAtom_130 : decode cX12_readAtom 130 = .ok (.iconst 0, 1) := by decide +kernel
theorem dX12_readAtom_131 : decode cX12_readAtom 131 = .ok (.ireturn, 1) := by decide +kernel
theorem dX12_readAtom_132 : decode cX12_readAtom 132 = .ok (.aload_n 0, 1) := by decide +kernel
theorem dX12_readAtom_133 : decode cX12_readAtom 133 = .ok (.bipush 60, 2) := by decide +kernel
theorem dX12_readAtom_135 : decode cX12_readAtom 135 = .ok (.invokevirtual 222, 3) := by decide +kernel
theorem dX12_readAtom_138 : decode cX12_readAtom 138 = .ok (.istore_n 1, 1) := by decide +kernel
theorem dX12_readAtom_139 : decode cX12_readAtom 139 = .ok (.iload_n 1, 1) := by decide +kernel
theorem dX12_readAtom_140 : decode cX12_readAtom 140 = .ok (.ifCond .ne 12, 3) := by decide +kernel
theorem dX12_readAtom_143 : decode cX12_readAtom 143 = .ok (.aload_n 0, 1) := by decide +kernel
theorem dX12_readAtom_144 : decode cX12_readAtom 144 = .ok (.bipush 62, 2) := by decide +kernel
theorem dX12_readAtom_146 : decode cX12_readAtom 146 = .ok (.invokevirtual 222, 3) := by decide +kernel
theorem dX12_readAtom_149 : decode cX12_readAtom 149 = .ok (.ifCond .eq 10, 3) := by decide +kernel
theorem dX12_readAtom_152 : decode cX12_readAtom 152 = .ok (.aload_n 0, 1) := by decide +kernel
theorem dX12_readAtom_153 : decode cX12_readAtom 153 = .ok (.invokevirtual 242, 3) := by decide +kernel
theorem dX12_readAtom_156 : decode cX12_readAtom 156 = .ok (.ifCond .ne 5, 3) := by decide +kernel
theorem dX12_readAtom_159 : decode cX12_readAtom 159 = .ok (.iconst 0, 1) := by decide +kernel
theorem dX12_readAtom_160 : decode cX12_readAtom 160 = .ok (.ireturn, 1) := by decide +kernel
theorem dX12_readAtom_161 : decode cX12_readAtom 161 = .ok (.aload_n 0, 1) := by decide +kernel
theorem dX12_readAtom_162 : decode cX12_readAtom 162 = .ok (.iload_n 1, 1) := by decide +kernel
theorem dX12_readAtom_163 : decode cX12_readAtom 163 = .ok (.ifCond .eq 8, 3) := by decide +kernel
theorem dX12_readAtom_166 : decode cX12_readAtom 166 = .ok (.bipush 12, 2) := by decide +kernel
theorem dX12_readAtom_168 : decode cX12_readAtom 168 = .ok (.goto 5, 3) := by decide +kernel
theorem dX12_readAtom_171 : decode cX12_readAtom 171 = .ok (.bipush 13, 2) := by decide +kernel
theorem dX12_readAtom_173 : decode cX12_readAtom 173 = .ok (.iconst 0, 1) := by decide +kernel
theorem dX12_readAtom_174 : decode cX12_readAtom 174 = .ok (.invokevirtual 215, 3) := by decide +kernel
theorem dX12_readAtom_177 : decode cX12_readAtom 177 = .ok (.iconst 1, 1) := by decide +kernel
theorem dX12_readAtom_178 : decode cX12_readAtom 178 = .ok (.ireturn, 1) := by decide +kernel
theorem dX12_readAllOf_0 : decode cX12_readAllOf 0 = .ok (.aload_n 0, 1) := by decide +kernel
theorem dX12_readAllOf_1 : decode cX12_readAllOf 1 = .ok (.invokevirtual 236, 3) := by decide +kernel
theorem dX12_readAllOf_4 : decode cX12_readAllOf 4 = .ok (.ifCond .ne 5, 3) := by decide +kernel
theorem dX12_readAllOf_7 : decode cX12_readAllOf 7 = .ok (.iconst 0, 1) := by decide +kernel
theorem dX12_readAllOf_8 : decode cX12_readAllOf 8 = .ok (.ireturn, 1) := by decide +kernel
theorem dX12_readAllOf_9 : decode cX12_readAllOf 9 = .ok (.aload_n 0, 1) := by decide +kernel
theorem dX12_readAllOf_10 : decode cX12_readAllOf 10 = .ok (.ldc 245, 2) := by decide +kernel
theorem dX12_readAllOf_12 : decode cX12_readAllOf 12 = .ok (.invokevirtual 164, 3) := by decide +kernel
theorem dX12_readAllOf_15 : decode cX12_readAllOf 15 = .ok (.ifCond .eq 22, 3) := by decide +kernel
theorem dX12_readAllOf_18 : decode cX12_readAllOf 18 = .ok (.aload_n 0, 1) := by decide +kernel
theorem dX12_readAllOf_19 : decode cX12_readAllOf 19 = .ok (.invokevirtual 236, 3) := by decide +kernel
theorem dX12_readAllOf_22 : decode cX12_readAllOf 22 = .ok (.ifCond .ne 5, 3) := by decide +kernel
theorem dX12_readAllOf_25 : decode cX12_readAllOf 25 = .ok (.iconst 0, 1) := by decide +kernel
theorem dX12_readAllOf_26 : decode cX12_readAllOf 26 = .ok (.ireturn, 1) := by decide +kernel
theorem dX12_readAllOf_27 : decode cX12_readAllOf 27 = .ok (.aload_n 0, 1) := by decide +kernel
theorem dX12_readAllOf_28 : decode cX12_readAllOf 28 = .ok (.bipush 15, 2) := by decide +kernel
theorem dX12_readAllOf_30 : decode cX12_readAllOf 30 = .ok (.iconst 0, 1) := by decide +kernel
theorem dX12_readAllOf_31 : decode cX12_readAllOf 31 = .ok (.invokevirtual 215, 3) := by decide +kernel
theorem dX12_readAllOf_34 : decode cX12_readAllOf 34 = .ok (.goto (-25), 3) := by decide +kernel
theorem dX12_readAllOf_37 : decode cX12_readAllOf 37 = .ok (.iconst 1, 1) := by decide +kernel
theorem dX12_readAllOf_38 : decode cX12_readAllOf 38 = .ok (.ireturn, 1) := by decide +kernel
theorem dX12_readCond_0 : decode cX12_readCond 0 = .ok (.aload_n 0, 1) := by decide +kernel
theorem dX12_readCond_1 : decode cX12_readCond 1 = .ok (.invokevirtual 247, 3) := by decide +kernel
theorem dX12_readCond_4 : decode cX12_readCond 4 = .ok (.ifCond .ne 5, 3) := by decide +kernel
theorem dX12_readCond_7 : decode cX12_readCond 7 = .ok (.iconst 0, 1) := by decide +kernel
theorem dX12_readCond_8 : decode cX12_readCond 8 = .ok (.ireturn, 1) := by decide +kernel
theorem dX12_readCond_9 : decode cX12_readCond 9 = .ok (.aload_n 0, 1) := by decide +kernel
theorem dX12_readCond_10 : decode cX12_readCond 10 = .ok (.ldc 250, 2) := by decide +kernel
theorem dX12_readCond_12 : decode cX12_readCond 12 = .ok (.invokevirtual 164, 3) := by decide +kernel
theorem dX12_readCond_15 : decode cX12_readCond 15 = .ok (.ifCond .eq 22, 3) := by decide +kernel
theorem dX12_readCond_18 : decode cX12_readCond 18 = .ok (.aload_n 0, 1) := by decide +kernel
theorem dX12_readCond_19 : decode cX12_readCond 19 = .ok (.invokevirtual 247, 3) := by decide +kernel
theorem dX12_readCond_22 : decode cX12_readCond 22 = .ok (.ifCond .ne 5, 3) := by decide +kernel
theorem dX12_readCond_25 : decode cX12_readCond 25 = .ok (.iconst 0, 1) := by decide +kernel
theorem dX12_readCond_26 : decode cX12_readCond 26 = .ok (.ireturn, 1) := by decide +kernel
theorem dX12_readCond_27 : decode cX12_readCond 27 = .ok (.aload_n 0, 1) := by decide +kernel
theorem dX12_readCond_28 : decode cX12_readCond 28 = .ok (.bipush 16, 2) := by decide +kernel
theorem dX12_readCond_30 : decode cX12_readCond 30 = .ok (.iconst 0, 1) := by decide +kernel
theorem dX12_readCond_31 : decode cX12_readCond 31 = .ok (.invokevirtual 215, 3) := by decide +kernel
theorem dX12_readCond_34 : decode cX12_readCond 34 = .ok (.goto (-25), 3) := by decide +kernel
theorem dX12_readCond_37 : decode cX12_readCond 37 = .ok (.iconst 1, 1) := by decide +kernel
theorem dX12_readCond_38 : decode cX12_readCond 38 = .ok (.ireturn, 1) := by decide +kernel
theorem dX12_readLawLine_0 : decode cX12_readLawLine 0 = .ok (.sipush 1158, 3) := by decide +kernel
theorem dX12_readLawLine_3 : decode cX12_readLawLine 3 = .ok (.iconst 4, 1) := by decide +kernel
theorem dX12_readLawLine_4 : decode cX12_readLawLine 4 = .ok (.iload_n 1, 1) := by decide +kernel
theorem dX12_readLawLine_5 : decode cX12_readLawLine 5 = .ok (.imul, 1) := by decide +kernel
theorem dX12_readLawLine_6 : decode cX12_readLawLine 6 = .ok (.iadd, 1) := by decide +kernel
theorem dX12_readLawLine_7 : decode cX12_readLawLine 7 = .ok (.istore_n 2, 1) := by decide +kernel
theorem dX12_readLawLine_8 : decode cX12_readLawLine 8 = .ok (.aload_n 0, 1) := by decide +kernel
theorem dX12_readLawLine_9 : decode cX12_readLawLine 9 = .ok (.getfield 13, 3) := by decide +kernel
theorem dX12_readLawLine_12 : decode cX12_readLawLine 12 = .ok (.iload_n 2, 1) := by decide +kernel
theorem dX12_readLawLine_13 : decode cX12_readLawLine 13 = .ok (.aload_n 0, 1) := by decide +kernel
theorem dX12_readLawLine_14 : decode cX12_readLawLine 14 = .ok (.ldc 252, 2) := by decide +kernel
theorem dX12_readLawLine_16 : decode cX12_readLawLine 16 = .ok (.invokevirtual 136, 3) := by decide +kernel
theorem dX12_readLawLine_19 : decode cX12_readLawLine 19 = .ok (.ifCond .eq 7, 3) := by decide +kernel
theorem dX12_readLawLine_22 : decode cX12_readLawLine 22 = .ok (.iconst 0, 1) := by decide +kernel
theorem dX12_readLawLine_23 : decode cX12_readLawLine 23 = .ok (.goto 31, 3) := by decide +kernel
theorem dX12_readLawLine_26 : decode cX12_readLawLine 26 = .ok (.aload_n 0, 1) := by decide +kernel
theorem dX12_readLawLine_27 : decode cX12_readLawLine 27 = .ok (.ldc 254, 2) := by decide +kernel
theorem dX12_readLawLine_29 : decode cX12_readLawLine 29 = .ok (.invokevirtual 136, 3) := by decide +kernel
theorem dX12_readLawLine_32 : decode cX12_readLawLine 32 = .ok (.ifCond .eq 7, 3) := by decide +kernel
theorem dX12_readLawLine_35 : decode cX12_readLawLine 35 = .ok (.iconst 1, 1) := by decide +kernel
theorem dX12_readLawLine_36 : decode cX12_readLawLine 36 = .ok (.goto 18, 3) := by decide +kernel
